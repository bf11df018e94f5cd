/-! the words of the tables, each by its place; by program -/
theorem mt_0 : p_mthP 0 := ⟨by decide +kernel, p_wi (p_t1 (List.mem_of_getElem? (i := 8) rfl)) rfl, p_wi (p_t2 (List.mem_of_getElem? (i := 55) rfl)) rfl, by decide +kernel, by decide +kernel, by decide +kernel⟩
theorem mi_0 : Cond.instanceMethod (p_mi 0).1 ∈ p_tb := p_wi (p_t2 (List.mem_of_getElem? (i := 54) rfl)) rfl
theorem mt_1 : p_mthP 1 := ⟨by decide +kernel, p_wi (p_t1 (List.mem_of_getElem? (i := 8) rfl)) rfl, p_wi (p_t4 (List.mem_of_getElem? (i := 221) rfl)) rfl, by decide +kernel, by decide +kernel, by decide +kernel⟩
theorem mi_1 : Cond.instanceMethod (p_mi 1).1 ∈ p_tb := p_wi (p_t4 (List.mem_of_getElem? (i := 219) rfl)) rfl
theorem mz_1 : Cond.selects (p_mi 1).1.cls (p_mi 1).1 (p_mi 1).1 ∈ p_tb := p_wi (p_t4 (List.mem_of_getElem? (i := 220) rfl)) rfl
theorem mt_2 : p_mthP 2 := ⟨by decide +kernel, p_wi (p_t1 (List.mem_of_getElem? (i := 7) rfl)) rfl, p_wi (p_t1 (List.mem_of_getElem? (i := 146) rfl)) rfl, by decide +kernel, by decide +kernel, by decide +kernel⟩
theorem mi_2 : Cond.instanceMethod (p_mi 2).1 ∈ p_tb := p_wi (p_t1 (List.mem_of_getElem? (i := 145) rfl)) rfl
theorem mt_3 : p_mthP 3 := ⟨by decide +kernel, p_wi (p_t1 (List.mem_of_getElem? (i := 7) rfl)) rfl, p_wi (p_t3 (List.mem_of_getElem? (i := 173) rfl)) rfl, by decide +kernel, by decide +kernel, by decide +kernel⟩
theorem mi_3 : Cond.instanceMethod (p_mi 3).1 ∈ p_tb := p_wi (p_t3 (List.mem_of_getElem? (i := 171) rfl)) rfl
theorem mz_3 : Cond.selects (p_mi 3).1.cls (p_mi 3).1 (p_mi 3).1 ∈ p_tb := p_wi (p_t3 (List.mem_of_getElem? (i := 172) rfl)) rfl
theorem mt_4 : p_mthP 4 := ⟨by decide +kernel, p_wi (p_t1 (List.mem_of_getElem? (i := 7) rfl)) rfl, p_wi (p_t2 (List.mem_of_getElem? (i := 168) rfl)) rfl, by decide +kernel, by decide +kernel, by decide +kernel⟩
theorem ms_4 : Cond.static (p_mi 4).1 ∈ p_tb := p_wi (p_t2 (List.mem_of_getElem? (i := 167) rfl)) rfl
theorem mt_5 : p_mthP 5 := ⟨by decide +kernel, p_wi (p_t1 (List.mem_of_getElem? (i := 7) rfl)) rfl, p_wi (p_t2 (List.mem_of_getElem? (i := 153) rfl)) rfl, by decide +kernel, by decide +kernel, by decide +kernel⟩
theorem mi_5 : Cond.instanceMethod (p_mi 5).1 ∈ p_tb := p_wi (p_t2 (List.mem_of_getElem? (i := 151) rfl)) rfl
theorem mz_5 : Cond.selects (p_mi 5).1.cls (p_mi 5).1 (p_mi 5).1 ∈ p_tb := p_wi (p_t2 (List.mem_of_getElem? (i := 152) rfl)) rfl
theorem mt_6 : p_mthP 6 := ⟨by decide +kernel, p_wi (p_t1 (List.mem_of_getElem? (i := 7) rfl)) rfl, p_wi (p_t2 (List.mem_of_getElem? (i := 173) rfl)) rfl, by decide +kernel, by decide +kernel, by decide +kernel⟩
theorem mi_6 : Cond.instanceMethod (p_mi 6).1 ∈ p_tb := p_wi (p_t2 (List.mem_of_getElem? (i := 171) rfl)) rfl
theorem mz_6 : Cond.selects (p_mi 6).1.cls (p_mi 6).1 (p_mi 6).1 ∈ p_tb := p_wi (p_t2 (List.mem_of_getElem? (i := 172) rfl)) rfl
theorem mt_7 : p_mthP 7 := ⟨by decide +kernel, p_wi (p_t1 (List.mem_of_getElem? (i := 7) rfl)) rfl, p_wi (p_t2 (List.mem_of_getElem? (i := 225) rfl)) rfl, by decide +kernel, by decide +kernel, by decide +kernel⟩
theorem mi_7 : Cond.instanceMethod (p_mi 7).1 ∈ p_tb := p_wi (p_t2 (List.mem_of_getElem? (i := 223) rfl)) rfl
theorem mz_7 : Cond.selects (p_mi 7).1.cls (p_mi 7).1 (p_mi 7).1 ∈ p_tb := p_wi (p_t2 (List.mem_of_getElem? (i := 224) rfl)) rfl
theorem mt_8 : p_mthP 8 := ⟨by decide +kernel, p_wi (p_t1 (List.mem_of_getElem? (i := 7) rfl)) rfl, p_wi (p_t2 (List.mem_of_getElem? (i := 181) rfl)) rfl, by decide +kernel, by decide +kernel, by decide +kernel⟩
theorem mi_8 : Cond.instanceMethod (p_mi 8).1 ∈ p_tb := p_wi (p_t2 (List.mem_of_getElem? (i := 179) rfl)) rfl
theorem mz_8 : Cond.selects (p_mi 8).1.cls (p_mi 8).1 (p_mi 8).1 ∈ p_tb := p_wi (p_t2 (List.mem_of_getElem? (i := 180) rfl)) rfl
theorem mt_9 : p_mthP 9 := ⟨by decide +kernel, p_wi (p_t1 (List.mem_of_getElem? (i := 7) rfl)) rfl, p_wi (p_t2 (List.mem_of_getElem? (i := 203) rfl)) rfl, by decide +kernel, by decide +kernel, by decide +kernel⟩
theorem mi_9 : Cond.instanceMethod (p_mi 9).1 ∈ p_tb := p_wi (p_t2 (List.mem_of_getElem? (i := 201) rfl)) rfl
theorem mz_9 : Cond.selects (p_mi 9).1.cls (p_mi 9).1 (p_mi 9).1 ∈ p_tb := p_wi (p_t2 (List.mem_of_getElem? (i := 202) rfl)) rfl
theorem mt_10 : p_mthP 10 := ⟨by decide +kernel, p_wi (p_t1 (List.mem_of_getElem? (i := 7) rfl)) rfl, p_wi (p_t2 (List.mem_of_getElem? (i := 199) rfl)) rfl, by decide +kernel, by decide +kernel, by decide +kernel⟩
theorem mi_10 : Cond.instanceMethod (p_mi 10).1 ∈ p_tb := p_wi (p_t2 (List.mem_of_getElem? (i := 197) rfl)) rfl
theorem mz_10 : Cond.selects (p_mi 10).1.cls (p_mi 10).1 (p_mi 10).1 ∈ p_tb := p_wi (p_t2 (List.mem_of_getElem? (i := 198) rfl)) rfl
theorem mt_11 : p_mthP 11 := ⟨by decide +kernel, p_wi (p_t1 (List.mem_of_getElem? (i := 7) rfl)) rfl, p_wi (p_t2 (List.mem_of_getElem? (i := 157) rfl)) rfl, by decide +kernel, by decide +kernel, by decide +kernel⟩
theorem mi_11 : Cond.instanceMethod (p_mi 11).1 ∈ p_tb := p_wi (p_t2 (List.mem_of_getElem? (i := 155) rfl)) rfl
theorem mz_11 : Cond.selects (p_mi 11).1.cls (p_mi 11).1 (p_mi 11).1 ∈ p_tb := p_wi (p_t2 (List.mem_of_getElem? (i := 156) rfl)) rfl
theorem mt_12 : p_mthP 12 := ⟨by decide +kernel, p_wi (p_t1 (List.mem_of_getElem? (i := 7) rfl)) rfl, p_wi (p_t4 (List.mem_of_getElem? (i := 10) rfl)) rfl, by decide +kernel, by decide +kernel, by decide +kernel⟩
theorem mi_12 : Cond.instanceMethod (p_mi 12).1 ∈ p_tb := p_wi (p_t4 (List.mem_of_getElem? (i := 8) rfl)) rfl
theorem mz_12 : Cond.selects (p_mi 12).1.cls (p_mi 12).1 (p_mi 12).1 ∈ p_tb := p_wi (p_t4 (List.mem_of_getElem? (i := 9) rfl)) rfl
theorem mt_13 : p_mthP 13 := ⟨by decide +kernel, p_wi (p_t1 (List.mem_of_getElem? (i := 7) rfl)) rfl, p_wi (p_t4 (List.mem_of_getElem? (i := 69) rfl)) rfl, by decide +kernel, by decide +kernel, by decide +kernel⟩
theorem mi_13 : Cond.instanceMethod (p_mi 13).1 ∈ p_tb := p_wi (p_t4 (List.mem_of_getElem? (i := 67) rfl)) rfl
theorem mz_13 : Cond.selects (p_mi 13).1.cls (p_mi 13).1 (p_mi 13).1 ∈ p_tb := p_wi (p_t4 (List.mem_of_getElem? (i := 68) rfl)) rfl
theorem mt_14 : p_mthP 14 := ⟨by decide +kernel, p_wi (p_t1 (List.mem_of_getElem? (i := 7) rfl)) rfl, p_wi (p_t2 (List.mem_of_getElem? (i := 229) rfl)) rfl, by decide +kernel, by decide +kernel, by decide +kernel⟩
theorem mi_14 : Cond.instanceMethod (p_mi 14).1 ∈ p_tb := p_wi (p_t2 (List.mem_of_getElem? (i := 227) rfl)) rfl
theorem mz_14 : Cond.selects (p_mi 14).1.cls (p_mi 14).1 (p_mi 14).1 ∈ p_tb := p_wi (p_t2 (List.mem_of_getElem? (i := 228) rfl)) rfl
theorem mt_15 : p_mthP 15 := ⟨by decide +kernel, p_wi (p_t1 (List.mem_of_getElem? (i := 7) rfl)) rfl, p_wi (p_t3 (List.mem_of_getElem? (i := 225) rfl)) rfl, by decide +kernel, by decide +kernel, by decide +kernel⟩
theorem mi_15 : Cond.instanceMethod (p_mi 15).1 ∈ p_tb := p_wi (p_t3 (List.mem_of_getElem? (i := 223) rfl)) rfl
theorem mz_15 : Cond.selects (p_mi 15).1.cls (p_mi 15).1 (p_mi 15).1 ∈ p_tb := p_wi (p_t3 (List.mem_of_getElem? (i := 224) rfl)) rfl
theorem mt_16 : p_mthP 16 := ⟨by decide +kernel, p_wi (p_t1 (List.mem_of_getElem? (i := 7) rfl)) rfl, p_wi (p_t4 (List.mem_of_getElem? (i := 65) rfl)) rfl, by decide +kernel, by decide +kernel, by decide +kernel⟩
theorem mi_16 : Cond.instanceMethod (p_mi 16).1 ∈ p_tb := p_wi (p_t4 (List.mem_of_getElem? (i := 63) rfl)) rfl
theorem mz_16 : Cond.selects (p_mi 16).1.cls (p_mi 16).1 (p_mi 16).1 ∈ p_tb := p_wi (p_t4 (List.mem_of_getElem? (i := 64) rfl)) rfl
theorem mt_17 : p_mthP 17 := ⟨by decide +kernel, p_wi (p_t1 (List.mem_of_getElem? (i := 7) rfl)) rfl, p_wi (p_t4 (List.mem_of_getElem? (i := 204) rfl)) rfl, by decide +kernel, by decide +kernel, by decide +kernel⟩
theorem mi_17 : Cond.instanceMethod (p_mi 17).1 ∈ p_tb := p_wi (p_t4 (List.mem_of_getElem? (i := 202) rfl)) rfl
theorem mz_17 : Cond.selects (p_mi 17).1.cls (p_mi 17).1 (p_mi 17).1 ∈ p_tb := p_wi (p_t4 (List.mem_of_getElem? (i := 203) rfl)) rfl
theorem mt_18 : p_mthP 18 := ⟨by decide +kernel, p_wi (p_t1 (List.mem_of_getElem? (i := 7) rfl)) rfl, p_wi (p_t3 (List.mem_of_getElem? (i := 209) rfl)) rfl, by decide +kernel, by decide +kernel, by decide +kernel⟩
theorem mi_18 : Cond.instanceMethod (p_mi 18).1 ∈ p_tb := p_wi (p_t3 (List.mem_of_getElem? (i := 207) rfl)) rfl
theorem mz_18 : Cond.selects (p_mi 18).1.cls (p_mi 18).1 (p_mi 18).1 ∈ p_tb := p_wi (p_t3 (List.mem_of_getElem? (i := 208) rfl)) rfl
theorem mt_19 : p_mthP 19 := ⟨by decide +kernel, p_wi (p_t1 (List.mem_of_getElem? (i := 7) rfl)) rfl, p_wi (p_t3 (List.mem_of_getElem? (i := 213) rfl)) rfl, by decide +kernel, by decide +kernel, by decide +kernel⟩
theorem mi_19 : Cond.instanceMethod (p_mi 19).1 ∈ p_tb := p_wi (p_t3 (List.mem_of_getElem? (i := 212) rfl)) rfl
theorem mz_19 : Cond.selects (p_mi 19).1.cls (p_mi 19).1 (p_mi 19).1 ∈ p_tb := p_wi (p_t0 (List.mem_of_getElem? (i := 21) rfl)) rfl
theorem mt_20 : p_mthP 20 := ⟨by decide +kernel, p_wi (p_t1 (List.mem_of_getElem? (i := 7) rfl)) rfl, p_wi (p_t3 (List.mem_of_getElem? (i := 232) rfl)) rfl, by decide +kernel, by decide +kernel, by decide +kernel⟩
theorem mi_20 : Cond.instanceMethod (p_mi 20).1 ∈ p_tb := p_wi (p_t3 (List.mem_of_getElem? (i := 231) rfl)) rfl
theorem mz_20 : Cond.selects (p_mi 20).1.cls (p_mi 20).1 (p_mi 20).1 ∈ p_tb := p_wi (p_t0 (List.mem_of_getElem? (i := 22) rfl)) rfl
theorem mt_21 : p_mthP 21 := ⟨by decide +kernel, p_wi (p_t1 (List.mem_of_getElem? (i := 7) rfl)) rfl, p_wi (p_t3 (List.mem_of_getElem? (i := 236) rfl)) rfl, by decide +kernel, by decide +kernel, by decide +kernel⟩
theorem mi_21 : Cond.instanceMethod (p_mi 21).1 ∈ p_tb := p_wi (p_t3 (List.mem_of_getElem? (i := 235) rfl)) rfl
theorem mz_21 : Cond.selects (p_mi 21).1.cls (p_mi 21).1 (p_mi 21).1 ∈ p_tb := p_wi (p_t0 (List.mem_of_getElem? (i := 23) rfl)) rfl
theorem mt_22 : p_mthP 22 := ⟨by decide +kernel, p_wi (p_t1 (List.mem_of_getElem? (i := 7) rfl)) rfl, p_wi (p_t4 (List.mem_of_getElem? (i := 3) rfl)) rfl, by decide +kernel, by decide +kernel, by decide +kernel⟩
theorem mi_22 : Cond.instanceMethod (p_mi 22).1 ∈ p_tb := p_wi (p_t4 (List.mem_of_getElem? (i := 2) rfl)) rfl
theorem mz_22 : Cond.selects (p_mi 22).1.cls (p_mi 22).1 (p_mi 22).1 ∈ p_tb := p_wi (p_t0 (List.mem_of_getElem? (i := 24) rfl)) rfl
theorem mt_23 : p_mthP 23 := ⟨by decide +kernel, p_wi (p_t1 (List.mem_of_getElem? (i := 5) rfl)) rfl, p_wi (p_t1 (List.mem_of_getElem? (i := 124) rfl)) rfl, by decide +kernel, by decide +kernel, by decide +kernel⟩
theorem mi_23 : Cond.instanceMethod (p_mi 23).1 ∈ p_tb := p_wi (p_t1 (List.mem_of_getElem? (i := 123) rfl)) rfl
theorem mt_24 : p_mthP 24 := ⟨by decide +kernel, p_wi (p_t1 (List.mem_of_getElem? (i := 5) rfl)) rfl, p_wi (p_t2 (List.mem_of_getElem? (i := 185) rfl)) rfl, by decide +kernel, by decide +kernel, by decide +kernel⟩
theorem mi_24 : Cond.instanceMethod (p_mi 24).1 ∈ p_tb := p_wi (p_t2 (List.mem_of_getElem? (i := 183) rfl)) rfl
theorem mz_24 : Cond.selects (p_mi 24).1.cls (p_mi 24).1 (p_mi 24).1 ∈ p_tb := p_wi (p_t2 (List.mem_of_getElem? (i := 184) rfl)) rfl
theorem mt_25 : p_mthP 25 := ⟨by decide +kernel, p_wi (p_t1 (List.mem_of_getElem? (i := 5) rfl)) rfl, p_wi (p_t3 (List.mem_of_getElem? (i := 187) rfl)) rfl, by decide +kernel, by decide +kernel, by decide +kernel⟩
theorem mi_25 : Cond.instanceMethod (p_mi 25).1 ∈ p_tb := p_wi (p_t3 (List.mem_of_getElem? (i := 185) rfl)) rfl
theorem mz_25 : Cond.selects (p_mi 25).1.cls (p_mi 25).1 (p_mi 25).1 ∈ p_tb := p_wi (p_t3 (List.mem_of_getElem? (i := 186) rfl)) rfl
theorem mt_26 : p_mthP 26 := ⟨by decide +kernel, p_wi (p_t1 (List.mem_of_getElem? (i := 5) rfl)) rfl, p_wi (p_t2 (List.mem_of_getElem? (i := 189) rfl)) rfl, by decide +kernel, by decide +kernel, by decide +kernel⟩
theorem mi_26 : Cond.instanceMethod (p_mi 26).1 ∈ p_tb := p_wi (p_t2 (List.mem_of_getElem? (i := 188) rfl)) rfl
theorem mz_26 : Cond.selects (p_mi 26).1.cls (p_mi 26).1 (p_mi 26).1 ∈ p_tb := p_wi (p_t0 (List.mem_of_getElem? (i := 2) rfl)) rfl
theorem mt_27 : p_mthP 27 := ⟨by decide +kernel, p_wi (p_t1 (List.mem_of_getElem? (i := 5) rfl)) rfl, p_wi (p_t2 (List.mem_of_getElem? (i := 207) rfl)) rfl, by decide +kernel, by decide +kernel, by decide +kernel⟩
theorem mi_27 : Cond.instanceMethod (p_mi 27).1 ∈ p_tb := p_wi (p_t2 (List.mem_of_getElem? (i := 205) rfl)) rfl
theorem mz_27 : Cond.selects (p_mi 27).1.cls (p_mi 27).1 (p_mi 27).1 ∈ p_tb := p_wi (p_t2 (List.mem_of_getElem? (i := 206) rfl)) rfl
theorem mt_28 : p_mthP 28 := ⟨by decide +kernel, p_wi (p_t1 (List.mem_of_getElem? (i := 5) rfl)) rfl, p_wi (p_t2 (List.mem_of_getElem? (i := 221) rfl)) rfl, by decide +kernel, by decide +kernel, by decide +kernel⟩
theorem mi_28 : Cond.instanceMethod (p_mi 28).1 ∈ p_tb := p_wi (p_t2 (List.mem_of_getElem? (i := 219) rfl)) rfl
theorem mz_28 : Cond.selects (p_mi 28).1.cls (p_mi 28).1 (p_mi 28).1 ∈ p_tb := p_wi (p_t2 (List.mem_of_getElem? (i := 220) rfl)) rfl
theorem mt_29 : p_mthP 29 := ⟨by decide +kernel, p_wi (p_t1 (List.mem_of_getElem? (i := 5) rfl)) rfl, p_wi (p_t3 (List.mem_of_getElem? (i := 192) rfl)) rfl, by decide +kernel, by decide +kernel, by decide +kernel⟩
theorem mi_29 : Cond.instanceMethod (p_mi 29).1 ∈ p_tb := p_wi (p_t3 (List.mem_of_getElem? (i := 190) rfl)) rfl
theorem mz_29 : Cond.selects (p_mi 29).1.cls (p_mi 29).1 (p_mi 29).1 ∈ p_tb := p_wi (p_t3 (List.mem_of_getElem? (i := 191) rfl)) rfl
theorem mt_30 : p_mthP 30 := ⟨by decide +kernel, p_wi (p_t1 (List.mem_of_getElem? (i := 5) rfl)) rfl, p_wi (p_t3 (List.mem_of_getElem? (i := 196) rfl)) rfl, by decide +kernel, by decide +kernel, by decide +kernel⟩
theorem mi_30 : Cond.instanceMethod (p_mi 30).1 ∈ p_tb := p_wi (p_t3 (List.mem_of_getElem? (i := 194) rfl)) rfl
theorem mz_30 : Cond.selects (p_mi 30).1.cls (p_mi 30).1 (p_mi 30).1 ∈ p_tb := p_wi (p_t3 (List.mem_of_getElem? (i := 195) rfl)) rfl
theorem mt_31 : p_mthP 31 := ⟨by decide +kernel, p_wi (p_t1 (List.mem_of_getElem? (i := 5) rfl)) rfl, p_wi (p_t2 (List.mem_of_getElem? (i := 211) rfl)) rfl, by decide +kernel, by decide +kernel, by decide +kernel⟩
theorem mi_31 : Cond.instanceMethod (p_mi 31).1 ∈ p_tb := p_wi (p_t2 (List.mem_of_getElem? (i := 210) rfl)) rfl
theorem mz_31 : Cond.selects (p_mi 31).1.cls (p_mi 31).1 (p_mi 31).1 ∈ p_tb := p_wi (p_t0 (List.mem_of_getElem? (i := 3) rfl)) rfl
theorem mt_32 : p_mthP 32 := ⟨by decide +kernel, p_wi (p_t1 (List.mem_of_getElem? (i := 5) rfl)) rfl, p_wi (p_t2 (List.mem_of_getElem? (i := 215) rfl)) rfl, by decide +kernel, by decide +kernel, by decide +kernel⟩
theorem ms_32 : Cond.static (p_mi 32).1 ∈ p_tb := p_wi (p_t2 (List.mem_of_getElem? (i := 214) rfl)) rfl
theorem mt_33 : p_mthP 33 := ⟨by decide +kernel, p_wi (p_t1 (List.mem_of_getElem? (i := 6) rfl)) rfl, p_wi (p_t1 (List.mem_of_getElem? (i := 138) rfl)) rfl, by decide +kernel, by decide +kernel, by decide +kernel⟩
theorem mi_33 : Cond.instanceMethod (p_mi 33).1 ∈ p_tb := p_wi (p_t1 (List.mem_of_getElem? (i := 137) rfl)) rfl
theorem mt_34 : p_mthP 34 := ⟨by decide +kernel, p_wi (p_t1 (List.mem_of_getElem? (i := 6) rfl)) rfl, p_wi (p_t4 (List.mem_of_getElem? (i := 91) rfl)) rfl, by decide +kernel, by decide +kernel, by decide +kernel⟩
theorem mi_34 : Cond.instanceMethod (p_mi 34).1 ∈ p_tb := p_wi (p_t4 (List.mem_of_getElem? (i := 90) rfl)) rfl
theorem mz_34 : Cond.selects (p_mi 34).1.cls (p_mi 34).1 (p_mi 34).1 ∈ p_tb := p_wi (p_t0 (List.mem_of_getElem? (i := 27) rfl)) rfl
theorem mt_35 : p_mthP 35 := ⟨by decide +kernel, p_wi (p_t1 (List.mem_of_getElem? (i := 6) rfl)) rfl, p_wi (p_t4 (List.mem_of_getElem? (i := 105) rfl)) rfl, by decide +kernel, by decide +kernel, by decide +kernel⟩
theorem mi_35 : Cond.instanceMethod (p_mi 35).1 ∈ p_tb := p_wi (p_t4 (List.mem_of_getElem? (i := 104) rfl)) rfl
theorem mz_35 : Cond.selects (p_mi 35).1.cls (p_mi 35).1 (p_mi 35).1 ∈ p_tb := p_wi (p_t0 (List.mem_of_getElem? (i := 29) rfl)) rfl
theorem mt_36 : p_mthP 36 := ⟨by decide +kernel, p_wi (p_t1 (List.mem_of_getElem? (i := 6) rfl)) rfl, p_wi (p_t4 (List.mem_of_getElem? (i := 87) rfl)) rfl, by decide +kernel, by decide +kernel, by decide +kernel⟩
theorem mi_36 : Cond.instanceMethod (p_mi 36).1 ∈ p_tb := p_wi (p_t4 (List.mem_of_getElem? (i := 85) rfl)) rfl
theorem mz_36 : Cond.selects (p_mi 36).1.cls (p_mi 36).1 (p_mi 36).1 ∈ p_tb := p_wi (p_t4 (List.mem_of_getElem? (i := 86) rfl)) rfl
theorem mt_37 : p_mthP 37 := ⟨by decide +kernel, p_wi (p_t1 (List.mem_of_getElem? (i := 6) rfl)) rfl, p_wi (p_t4 (List.mem_of_getElem? (i := 94) rfl)) rfl, by decide +kernel, by decide +kernel, by decide +kernel⟩
theorem ms_37 : Cond.static (p_mi 37).1 ∈ p_tb := p_wi (p_t4 (List.mem_of_getElem? (i := 93) rfl)) rfl
theorem mt_38 : p_mthP 38 := ⟨by decide +kernel, p_wi (p_t1 (List.mem_of_getElem? (i := 6) rfl)) rfl, p_wi (p_t4 (List.mem_of_getElem? (i := 99) rfl)) rfl, by decide +kernel, by decide +kernel, by decide +kernel⟩
theorem mi_38 : Cond.instanceMethod (p_mi 38).1 ∈ p_tb := p_wi (p_t4 (List.mem_of_getElem? (i := 98) rfl)) rfl
theorem mz_38 : Cond.selects (p_mi 38).1.cls (p_mi 38).1 (p_mi 38).1 ∈ p_tb := p_wi (p_t0 (List.mem_of_getElem? (i := 28) rfl)) rfl
theorem mt_39 : p_mthP 39 := ⟨by decide +kernel, p_wi (p_t1 (List.mem_of_getElem? (i := 6) rfl)) rfl, p_wi (p_t4 (List.mem_of_getElem? (i := 112) rfl)) rfl, by decide +kernel, by decide +kernel, by decide +kernel⟩
theorem mi_39 : Cond.instanceMethod (p_mi 39).1 ∈ p_tb := p_wi (p_t4 (List.mem_of_getElem? (i := 111) rfl)) rfl
theorem mz_39 : Cond.selects (p_mi 39).1.cls (p_mi 39).1 (p_mi 39).1 ∈ p_tb := p_wi (p_t0 (List.mem_of_getElem? (i := 30) rfl)) rfl
theorem mt_40 : p_mthP 40 := ⟨by decide +kernel, p_wi (p_t1 (List.mem_of_getElem? (i := 6) rfl)) rfl, p_wi (p_t4 (List.mem_of_getElem? (i := 117) rfl)) rfl, by decide +kernel, by decide +kernel, by decide +kernel⟩
theorem mi_40 : Cond.instanceMethod (p_mi 40).1 ∈ p_tb := p_wi (p_t4 (List.mem_of_getElem? (i := 116) rfl)) rfl
theorem mz_40 : Cond.selects (p_mi 40).1.cls (p_mi 40).1 (p_mi 40).1 ∈ p_tb := p_wi (p_t0 (List.mem_of_getElem? (i := 31) rfl)) rfl
theorem mt_41 : p_mthP 41 := ⟨by decide +kernel, p_wi (p_t1 (List.mem_of_getElem? (i := 6) rfl)) rfl, p_wi (p_t4 (List.mem_of_getElem? (i := 130) rfl)) rfl, by decide +kernel, by decide +kernel, by decide +kernel⟩
theorem mi_41 : Cond.instanceMethod (p_mi 41).1 ∈ p_tb := p_wi (p_t4 (List.mem_of_getElem? (i := 128) rfl)) rfl
theorem mz_41 : Cond.selects (p_mi 41).1.cls (p_mi 41).1 (p_mi 41).1 ∈ p_tb := p_wi (p_t4 (List.mem_of_getElem? (i := 129) rfl)) rfl
theorem mt_42 : p_mthP 42 := ⟨by decide +kernel, p_wi (p_t1 (List.mem_of_getElem? (i := 6) rfl)) rfl, p_wi (p_t4 (List.mem_of_getElem? (i := 145) rfl)) rfl, by decide +kernel, by decide +kernel, by decide +kernel⟩
theorem mi_42 : Cond.instanceMethod (p_mi 42).1 ∈ p_tb := p_wi (p_t4 (List.mem_of_getElem? (i := 144) rfl)) rfl
theorem mz_42 : Cond.selects (p_mi 42).1.cls (p_mi 42).1 (p_mi 42).1 ∈ p_tb := p_wi (p_t0 (List.mem_of_getElem? (i := 34) rfl)) rfl
theorem mt_43 : p_mthP 43 := ⟨by decide +kernel, p_wi (p_t1 (List.mem_of_getElem? (i := 6) rfl)) rfl, p_wi (p_t4 (List.mem_of_getElem? (i := 141) rfl)) rfl, by decide +kernel, by decide +kernel, by decide +kernel⟩
theorem mi_43 : Cond.instanceMethod (p_mi 43).1 ∈ p_tb := p_wi (p_t4 (List.mem_of_getElem? (i := 140) rfl)) rfl
theorem mz_43 : Cond.selects (p_mi 43).1.cls (p_mi 43).1 (p_mi 43).1 ∈ p_tb := p_wi (p_t0 (List.mem_of_getElem? (i := 33) rfl)) rfl
theorem mt_44 : p_mthP 44 := ⟨by decide +kernel, p_wi (p_t1 (List.mem_of_getElem? (i := 6) rfl)) rfl, p_wi (p_t4 (List.mem_of_getElem? (i := 135) rfl)) rfl, by decide +kernel, by decide +kernel, by decide +kernel⟩
theorem mi_44 : Cond.instanceMethod (p_mi 44).1 ∈ p_tb := p_wi (p_t4 (List.mem_of_getElem? (i := 134) rfl)) rfl
theorem mz_44 : Cond.selects (p_mi 44).1.cls (p_mi 44).1 (p_mi 44).1 ∈ p_tb := p_wi (p_t0 (List.mem_of_getElem? (i := 32) rfl)) rfl
theorem mt_45 : p_mthP 45 := ⟨by decide +kernel, p_wi (p_t1 (List.mem_of_getElem? (i := 6) rfl)) rfl, p_wi (p_t4 (List.mem_of_getElem? (i := 162) rfl)) rfl, by decide +kernel, by decide +kernel, by decide +kernel⟩
theorem mi_45 : Cond.instanceMethod (p_mi 45).1 ∈ p_tb := p_wi (p_t4 (List.mem_of_getElem? (i := 160) rfl)) rfl
theorem mz_45 : Cond.selects (p_mi 45).1.cls (p_mi 45).1 (p_mi 45).1 ∈ p_tb := p_wi (p_t4 (List.mem_of_getElem? (i := 161) rfl)) rfl
theorem mt_46 : p_mthP 46 := ⟨by decide +kernel, p_wi (p_t1 (List.mem_of_getElem? (i := 6) rfl)) rfl, p_wi (p_t4 (List.mem_of_getElem? (i := 172) rfl)) rfl, by decide +kernel, by decide +kernel, by decide +kernel⟩
theorem mi_46 : Cond.instanceMethod (p_mi 46).1 ∈ p_tb := p_wi (p_t4 (List.mem_of_getElem? (i := 171) rfl)) rfl
theorem mz_46 : Cond.selects (p_mi 46).1.cls (p_mi 46).1 (p_mi 46).1 ∈ p_tb := p_wi (p_t0 (List.mem_of_getElem? (i := 36) rfl)) rfl
theorem mt_47 : p_mthP 47 := ⟨by decide +kernel, p_wi (p_t1 (List.mem_of_getElem? (i := 6) rfl)) rfl, p_wi (p_t4 (List.mem_of_getElem? (i := 181) rfl)) rfl, by decide +kernel, by decide +kernel, by decide +kernel⟩
theorem mi_47 : Cond.instanceMethod (p_mi 47).1 ∈ p_tb := p_wi (p_t4 (List.mem_of_getElem? (i := 180) rfl)) rfl
theorem mz_47 : Cond.selects (p_mi 47).1.cls (p_mi 47).1 (p_mi 47).1 ∈ p_tb := p_wi (p_t0 (List.mem_of_getElem? (i := 38) rfl)) rfl
theorem mt_48 : p_mthP 48 := ⟨by decide +kernel, p_wi (p_t1 (List.mem_of_getElem? (i := 6) rfl)) rfl, p_wi (p_t4 (List.mem_of_getElem? (i := 176) rfl)) rfl, by decide +kernel, by decide +kernel, by decide +kernel⟩
theorem mi_48 : Cond.instanceMethod (p_mi 48).1 ∈ p_tb := p_wi (p_t4 (List.mem_of_getElem? (i := 175) rfl)) rfl
theorem mz_48 : Cond.selects (p_mi 48).1.cls (p_mi 48).1 (p_mi 48).1 ∈ p_tb := p_wi (p_t0 (List.mem_of_getElem? (i := 37) rfl)) rfl
theorem mt_49 : p_mthP 49 := ⟨by decide +kernel, p_wi (p_t1 (List.mem_of_getElem? (i := 6) rfl)) rfl, p_wi (p_t4 (List.mem_of_getElem? (i := 190) rfl)) rfl, by decide +kernel, by decide +kernel, by decide +kernel⟩
theorem mi_49 : Cond.instanceMethod (p_mi 49).1 ∈ p_tb := p_wi (p_t4 (List.mem_of_getElem? (i := 188) rfl)) rfl
theorem mz_49 : Cond.selects (p_mi 49).1.cls (p_mi 49).1 (p_mi 49).1 ∈ p_tb := p_wi (p_t4 (List.mem_of_getElem? (i := 189) rfl)) rfl
theorem mt_50 : p_mthP 50 := ⟨by decide +kernel, p_wi (p_t1 (List.mem_of_getElem? (i := 6) rfl)) rfl, p_wi (p_t4 (List.mem_of_getElem? (i := 195) rfl)) rfl, by decide +kernel, by decide +kernel, by decide +kernel⟩
theorem mi_50 : Cond.instanceMethod (p_mi 50).1 ∈ p_tb := p_wi (p_t4 (List.mem_of_getElem? (i := 194) rfl)) rfl
theorem mz_50 : Cond.selects (p_mi 50).1.cls (p_mi 50).1 (p_mi 50).1 ∈ p_tb := p_wi (p_t0 (List.mem_of_getElem? (i := 39) rfl)) rfl
theorem mt_51 : p_mthP 51 := ⟨by decide +kernel, p_wi (p_t1 (List.mem_of_getElem? (i := 9) rfl)) rfl, p_wi (p_t2 (List.mem_of_getElem? (i := 68) rfl)) rfl, by decide +kernel, by decide +kernel, by decide +kernel⟩
theorem mi_51 : Cond.instanceMethod (p_mi 51).1 ∈ p_tb := p_wi (p_t2 (List.mem_of_getElem? (i := 67) rfl)) rfl
theorem mt_52 : p_mthP 52 := ⟨by decide +kernel, p_wi (p_t1 (List.mem_of_getElem? (i := 9) rfl)) rfl, p_wi (p_t3 (List.mem_of_getElem? (i := 178) rfl)) rfl, by decide +kernel, by decide +kernel, by decide +kernel⟩
theorem mi_52 : Cond.instanceMethod (p_mi 52).1 ∈ p_tb := p_wi (p_t3 (List.mem_of_getElem? (i := 176) rfl)) rfl
theorem mz_52 : Cond.selects (p_mi 52).1.cls (p_mi 52).1 (p_mi 52).1 ∈ p_tb := p_wi (p_t3 (List.mem_of_getElem? (i := 177) rfl)) rfl
theorem mt_53 : p_mthP 53 := ⟨by decide +kernel, p_wi (p_t1 (List.mem_of_getElem? (i := 9) rfl)) rfl, p_wi (p_t2 (List.mem_of_getElem? (i := 149) rfl)) rfl, by decide +kernel, by decide +kernel, by decide +kernel⟩
theorem mi_53 : Cond.instanceMethod (p_mi 53).1 ∈ p_tb := p_wi (p_t2 (List.mem_of_getElem? (i := 147) rfl)) rfl
theorem mz_53 : Cond.selects (p_mi 53).1.cls (p_mi 53).1 (p_mi 53).1 ∈ p_tb := p_wi (p_t2 (List.mem_of_getElem? (i := 148) rfl)) rfl
theorem mt_54 : p_mthP 54 := ⟨by decide +kernel, p_wi (p_t1 (List.mem_of_getElem? (i := 9) rfl)) rfl, p_wi (p_t3 (List.mem_of_getElem? (i := 205) rfl)) rfl, by decide +kernel, by decide +kernel, by decide +kernel⟩
theorem mi_54 : Cond.instanceMethod (p_mi 54).1 ∈ p_tb := p_wi (p_t3 (List.mem_of_getElem? (i := 203) rfl)) rfl
theorem mz_54 : Cond.selects (p_mi 54).1.cls (p_mi 54).1 (p_mi 54).1 ∈ p_tb := p_wi (p_t3 (List.mem_of_getElem? (i := 204) rfl)) rfl
theorem mt_55 : p_mthP 55 := ⟨by decide +kernel, p_wi (p_t1 (List.mem_of_getElem? (i := 9) rfl)) rfl, p_wi (p_t4 (List.mem_of_getElem? (i := 15) rfl)) rfl, by decide +kernel, by decide +kernel, by decide +kernel⟩
theorem mi_55 : Cond.instanceMethod (p_mi 55).1 ∈ p_tb := p_wi (p_t4 (List.mem_of_getElem? (i := 13) rfl)) rfl
theorem mz_55 : Cond.selects (p_mi 55).1.cls (p_mi 55).1 (p_mi 55).1 ∈ p_tb := p_wi (p_t4 (List.mem_of_getElem? (i := 14) rfl)) rfl
theorem mt_56 : p_mthP 56 := ⟨by decide +kernel, p_wi (p_t1 (List.mem_of_getElem? (i := 9) rfl)) rfl, p_wi (p_t4 (List.mem_of_getElem? (i := 57) rfl)) rfl, by decide +kernel, by decide +kernel, by decide +kernel⟩
theorem mi_56 : Cond.instanceMethod (p_mi 56).1 ∈ p_tb := p_wi (p_t4 (List.mem_of_getElem? (i := 55) rfl)) rfl
theorem mz_56 : Cond.selects (p_mi 56).1.cls (p_mi 56).1 (p_mi 56).1 ∈ p_tb := p_wi (p_t4 (List.mem_of_getElem? (i := 56) rfl)) rfl
theorem mt_57 : p_mthP 57 := ⟨by decide +kernel, p_wi (p_t1 (List.mem_of_getElem? (i := 3) rfl)) rfl, p_wi (p_t1 (List.mem_of_getElem? (i := 49) rfl)) rfl, by decide +kernel, by decide +kernel, by decide +kernel⟩
theorem mi_57 : Cond.instanceMethod (p_mi 57).1 ∈ p_tb := p_wi (p_t1 (List.mem_of_getElem? (i := 48) rfl)) rfl
theorem mt_58 : p_mthP 58 := ⟨by decide +kernel, p_wi (p_t1 (List.mem_of_getElem? (i := 3) rfl)) rfl, p_wi (p_t3 (List.mem_of_getElem? (i := 31) rfl)) rfl, by decide +kernel, by decide +kernel, by decide +kernel⟩
theorem mi_58 : Cond.instanceMethod (p_mi 58).1 ∈ p_tb := p_wi (p_t3 (List.mem_of_getElem? (i := 29) rfl)) rfl
theorem mz_58 : Cond.selects (p_mi 58).1.cls (p_mi 58).1 (p_mi 58).1 ∈ p_tb := p_wi (p_t3 (List.mem_of_getElem? (i := 30) rfl)) rfl
theorem mt_59 : p_mthP 59 := ⟨by decide +kernel, p_wi (p_t1 (List.mem_of_getElem? (i := 3) rfl)) rfl, p_wi (p_t3 (List.mem_of_getElem? (i := 39) rfl)) rfl, by decide +kernel, by decide +kernel, by decide +kernel⟩
theorem mi_59 : Cond.instanceMethod (p_mi 59).1 ∈ p_tb := p_wi (p_t3 (List.mem_of_getElem? (i := 38) rfl)) rfl
theorem mz_59 : Cond.selects (p_mi 59).1.cls (p_mi 59).1 (p_mi 59).1 ∈ p_tb := p_wi (p_t0 (List.mem_of_getElem? (i := 6) rfl)) rfl
theorem mt_60 : p_mthP 60 := ⟨by decide +kernel, p_wi (p_t1 (List.mem_of_getElem? (i := 3) rfl)) rfl, p_wi (p_t3 (List.mem_of_getElem? (i := 133) rfl)) rfl, by decide +kernel, by decide +kernel, by decide +kernel⟩
theorem mi_60 : Cond.instanceMethod (p_mi 60).1 ∈ p_tb := p_wi (p_t3 (List.mem_of_getElem? (i := 132) rfl)) rfl
theorem mz_60 : Cond.selects (p_mi 60).1.cls (p_mi 60).1 (p_mi 60).1 ∈ p_tb := p_wi (p_t0 (List.mem_of_getElem? (i := 15) rfl)) rfl
theorem mt_61 : p_mthP 61 := ⟨by decide +kernel, p_wi (p_t1 (List.mem_of_getElem? (i := 3) rfl)) rfl, p_wi (p_t3 (List.mem_of_getElem? (i := 137) rfl)) rfl, by decide +kernel, by decide +kernel, by decide +kernel⟩
theorem mi_61 : Cond.instanceMethod (p_mi 61).1 ∈ p_tb := p_wi (p_t3 (List.mem_of_getElem? (i := 136) rfl)) rfl
theorem mz_61 : Cond.selects (p_mi 61).1.cls (p_mi 61).1 (p_mi 61).1 ∈ p_tb := p_wi (p_t0 (List.mem_of_getElem? (i := 16) rfl)) rfl
theorem mt_62 : p_mthP 62 := ⟨by decide +kernel, p_wi (p_t1 (List.mem_of_getElem? (i := 3) rfl)) rfl, p_wi (p_t3 (List.mem_of_getElem? (i := 142) rfl)) rfl, by decide +kernel, by decide +kernel, by decide +kernel⟩
theorem mi_62 : Cond.instanceMethod (p_mi 62).1 ∈ p_tb := p_wi (p_t3 (List.mem_of_getElem? (i := 141) rfl)) rfl
theorem mz_62 : Cond.selects (p_mi 62).1.cls (p_mi 62).1 (p_mi 62).1 ∈ p_tb := p_wi (p_t0 (List.mem_of_getElem? (i := 17) rfl)) rfl
theorem mt_63 : p_mthP 63 := ⟨by decide +kernel, p_wi (p_t1 (List.mem_of_getElem? (i := 3) rfl)) rfl, p_wi (p_t3 (List.mem_of_getElem? (i := 146) rfl)) rfl, by decide +kernel, by decide +kernel, by decide +kernel⟩
theorem mi_63 : Cond.instanceMethod (p_mi 63).1 ∈ p_tb := p_wi (p_t3 (List.mem_of_getElem? (i := 145) rfl)) rfl
theorem mz_63 : Cond.selects (p_mi 63).1.cls (p_mi 63).1 (p_mi 63).1 ∈ p_tb := p_wi (p_t0 (List.mem_of_getElem? (i := 18) rfl)) rfl
theorem mt_64 : p_mthP 64 := ⟨by decide +kernel, p_wi (p_t1 (List.mem_of_getElem? (i := 3) rfl)) rfl, p_wi (p_t3 (List.mem_of_getElem? (i := 97) rfl)) rfl, by decide +kernel, by decide +kernel, by decide +kernel⟩
theorem mi_64 : Cond.instanceMethod (p_mi 64).1 ∈ p_tb := p_wi (p_t3 (List.mem_of_getElem? (i := 96) rfl)) rfl
theorem mz_64 : Cond.selects (p_mi 64).1.cls (p_mi 64).1 (p_mi 64).1 ∈ p_tb := p_wi (p_t0 (List.mem_of_getElem? (i := 8) rfl)) rfl
theorem mt_65 : p_mthP 65 := ⟨by decide +kernel, p_wi (p_t1 (List.mem_of_getElem? (i := 3) rfl)) rfl, p_wi (p_t3 (List.mem_of_getElem? (i := 101) rfl)) rfl, by decide +kernel, by decide +kernel, by decide +kernel⟩
theorem mi_65 : Cond.instanceMethod (p_mi 65).1 ∈ p_tb := p_wi (p_t3 (List.mem_of_getElem? (i := 100) rfl)) rfl
theorem mz_65 : Cond.selects (p_mi 65).1.cls (p_mi 65).1 (p_mi 65).1 ∈ p_tb := p_wi (p_t0 (List.mem_of_getElem? (i := 9) rfl)) rfl
theorem mt_66 : p_mthP 66 := ⟨by decide +kernel, p_wi (p_t1 (List.mem_of_getElem? (i := 3) rfl)) rfl, p_wi (p_t3 (List.mem_of_getElem? (i := 123) rfl)) rfl, by decide +kernel, by decide +kernel, by decide +kernel⟩
theorem mi_66 : Cond.instanceMethod (p_mi 66).1 ∈ p_tb := p_wi (p_t3 (List.mem_of_getElem? (i := 122) rfl)) rfl
theorem mz_66 : Cond.selects (p_mi 66).1.cls (p_mi 66).1 (p_mi 66).1 ∈ p_tb := p_wi (p_t0 (List.mem_of_getElem? (i := 13) rfl)) rfl
theorem mt_67 : p_mthP 67 := ⟨by decide +kernel, p_wi (p_t1 (List.mem_of_getElem? (i := 3) rfl)) rfl, p_wi (p_t3 (List.mem_of_getElem? (i := 113) rfl)) rfl, by decide +kernel, by decide +kernel, by decide +kernel⟩
theorem mi_67 : Cond.instanceMethod (p_mi 67).1 ∈ p_tb := p_wi (p_t3 (List.mem_of_getElem? (i := 112) rfl)) rfl
theorem mz_67 : Cond.selects (p_mi 67).1.cls (p_mi 67).1 (p_mi 67).1 ∈ p_tb := p_wi (p_t0 (List.mem_of_getElem? (i := 12) rfl)) rfl
theorem mt_68 : p_mthP 68 := ⟨by decide +kernel, p_wi (p_t1 (List.mem_of_getElem? (i := 3) rfl)) rfl, p_wi (p_t3 (List.mem_of_getElem? (i := 105) rfl)) rfl, by decide +kernel, by decide +kernel, by decide +kernel⟩
theorem mi_68 : Cond.instanceMethod (p_mi 68).1 ∈ p_tb := p_wi (p_t3 (List.mem_of_getElem? (i := 104) rfl)) rfl
theorem mz_68 : Cond.selects (p_mi 68).1.cls (p_mi 68).1 (p_mi 68).1 ∈ p_tb := p_wi (p_t0 (List.mem_of_getElem? (i := 10) rfl)) rfl
theorem mt_69 : p_mthP 69 := ⟨by decide +kernel, p_wi (p_t1 (List.mem_of_getElem? (i := 3) rfl)) rfl, p_wi (p_t3 (List.mem_of_getElem? (i := 109) rfl)) rfl, by decide +kernel, by decide +kernel, by decide +kernel⟩
theorem mi_69 : Cond.instanceMethod (p_mi 69).1 ∈ p_tb := p_wi (p_t3 (List.mem_of_getElem? (i := 108) rfl)) rfl
theorem mz_69 : Cond.selects (p_mi 69).1.cls (p_mi 69).1 (p_mi 69).1 ∈ p_tb := p_wi (p_t0 (List.mem_of_getElem? (i := 11) rfl)) rfl
theorem mt_70 : p_mthP 70 := ⟨by decide +kernel, p_wi (p_t1 (List.mem_of_getElem? (i := 3) rfl)) rfl, p_wi (p_t3 (List.mem_of_getElem? (i := 128) rfl)) rfl, by decide +kernel, by decide +kernel, by decide +kernel⟩
theorem mi_70 : Cond.instanceMethod (p_mi 70).1 ∈ p_tb := p_wi (p_t3 (List.mem_of_getElem? (i := 127) rfl)) rfl
theorem mz_70 : Cond.selects (p_mi 70).1.cls (p_mi 70).1 (p_mi 70).1 ∈ p_tb := p_wi (p_t0 (List.mem_of_getElem? (i := 14) rfl)) rfl
theorem mt_71 : p_mthP 71 := ⟨by decide +kernel, p_wi (p_t1 (List.mem_of_getElem? (i := 3) rfl)) rfl, p_wi (p_t3 (List.mem_of_getElem? (i := 45) rfl)) rfl, by decide +kernel, by decide +kernel, by decide +kernel⟩
theorem mi_71 : Cond.instanceMethod (p_mi 71).1 ∈ p_tb := p_wi (p_t3 (List.mem_of_getElem? (i := 44) rfl)) rfl
theorem mz_71 : Cond.selects (p_mi 71).1.cls (p_mi 71).1 (p_mi 71).1 ∈ p_tb := p_wi (p_t0 (List.mem_of_getElem? (i := 7) rfl)) rfl
theorem mt_72 : p_mthP 72 := ⟨by decide +kernel, p_wi (p_t1 (List.mem_of_getElem? (i := 3) rfl)) rfl, p_wi (p_t3 (List.mem_of_getElem? (i := 35) rfl)) rfl, by decide +kernel, by decide +kernel, by decide +kernel⟩
theorem mi_72 : Cond.instanceMethod (p_mi 72).1 ∈ p_tb := p_wi (p_t3 (List.mem_of_getElem? (i := 34) rfl)) rfl
theorem mz_72 : Cond.selects (p_mi 72).1.cls (p_mi 72).1 (p_mi 72).1 ∈ p_tb := p_wi (p_t0 (List.mem_of_getElem? (i := 5) rfl)) rfl
theorem mt_73 : p_mthP 73 := ⟨by decide +kernel, p_wi (p_t1 (List.mem_of_getElem? (i := 2) rfl)) rfl, p_wi (p_t1 (List.mem_of_getElem? (i := 31) rfl)) rfl, by decide +kernel, by decide +kernel, by decide +kernel⟩
theorem mi_73 : Cond.instanceMethod (p_mi 73).1 ∈ p_tb := p_wi (p_t1 (List.mem_of_getElem? (i := 30) rfl)) rfl
theorem mt_74 : p_mthP 74 := ⟨by decide +kernel, p_wi (p_t1 (List.mem_of_getElem? (i := 2) rfl)) rfl, p_wi (p_t3 (List.mem_of_getElem? (i := 7) rfl)) rfl, by decide +kernel, by decide +kernel, by decide +kernel⟩
theorem mi_74 : Cond.instanceMethod (p_mi 74).1 ∈ p_tb := p_wi (p_t3 (List.mem_of_getElem? (i := 5) rfl)) rfl
theorem mz_74 : Cond.selects (p_mi 74).1.cls (p_mi 74).1 (p_mi 74).1 ∈ p_tb := p_wi (p_t3 (List.mem_of_getElem? (i := 6) rfl)) rfl
theorem mt_75 : p_mthP 75 := ⟨by decide +kernel, p_wi (p_t1 (List.mem_of_getElem? (i := 4) rfl)) rfl, p_wi (p_t1 (List.mem_of_getElem? (i := 55) rfl)) rfl, by decide +kernel, by decide +kernel, by decide +kernel⟩
theorem mi_75 : Cond.instanceMethod (p_mi 75).1 ∈ p_tb := p_wi (p_t1 (List.mem_of_getElem? (i := 54) rfl)) rfl
theorem mt_76 : p_mthP 76 := ⟨by decide +kernel, p_wi (p_t1 (List.mem_of_getElem? (i := 4) rfl)) rfl, p_wi (p_t3 (List.mem_of_getElem? (i := 160) rfl)) rfl, by decide +kernel, by decide +kernel, by decide +kernel⟩
theorem mi_76 : Cond.instanceMethod (p_mi 76).1 ∈ p_tb := p_wi (p_t3 (List.mem_of_getElem? (i := 158) rfl)) rfl
theorem mz_76 : Cond.selects (p_mi 76).1.cls (p_mi 76).1 (p_mi 76).1 ∈ p_tb := p_wi (p_t3 (List.mem_of_getElem? (i := 159) rfl)) rfl
theorem mt_77 : p_mthP 77 := ⟨by decide +kernel, p_wi (p_t1 (List.mem_of_getElem? (i := 4) rfl)) rfl, p_wi (p_t3 (List.mem_of_getElem? (i := 119) rfl)) rfl, by decide +kernel, by decide +kernel, by decide +kernel⟩
theorem mi_77 : Cond.instanceMethod (p_mi 77).1 ∈ p_tb := p_wi (p_t3 (List.mem_of_getElem? (i := 117) rfl)) rfl
theorem mz_77 : Cond.selects (p_mi 77).1.cls (p_mi 77).1 (p_mi 77).1 ∈ p_tb := p_wi (p_t3 (List.mem_of_getElem? (i := 118) rfl)) rfl
theorem mt_78 : p_mthP 78 := ⟨by decide +kernel, p_wi (p_t1 (List.mem_of_getElem? (i := 4) rfl)) rfl, p_wi (p_t3 (List.mem_of_getElem? (i := 150) rfl)) rfl, by decide +kernel, by decide +kernel, by decide +kernel⟩
theorem mi_78 : Cond.instanceMethod (p_mi 78).1 ∈ p_tb := p_wi (p_t3 (List.mem_of_getElem? (i := 148) rfl)) rfl
theorem mz_78 : Cond.selects (p_mi 78).1.cls (p_mi 78).1 (p_mi 78).1 ∈ p_tb := p_wi (p_t3 (List.mem_of_getElem? (i := 149) rfl)) rfl
theorem mt_79 : p_mthP 79 := ⟨by decide +kernel, p_wi (p_t1 (List.mem_of_getElem? (i := 4) rfl)) rfl, p_wi (p_t3 (List.mem_of_getElem? (i := 156) rfl)) rfl, by decide +kernel, by decide +kernel, by decide +kernel⟩
theorem mi_79 : Cond.instanceMethod (p_mi 79).1 ∈ p_tb := p_wi (p_t3 (List.mem_of_getElem? (i := 154) rfl)) rfl
theorem mz_79 : Cond.selects (p_mi 79).1.cls (p_mi 79).1 (p_mi 79).1 ∈ p_tb := p_wi (p_t3 (List.mem_of_getElem? (i := 155) rfl)) rfl
theorem mt_80 : p_mthP 80 := ⟨by decide +kernel, p_wi (p_t1 (List.mem_of_getElem? (i := 1) rfl)) rfl, p_wi (p_t1 (List.mem_of_getElem? (i := 23) rfl)) rfl, by decide +kernel, by decide +kernel, by decide +kernel⟩
theorem mi_80 : Cond.instanceMethod (p_mi 80).1 ∈ p_tb := p_wi (p_t1 (List.mem_of_getElem? (i := 22) rfl)) rfl
theorem mt_81 : p_mthP 81 := ⟨by decide +kernel, p_wi (p_t1 (List.mem_of_getElem? (i := 1) rfl)) rfl, p_wi (p_t2 (List.mem_of_getElem? (i := 141) rfl)) rfl, by decide +kernel, by decide +kernel, by decide +kernel⟩
theorem mi_81 : Cond.instanceMethod (p_mi 81).1 ∈ p_tb := p_wi (p_t2 (List.mem_of_getElem? (i := 139) rfl)) rfl
theorem mz_81 : Cond.selects (p_mi 81).1.cls (p_mi 81).1 (p_mi 81).1 ∈ p_tb := p_wi (p_t2 (List.mem_of_getElem? (i := 140) rfl)) rfl
theorem mt_82 : p_mthP 82 := ⟨by decide +kernel, p_wi (p_t1 (List.mem_of_getElem? (i := 1) rfl)) rfl, p_wi (p_t2 (List.mem_of_getElem? (i := 165) rfl)) rfl, by decide +kernel, by decide +kernel, by decide +kernel⟩
theorem mi_82 : Cond.instanceMethod (p_mi 82).1 ∈ p_tb := p_wi (p_t2 (List.mem_of_getElem? (i := 163) rfl)) rfl
theorem mz_82 : Cond.selects (p_mi 82).1.cls (p_mi 82).1 (p_mi 82).1 ∈ p_tb := p_wi (p_t2 (List.mem_of_getElem? (i := 164) rfl)) rfl
theorem mt_83 : p_mthP 83 := ⟨by decide +kernel, p_wi (p_t1 (List.mem_of_getElem? (i := 1) rfl)) rfl, p_wi (p_t2 (List.mem_of_getElem? (i := 177) rfl)) rfl, by decide +kernel, by decide +kernel, by decide +kernel⟩
theorem mi_83 : Cond.instanceMethod (p_mi 83).1 ∈ p_tb := p_wi (p_t2 (List.mem_of_getElem? (i := 175) rfl)) rfl
theorem mz_83 : Cond.selects (p_mi 83).1.cls (p_mi 83).1 (p_mi 83).1 ∈ p_tb := p_wi (p_t2 (List.mem_of_getElem? (i := 176) rfl)) rfl
theorem mt_84 : p_mthP 84 := ⟨by decide +kernel, p_wi (p_t1 (List.mem_of_getElem? (i := 1) rfl)) rfl, p_wi (p_t2 (List.mem_of_getElem? (i := 233) rfl)) rfl, by decide +kernel, by decide +kernel, by decide +kernel⟩
theorem mi_84 : Cond.instanceMethod (p_mi 84).1 ∈ p_tb := p_wi (p_t2 (List.mem_of_getElem? (i := 231) rfl)) rfl
theorem mz_84 : Cond.selects (p_mi 84).1.cls (p_mi 84).1 (p_mi 84).1 ∈ p_tb := p_wi (p_t2 (List.mem_of_getElem? (i := 232) rfl)) rfl
theorem mt_85 : p_mthP 85 := ⟨by decide +kernel, p_wi (p_t1 (List.mem_of_getElem? (i := 1) rfl)) rfl, p_wi (p_t2 (List.mem_of_getElem? (i := 237) rfl)) rfl, by decide +kernel, by decide +kernel, by decide +kernel⟩
theorem mi_85 : Cond.instanceMethod (p_mi 85).1 ∈ p_tb := p_wi (p_t2 (List.mem_of_getElem? (i := 235) rfl)) rfl
theorem mz_85 : Cond.selects (p_mi 85).1.cls (p_mi 85).1 (p_mi 85).1 ∈ p_tb := p_wi (p_t2 (List.mem_of_getElem? (i := 236) rfl)) rfl
theorem mt_86 : p_mthP 86 := ⟨by decide +kernel, p_wi (p_t1 (List.mem_of_getElem? (i := 1) rfl)) rfl, p_wi (p_t3 (List.mem_of_getElem? (i := 3) rfl)) rfl, by decide +kernel, by decide +kernel, by decide +kernel⟩
theorem mi_86 : Cond.instanceMethod (p_mi 86).1 ∈ p_tb := p_wi (p_t3 (List.mem_of_getElem? (i := 1) rfl)) rfl
theorem mz_86 : Cond.selects (p_mi 86).1.cls (p_mi 86).1 (p_mi 86).1 ∈ p_tb := p_wi (p_t3 (List.mem_of_getElem? (i := 2) rfl)) rfl
theorem mt_87 : p_mthP 87 := ⟨by decide +kernel, p_wi (p_t1 (List.mem_of_getElem? (i := 1) rfl)) rfl, p_wi (p_t3 (List.mem_of_getElem? (i := 11) rfl)) rfl, by decide +kernel, by decide +kernel, by decide +kernel⟩
theorem mi_87 : Cond.instanceMethod (p_mi 87).1 ∈ p_tb := p_wi (p_t3 (List.mem_of_getElem? (i := 9) rfl)) rfl
theorem mz_87 : Cond.selects (p_mi 87).1.cls (p_mi 87).1 (p_mi 87).1 ∈ p_tb := p_wi (p_t3 (List.mem_of_getElem? (i := 10) rfl)) rfl
theorem mt_88 : p_mthP 88 := ⟨by decide +kernel, p_wi (p_t1 (List.mem_of_getElem? (i := 1) rfl)) rfl, p_wi (p_t3 (List.mem_of_getElem? (i := 15) rfl)) rfl, by decide +kernel, by decide +kernel, by decide +kernel⟩
theorem mi_88 : Cond.instanceMethod (p_mi 88).1 ∈ p_tb := p_wi (p_t3 (List.mem_of_getElem? (i := 13) rfl)) rfl
theorem mz_88 : Cond.selects (p_mi 88).1.cls (p_mi 88).1 (p_mi 88).1 ∈ p_tb := p_wi (p_t3 (List.mem_of_getElem? (i := 14) rfl)) rfl
theorem mt_89 : p_mthP 89 := ⟨by decide +kernel, p_wi (p_t1 (List.mem_of_getElem? (i := 1) rfl)) rfl, p_wi (p_t3 (List.mem_of_getElem? (i := 23) rfl)) rfl, by decide +kernel, by decide +kernel, by decide +kernel⟩
theorem mi_89 : Cond.instanceMethod (p_mi 89).1 ∈ p_tb := p_wi (p_t3 (List.mem_of_getElem? (i := 21) rfl)) rfl
theorem mz_89 : Cond.selects (p_mi 89).1.cls (p_mi 89).1 (p_mi 89).1 ∈ p_tb := p_wi (p_t3 (List.mem_of_getElem? (i := 22) rfl)) rfl
theorem mt_90 : p_mthP 90 := ⟨by decide +kernel, p_wi (p_t1 (List.mem_of_getElem? (i := 1) rfl)) rfl, p_wi (p_t3 (List.mem_of_getElem? (i := 27) rfl)) rfl, by decide +kernel, by decide +kernel, by decide +kernel⟩
theorem mi_90 : Cond.instanceMethod (p_mi 90).1 ∈ p_tb := p_wi (p_t3 (List.mem_of_getElem? (i := 25) rfl)) rfl
theorem mz_90 : Cond.selects (p_mi 90).1.cls (p_mi 90).1 (p_mi 90).1 ∈ p_tb := p_wi (p_t3 (List.mem_of_getElem? (i := 26) rfl)) rfl
theorem mt_91 : p_mthP 91 := ⟨by decide +kernel, p_wi (p_t1 (List.mem_of_getElem? (i := 1) rfl)) rfl, p_wi (p_t3 (List.mem_of_getElem? (i := 169) rfl)) rfl, by decide +kernel, by decide +kernel, by decide +kernel⟩
theorem mi_91 : Cond.instanceMethod (p_mi 91).1 ∈ p_tb := p_wi (p_t3 (List.mem_of_getElem? (i := 167) rfl)) rfl
theorem mz_91 : Cond.selects (p_mi 91).1.cls (p_mi 91).1 (p_mi 91).1 ∈ p_tb := p_wi (p_t3 (List.mem_of_getElem? (i := 168) rfl)) rfl
theorem mt_92 : p_mthP 92 := ⟨by decide +kernel, p_wi (p_t1 (List.mem_of_getElem? (i := 1) rfl)) rfl, p_wi (p_t4 (List.mem_of_getElem? (i := 20) rfl)) rfl, by decide +kernel, by decide +kernel, by decide +kernel⟩
theorem mi_92 : Cond.instanceMethod (p_mi 92).1 ∈ p_tb := p_wi (p_t4 (List.mem_of_getElem? (i := 18) rfl)) rfl
theorem mz_92 : Cond.selects (p_mi 92).1.cls (p_mi 92).1 (p_mi 92).1 ∈ p_tb := p_wi (p_t4 (List.mem_of_getElem? (i := 19) rfl)) rfl
theorem mt_93 : p_mthP 93 := ⟨by decide +kernel, p_wi (p_t1 (List.mem_of_getElem? (i := 1) rfl)) rfl, p_wi (p_t4 (List.mem_of_getElem? (i := 24) rfl)) rfl, by decide +kernel, by decide +kernel, by decide +kernel⟩
theorem mi_93 : Cond.instanceMethod (p_mi 93).1 ∈ p_tb := p_wi (p_t4 (List.mem_of_getElem? (i := 22) rfl)) rfl
theorem mz_93 : Cond.selects (p_mi 93).1.cls (p_mi 93).1 (p_mi 93).1 ∈ p_tb := p_wi (p_t4 (List.mem_of_getElem? (i := 23) rfl)) rfl
theorem mt_94 : p_mthP 94 := ⟨by decide +kernel, p_wi (p_t1 (List.mem_of_getElem? (i := 1) rfl)) rfl, p_wi (p_t4 (List.mem_of_getElem? (i := 28) rfl)) rfl, by decide +kernel, by decide +kernel, by decide +kernel⟩
theorem mi_94 : Cond.instanceMethod (p_mi 94).1 ∈ p_tb := p_wi (p_t4 (List.mem_of_getElem? (i := 26) rfl)) rfl
theorem mz_94 : Cond.selects (p_mi 94).1.cls (p_mi 94).1 (p_mi 94).1 ∈ p_tb := p_wi (p_t4 (List.mem_of_getElem? (i := 27) rfl)) rfl
theorem mt_95 : p_mthP 95 := ⟨by decide +kernel, p_wi (p_t1 (List.mem_of_getElem? (i := 1) rfl)) rfl, p_wi (p_t4 (List.mem_of_getElem? (i := 33) rfl)) rfl, by decide +kernel, by decide +kernel, by decide +kernel⟩
theorem mi_95 : Cond.instanceMethod (p_mi 95).1 ∈ p_tb := p_wi (p_t4 (List.mem_of_getElem? (i := 31) rfl)) rfl
theorem mz_95 : Cond.selects (p_mi 95).1.cls (p_mi 95).1 (p_mi 95).1 ∈ p_tb := p_wi (p_t4 (List.mem_of_getElem? (i := 32) rfl)) rfl
theorem mt_96 : p_mthP 96 := ⟨by decide +kernel, p_wi (p_t1 (List.mem_of_getElem? (i := 1) rfl)) rfl, p_wi (p_t4 (List.mem_of_getElem? (i := 41) rfl)) rfl, by decide +kernel, by decide +kernel, by decide +kernel⟩
theorem mi_96 : Cond.instanceMethod (p_mi 96).1 ∈ p_tb := p_wi (p_t4 (List.mem_of_getElem? (i := 39) rfl)) rfl
theorem mz_96 : Cond.selects (p_mi 96).1.cls (p_mi 96).1 (p_mi 96).1 ∈ p_tb := p_wi (p_t4 (List.mem_of_getElem? (i := 40) rfl)) rfl
theorem mt_97 : p_mthP 97 := ⟨by decide +kernel, p_wi (p_t1 (List.mem_of_getElem? (i := 1) rfl)) rfl, p_wi (p_t4 (List.mem_of_getElem? (i := 45) rfl)) rfl, by decide +kernel, by decide +kernel, by decide +kernel⟩
theorem mi_97 : Cond.instanceMethod (p_mi 97).1 ∈ p_tb := p_wi (p_t4 (List.mem_of_getElem? (i := 43) rfl)) rfl
theorem mz_97 : Cond.selects (p_mi 97).1.cls (p_mi 97).1 (p_mi 97).1 ∈ p_tb := p_wi (p_t4 (List.mem_of_getElem? (i := 44) rfl)) rfl
theorem mt_98 : p_mthP 98 := ⟨by decide +kernel, p_wi (p_t1 (List.mem_of_getElem? (i := 1) rfl)) rfl, p_wi (p_t4 (List.mem_of_getElem? (i := 49) rfl)) rfl, by decide +kernel, by decide +kernel, by decide +kernel⟩
theorem mi_98 : Cond.instanceMethod (p_mi 98).1 ∈ p_tb := p_wi (p_t4 (List.mem_of_getElem? (i := 47) rfl)) rfl
theorem mz_98 : Cond.selects (p_mi 98).1.cls (p_mi 98).1 (p_mi 98).1 ∈ p_tb := p_wi (p_t4 (List.mem_of_getElem? (i := 48) rfl)) rfl
theorem mt_99 : p_mthP 99 := ⟨by decide +kernel, p_wi (p_t1 (List.mem_of_getElem? (i := 1) rfl)) rfl, p_wi (p_t4 (List.mem_of_getElem? (i := 53) rfl)) rfl, by decide +kernel, by decide +kernel, by decide +kernel⟩
theorem mi_99 : Cond.instanceMethod (p_mi 99).1 ∈ p_tb := p_wi (p_t4 (List.mem_of_getElem? (i := 51) rfl)) rfl
theorem mz_99 : Cond.selects (p_mi 99).1.cls (p_mi 99).1 (p_mi 99).1 ∈ p_tb := p_wi (p_t4 (List.mem_of_getElem? (i := 52) rfl)) rfl
theorem mt_100 : p_mthP 100 := ⟨by decide +kernel, p_wi (p_t1 (List.mem_of_getElem? (i := 1) rfl)) rfl, p_wi (p_t4 (List.mem_of_getElem? (i := 61) rfl)) rfl, by decide +kernel, by decide +kernel, by decide +kernel⟩
theorem mi_100 : Cond.instanceMethod (p_mi 100).1 ∈ p_tb := p_wi (p_t4 (List.mem_of_getElem? (i := 59) rfl)) rfl
theorem mz_100 : Cond.selects (p_mi 100).1.cls (p_mi 100).1 (p_mi 100).1 ∈ p_tb := p_wi (p_t4 (List.mem_of_getElem? (i := 60) rfl)) rfl
theorem mt_101 : p_mthP 101 := ⟨by decide +kernel, p_wi (p_t1 (List.mem_of_getElem? (i := 1) rfl)) rfl, p_wi (p_t4 (List.mem_of_getElem? (i := 73) rfl)) rfl, by decide +kernel, by decide +kernel, by decide +kernel⟩
theorem mi_101 : Cond.instanceMethod (p_mi 101).1 ∈ p_tb := p_wi (p_t4 (List.mem_of_getElem? (i := 71) rfl)) rfl
theorem mz_101 : Cond.selects (p_mi 101).1.cls (p_mi 101).1 (p_mi 101).1 ∈ p_tb := p_wi (p_t4 (List.mem_of_getElem? (i := 72) rfl)) rfl
theorem mt_102 : p_mthP 102 := ⟨by decide +kernel, p_wi (p_t1 (List.mem_of_getElem? (i := 1) rfl)) rfl, p_wi (p_t4 (List.mem_of_getElem? (i := 78) rfl)) rfl, by decide +kernel, by decide +kernel, by decide +kernel⟩
theorem mi_102 : Cond.instanceMethod (p_mi 102).1 ∈ p_tb := p_wi (p_t4 (List.mem_of_getElem? (i := 76) rfl)) rfl
theorem mz_102 : Cond.selects (p_mi 102).1.cls (p_mi 102).1 (p_mi 102).1 ∈ p_tb := p_wi (p_t4 (List.mem_of_getElem? (i := 77) rfl)) rfl
theorem mt_103 : p_mthP 103 := ⟨by decide +kernel, p_wi (p_t1 (List.mem_of_getElem? (i := 1) rfl)) rfl, p_wi (p_t4 (List.mem_of_getElem? (i := 122) rfl)) rfl, by decide +kernel, by decide +kernel, by decide +kernel⟩
theorem mi_103 : Cond.instanceMethod (p_mi 103).1 ∈ p_tb := p_wi (p_t4 (List.mem_of_getElem? (i := 120) rfl)) rfl
theorem mz_103 : Cond.selects (p_mi 103).1.cls (p_mi 103).1 (p_mi 103).1 ∈ p_tb := p_wi (p_t4 (List.mem_of_getElem? (i := 121) rfl)) rfl
theorem mt_104 : p_mthP 104 := ⟨by decide +kernel, p_wi (p_t1 (List.mem_of_getElem? (i := 1) rfl)) rfl, p_wi (p_t4 (List.mem_of_getElem? (i := 126) rfl)) rfl, by decide +kernel, by decide +kernel, by decide +kernel⟩
theorem mi_104 : Cond.instanceMethod (p_mi 104).1 ∈ p_tb := p_wi (p_t4 (List.mem_of_getElem? (i := 124) rfl)) rfl
theorem mz_104 : Cond.selects (p_mi 104).1.cls (p_mi 104).1 (p_mi 104).1 ∈ p_tb := p_wi (p_t4 (List.mem_of_getElem? (i := 125) rfl)) rfl
theorem mt_105 : p_mthP 105 := ⟨by decide +kernel, p_wi (p_t1 (List.mem_of_getElem? (i := 1) rfl)) rfl, p_wi (p_t4 (List.mem_of_getElem? (i := 149) rfl)) rfl, by decide +kernel, by decide +kernel, by decide +kernel⟩
theorem mi_105 : Cond.instanceMethod (p_mi 105).1 ∈ p_tb := p_wi (p_t4 (List.mem_of_getElem? (i := 147) rfl)) rfl
theorem mz_105 : Cond.selects (p_mi 105).1.cls (p_mi 105).1 (p_mi 105).1 ∈ p_tb := p_wi (p_t4 (List.mem_of_getElem? (i := 148) rfl)) rfl
theorem mt_106 : p_mthP 106 := ⟨by decide +kernel, p_wi (p_t1 (List.mem_of_getElem? (i := 1) rfl)) rfl, p_wi (p_t4 (List.mem_of_getElem? (i := 157) rfl)) rfl, by decide +kernel, by decide +kernel, by decide +kernel⟩
theorem mi_106 : Cond.instanceMethod (p_mi 106).1 ∈ p_tb := p_wi (p_t4 (List.mem_of_getElem? (i := 155) rfl)) rfl
theorem mz_106 : Cond.selects (p_mi 106).1.cls (p_mi 106).1 (p_mi 106).1 ∈ p_tb := p_wi (p_t4 (List.mem_of_getElem? (i := 156) rfl)) rfl
theorem mt_107 : p_mthP 107 := ⟨by decide +kernel, p_wi (p_t1 (List.mem_of_getElem? (i := 1) rfl)) rfl, p_wi (p_t4 (List.mem_of_getElem? (i := 186) rfl)) rfl, by decide +kernel, by decide +kernel, by decide +kernel⟩
theorem mi_107 : Cond.instanceMethod (p_mi 107).1 ∈ p_tb := p_wi (p_t4 (List.mem_of_getElem? (i := 184) rfl)) rfl
theorem mz_107 : Cond.selects (p_mi 107).1.cls (p_mi 107).1 (p_mi 107).1 ∈ p_tb := p_wi (p_t4 (List.mem_of_getElem? (i := 185) rfl)) rfl
theorem mt_108 : p_mthP 108 := ⟨by decide +kernel, p_wi (p_t1 (List.mem_of_getElem? (i := 1) rfl)) rfl, p_wi (p_t4 (List.mem_of_getElem? (i := 200) rfl)) rfl, by decide +kernel, by decide +kernel, by decide +kernel⟩
theorem mi_108 : Cond.instanceMethod (p_mi 108).1 ∈ p_tb := p_wi (p_t4 (List.mem_of_getElem? (i := 198) rfl)) rfl
theorem mz_108 : Cond.selects (p_mi 108).1.cls (p_mi 108).1 (p_mi 108).1 ∈ p_tb := p_wi (p_t4 (List.mem_of_getElem? (i := 199) rfl)) rfl
theorem mt_109 : p_mthP 109 := ⟨by decide +kernel, p_wi (p_t1 (List.mem_of_getElem? (i := 1) rfl)) rfl, p_wi (p_t4 (List.mem_of_getElem? (i := 208) rfl)) rfl, by decide +kernel, by decide +kernel, by decide +kernel⟩
theorem mi_109 : Cond.instanceMethod (p_mi 109).1 ∈ p_tb := p_wi (p_t4 (List.mem_of_getElem? (i := 206) rfl)) rfl
theorem mz_109 : Cond.selects (p_mi 109).1.cls (p_mi 109).1 (p_mi 109).1 ∈ p_tb := p_wi (p_t4 (List.mem_of_getElem? (i := 207) rfl)) rfl
theorem mt_110 : p_mthP 110 := ⟨by decide +kernel, p_wi (p_t1 (List.mem_of_getElem? (i := 1) rfl)) rfl, p_wi (p_t4 (List.mem_of_getElem? (i := 212) rfl)) rfl, by decide +kernel, by decide +kernel, by decide +kernel⟩
theorem mi_110 : Cond.instanceMethod (p_mi 110).1 ∈ p_tb := p_wi (p_t4 (List.mem_of_getElem? (i := 210) rfl)) rfl
theorem mz_110 : Cond.selects (p_mi 110).1.cls (p_mi 110).1 (p_mi 110).1 ∈ p_tb := p_wi (p_t4 (List.mem_of_getElem? (i := 211) rfl)) rfl
theorem mt_111 : p_mthP 111 := ⟨by decide +kernel, p_wi (p_t1 (List.mem_of_getElem? (i := 1) rfl)) rfl, p_wi (p_t4 (List.mem_of_getElem? (i := 227) rfl)) rfl, by decide +kernel, by decide +kernel, by decide +kernel⟩
theorem mi_111 : Cond.instanceMethod (p_mi 111).1 ∈ p_tb := p_wi (p_t4 (List.mem_of_getElem? (i := 225) rfl)) rfl
theorem mz_111 : Cond.selects (p_mi 111).1.cls (p_mi 111).1 (p_mi 111).1 ∈ p_tb := p_wi (p_t4 (List.mem_of_getElem? (i := 226) rfl)) rfl
theorem mt_112 : p_mthP 112 := ⟨by decide +kernel, p_wi (p_t1 (List.mem_of_getElem? (i := 1) rfl)) rfl, p_wi (p_t4 (List.mem_of_getElem? (i := 231) rfl)) rfl, by decide +kernel, by decide +kernel, by decide +kernel⟩
theorem mi_112 : Cond.instanceMethod (p_mi 112).1 ∈ p_tb := p_wi (p_t4 (List.mem_of_getElem? (i := 229) rfl)) rfl
theorem mz_112 : Cond.selects (p_mi 112).1.cls (p_mi 112).1 (p_mi 112).1 ∈ p_tb := p_wi (p_t4 (List.mem_of_getElem? (i := 230) rfl)) rfl
theorem mt_113 : p_mthP 113 := ⟨by decide +kernel, p_wi (p_t1 (List.mem_of_getElem? (i := 1) rfl)) rfl, p_wi (p_t4 (List.mem_of_getElem? (i := 235) rfl)) rfl, by decide +kernel, by decide +kernel, by decide +kernel⟩
theorem mi_113 : Cond.instanceMethod (p_mi 113).1 ∈ p_tb := p_wi (p_t4 (List.mem_of_getElem? (i := 233) rfl)) rfl
theorem mz_113 : Cond.selects (p_mi 113).1.cls (p_mi 113).1 (p_mi 113).1 ∈ p_tb := p_wi (p_t4 (List.mem_of_getElem? (i := 234) rfl)) rfl
theorem mt_114 : p_mthP 114 := ⟨by decide +kernel, p_wi (p_t1 (List.mem_of_getElem? (i := 1) rfl)) rfl, p_wi (p_t4 (List.mem_of_getElem? (i := 239) rfl)) rfl, by decide +kernel, by decide +kernel, by decide +kernel⟩
theorem mi_114 : Cond.instanceMethod (p_mi 114).1 ∈ p_tb := p_wi (p_t4 (List.mem_of_getElem? (i := 237) rfl)) rfl
theorem mz_114 : Cond.selects (p_mi 114).1.cls (p_mi 114).1 (p_mi 114).1 ∈ p_tb := p_wi (p_t4 (List.mem_of_getElem? (i := 238) rfl)) rfl
theorem mt_115 : p_mthP 115 := ⟨by decide +kernel, p_wi (p_t1 (List.mem_of_getElem? (i := 1) rfl)) rfl, p_wi (p_t5 (List.mem_of_getElem? (i := 5) rfl)) rfl, by decide +kernel, by decide +kernel, by decide +kernel⟩
theorem mi_115 : Cond.instanceMethod (p_mi 115).1 ∈ p_tb := p_wi (p_t5 (List.mem_of_getElem? (i := 3) rfl)) rfl
theorem mz_115 : Cond.selects (p_mi 115).1.cls (p_mi 115).1 (p_mi 115).1 ∈ p_tb := p_wi (p_t5 (List.mem_of_getElem? (i := 4) rfl)) rfl
theorem mt_116 : p_mthP 116 := ⟨by decide +kernel, p_wi (p_t1 (List.mem_of_getElem? (i := 1) rfl)) rfl, p_wi (p_t2 (List.mem_of_getElem? (i := 145) rfl)) rfl, by decide +kernel, by decide +kernel, by decide +kernel⟩
theorem mi_116 : Cond.instanceMethod (p_mi 116).1 ∈ p_tb := p_wi (p_t2 (List.mem_of_getElem? (i := 144) rfl)) rfl
theorem mz_116 : Cond.selects (p_mi 116).1.cls (p_mi 116).1 (p_mi 116).1 ∈ p_tb := p_wi (p_t0 (List.mem_of_getElem? (i := 0) rfl)) rfl
theorem mt_117 : p_mthP 117 := ⟨by decide +kernel, p_wi (p_t1 (List.mem_of_getElem? (i := 1) rfl)) rfl, p_wi (p_t2 (List.mem_of_getElem? (i := 161) rfl)) rfl, by decide +kernel, by decide +kernel, by decide +kernel⟩
theorem mi_117 : Cond.instanceMethod (p_mi 117).1 ∈ p_tb := p_wi (p_t2 (List.mem_of_getElem? (i := 160) rfl)) rfl
theorem mz_117 : Cond.selects (p_mi 117).1.cls (p_mi 117).1 (p_mi 117).1 ∈ p_tb := p_wi (p_t0 (List.mem_of_getElem? (i := 1) rfl)) rfl
theorem mt_118 : p_mthP 118 := ⟨by decide +kernel, p_wi (p_t1 (List.mem_of_getElem? (i := 1) rfl)) rfl, p_wi (p_t4 (List.mem_of_getElem? (i := 37) rfl)) rfl, by decide +kernel, by decide +kernel, by decide +kernel⟩
theorem mi_118 : Cond.instanceMethod (p_mi 118).1 ∈ p_tb := p_wi (p_t4 (List.mem_of_getElem? (i := 36) rfl)) rfl
theorem mz_118 : Cond.selects (p_mi 118).1.cls (p_mi 118).1 (p_mi 118).1 ∈ p_tb := p_wi (p_t0 (List.mem_of_getElem? (i := 25) rfl)) rfl
theorem mt_119 : p_mthP 119 := ⟨by decide +kernel, p_wi (p_t1 (List.mem_of_getElem? (i := 1) rfl)) rfl, p_wi (p_t3 (List.mem_of_getElem? (i := 19) rfl)) rfl, by decide +kernel, by decide +kernel, by decide +kernel⟩
theorem mi_119 : Cond.instanceMethod (p_mi 119).1 ∈ p_tb := p_wi (p_t3 (List.mem_of_getElem? (i := 18) rfl)) rfl
theorem mz_119 : Cond.selects (p_mi 119).1.cls (p_mi 119).1 (p_mi 119).1 ∈ p_tb := p_wi (p_t0 (List.mem_of_getElem? (i := 4) rfl)) rfl
theorem mt_120 : p_mthP 120 := ⟨by decide +kernel, p_wi (p_t1 (List.mem_of_getElem? (i := 1) rfl)) rfl, p_wi (p_t3 (List.mem_of_getElem? (i := 183) rfl)) rfl, by decide +kernel, by decide +kernel, by decide +kernel⟩
theorem mi_120 : Cond.instanceMethod (p_mi 120).1 ∈ p_tb := p_wi (p_t3 (List.mem_of_getElem? (i := 182) rfl)) rfl
theorem mz_120 : Cond.selects (p_mi 120).1.cls (p_mi 120).1 (p_mi 120).1 ∈ p_tb := p_wi (p_t0 (List.mem_of_getElem? (i := 19) rfl)) rfl
theorem mt_121 : p_mthP 121 := ⟨by decide +kernel, p_wi (p_t1 (List.mem_of_getElem? (i := 1) rfl)) rfl, p_wi (p_t3 (List.mem_of_getElem? (i := 201) rfl)) rfl, by decide +kernel, by decide +kernel, by decide +kernel⟩
theorem mi_121 : Cond.instanceMethod (p_mi 121).1 ∈ p_tb := p_wi (p_t3 (List.mem_of_getElem? (i := 200) rfl)) rfl
theorem mz_121 : Cond.selects (p_mi 121).1.cls (p_mi 121).1 (p_mi 121).1 ∈ p_tb := p_wi (p_t0 (List.mem_of_getElem? (i := 20) rfl)) rfl
theorem mt_122 : p_mthP 122 := ⟨by decide +kernel, p_wi (p_t1 (List.mem_of_getElem? (i := 1) rfl)) rfl, p_wi (p_t4 (List.mem_of_getElem? (i := 82) rfl)) rfl, by decide +kernel, by decide +kernel, by decide +kernel⟩
theorem mi_122 : Cond.instanceMethod (p_mi 122).1 ∈ p_tb := p_wi (p_t4 (List.mem_of_getElem? (i := 81) rfl)) rfl
theorem mz_122 : Cond.selects (p_mi 122).1.cls (p_mi 122).1 (p_mi 122).1 ∈ p_tb := p_wi (p_t0 (List.mem_of_getElem? (i := 26) rfl)) rfl
theorem mt_123 : p_mthP 123 := ⟨by decide +kernel, p_wi (p_t1 (List.mem_of_getElem? (i := 1) rfl)) rfl, p_wi (p_t4 (List.mem_of_getElem? (i := 153) rfl)) rfl, by decide +kernel, by decide +kernel, by decide +kernel⟩
theorem mi_123 : Cond.instanceMethod (p_mi 123).1 ∈ p_tb := p_wi (p_t4 (List.mem_of_getElem? (i := 152) rfl)) rfl
theorem mz_123 : Cond.selects (p_mi 123).1.cls (p_mi 123).1 (p_mi 123).1 ∈ p_tb := p_wi (p_t0 (List.mem_of_getElem? (i := 35) rfl)) rfl
theorem mt_124 : p_mthP 124 := ⟨by decide +kernel, p_wi (p_t1 (List.mem_of_getElem? (i := 1) rfl)) rfl, p_wi (p_t4 (List.mem_of_getElem? (i := 217) rfl)) rfl, by decide +kernel, by decide +kernel, by decide +kernel⟩
theorem mi_124 : Cond.instanceMethod (p_mi 124).1 ∈ p_tb := p_wi (p_t4 (List.mem_of_getElem? (i := 216) rfl)) rfl
theorem mz_124 : Cond.selects (p_mi 124).1.cls (p_mi 124).1 (p_mi 124).1 ∈ p_tb := p_wi (p_t0 (List.mem_of_getElem? (i := 40) rfl)) rfl
theorem mt_125 : p_mthP 125 := ⟨by decide +kernel, p_wi (p_t1 (List.mem_of_getElem? (i := 10) rfl)) rfl, p_wi (p_t5 (List.mem_of_getElem? (i := 163) rfl)) rfl, by decide +kernel, by decide +kernel, by decide +kernel⟩
theorem ms_125 : Cond.static (p_mi 125).1 ∈ p_tb := p_wi (p_t5 (List.mem_of_getElem? (i := 162) rfl)) rfl
theorem mt_126 : p_mthP 126 := ⟨by decide +kernel, p_wi (p_t1 (List.mem_of_getElem? (i := 10) rfl)) rfl, p_wi (p_t6 (List.mem_of_getElem? (i := 235) rfl)) rfl, by decide +kernel, by decide +kernel, by decide +kernel⟩
theorem ms_126 : Cond.static (p_mi 126).1 ∈ p_tb := p_wi (p_t6 (List.mem_of_getElem? (i := 234) rfl)) rfl
theorem mt_127 : p_mthP 127 := ⟨by decide +kernel, p_wi (p_t1 (List.mem_of_getElem? (i := 10) rfl)) rfl, p_wi (p_t7 (List.mem_of_getElem? (i := 22) rfl)) rfl, by decide +kernel, by decide +kernel, by decide +kernel⟩
theorem ms_127 : Cond.static (p_mi 127).1 ∈ p_tb := p_wi (p_t7 (List.mem_of_getElem? (i := 21) rfl)) rfl
theorem mt_128 : p_mthP 128 := ⟨by decide +kernel, p_wi (p_t1 (List.mem_of_getElem? (i := 10) rfl)) rfl, p_wi (p_t5 (List.mem_of_getElem? (i := 167) rfl)) rfl, by decide +kernel, by decide +kernel, by decide +kernel⟩
theorem mi_128 : Cond.instanceMethod (p_mi 128).1 ∈ p_tb := p_wi (p_t5 (List.mem_of_getElem? (i := 166) rfl)) rfl
theorem mz_128 : Cond.selects (p_mi 128).1.cls (p_mi 128).1 (p_mi 128).1 ∈ p_tb := p_wi (p_t0 (List.mem_of_getElem? (i := 41) rfl)) rfl
theorem mt_129 : p_mthP 129 := ⟨by decide +kernel, p_wi (p_t1 (List.mem_of_getElem? (i := 10) rfl)) rfl, p_wi (p_t5 (List.mem_of_getElem? (i := 171) rfl)) rfl, by decide +kernel, by decide +kernel, by decide +kernel⟩
theorem mi_129 : Cond.instanceMethod (p_mi 129).1 ∈ p_tb := p_wi (p_t5 (List.mem_of_getElem? (i := 170) rfl)) rfl
theorem mz_129 : Cond.selects (p_mi 129).1.cls (p_mi 129).1 (p_mi 129).1 ∈ p_tb := p_wi (p_t0 (List.mem_of_getElem? (i := 42) rfl)) rfl
theorem mt_130 : p_mthP 130 := ⟨by decide +kernel, p_wi (p_t1 (List.mem_of_getElem? (i := 10) rfl)) rfl, p_wi (p_t5 (List.mem_of_getElem? (i := 179) rfl)) rfl, by decide +kernel, by decide +kernel, by decide +kernel⟩
theorem mi_130 : Cond.instanceMethod (p_mi 130).1 ∈ p_tb := p_wi (p_t5 (List.mem_of_getElem? (i := 178) rfl)) rfl
theorem mz_130 : Cond.selects (p_mi 130).1.cls (p_mi 130).1 (p_mi 130).1 ∈ p_tb := p_wi (p_t0 (List.mem_of_getElem? (i := 43) rfl)) rfl
theorem mt_131 : p_mthP 131 := ⟨by decide +kernel, p_wi (p_t1 (List.mem_of_getElem? (i := 10) rfl)) rfl, p_wi (p_t6 (List.mem_of_getElem? (i := 228) rfl)) rfl, by decide +kernel, by decide +kernel, by decide +kernel⟩
theorem ms_131 : Cond.static (p_mi 131).1 ∈ p_tb := p_wi (p_t6 (List.mem_of_getElem? (i := 227) rfl)) rfl
theorem mt_132 : p_mthP 132 := ⟨by decide +kernel, p_wi (p_t1 (List.mem_of_getElem? (i := 10) rfl)) rfl, p_wi (p_t5 (List.mem_of_getElem? (i := 214) rfl)) rfl, by decide +kernel, by decide +kernel, by decide +kernel⟩
theorem ms_132 : Cond.static (p_mi 132).1 ∈ p_tb := p_wi (p_t5 (List.mem_of_getElem? (i := 213) rfl)) rfl
theorem mt_133 : p_mthP 133 := ⟨by decide +kernel, p_wi (p_t1 (List.mem_of_getElem? (i := 10) rfl)) rfl, p_wi (p_t5 (List.mem_of_getElem? (i := 10) rfl)) rfl, by decide +kernel, by decide +kernel, by decide +kernel⟩
theorem mi_133 : Cond.instanceMethod (p_mi 133).1 ∈ p_tb := p_wi (p_t5 (List.mem_of_getElem? (i := 9) rfl)) rfl
theorem mt_134 : p_mthP 134 := ⟨by decide +kernel, p_wi (p_t1 (List.mem_of_getElem? (i := 10) rfl)) rfl, p_wi (p_t7 (List.mem_of_getElem? (i := 136) rfl)) rfl, by decide +kernel, by decide +kernel, by decide +kernel⟩
theorem mi_134 : Cond.instanceMethod (p_mi 134).1 ∈ p_tb := p_wi (p_t7 (List.mem_of_getElem? (i := 135) rfl)) rfl
theorem mz_134 : Cond.selects (p_mi 134).1.cls (p_mi 134).1 (p_mi 134).1 ∈ p_tb := p_wi (p_t0 (List.mem_of_getElem? (i := 116) rfl)) rfl
theorem mt_135 : p_mthP 135 := ⟨by decide +kernel, p_wi (p_t1 (List.mem_of_getElem? (i := 10) rfl)) rfl, p_wi (p_t7 (List.mem_of_getElem? (i := 152) rfl)) rfl, by decide +kernel, by decide +kernel, by decide +kernel⟩
theorem mi_135 : Cond.instanceMethod (p_mi 135).1 ∈ p_tb := p_wi (p_t7 (List.mem_of_getElem? (i := 151) rfl)) rfl
theorem mz_135 : Cond.selects (p_mi 135).1.cls (p_mi 135).1 (p_mi 135).1 ∈ p_tb := p_wi (p_t0 (List.mem_of_getElem? (i := 120) rfl)) rfl
theorem mt_136 : p_mthP 136 := ⟨by decide +kernel, p_wi (p_t1 (List.mem_of_getElem? (i := 10) rfl)) rfl, p_wi (p_t5 (List.mem_of_getElem? (i := 160) rfl)) rfl, by decide +kernel, by decide +kernel, by decide +kernel⟩
theorem mi_136 : Cond.instanceMethod (p_mi 136).1 ∈ p_tb := p_wi (p_t5 (List.mem_of_getElem? (i := 158) rfl)) rfl
theorem mz_136 : Cond.selects (p_mi 136).1.cls (p_mi 136).1 (p_mi 136).1 ∈ p_tb := p_wi (p_t5 (List.mem_of_getElem? (i := 159) rfl)) rfl
theorem mt_137 : p_mthP 137 := ⟨by decide +kernel, p_wi (p_t1 (List.mem_of_getElem? (i := 10) rfl)) rfl, p_wi (p_t5 (List.mem_of_getElem? (i := 175) rfl)) rfl, by decide +kernel, by decide +kernel, by decide +kernel⟩
theorem mi_137 : Cond.instanceMethod (p_mi 137).1 ∈ p_tb := p_wi (p_t5 (List.mem_of_getElem? (i := 173) rfl)) rfl
theorem mz_137 : Cond.selects (p_mi 137).1.cls (p_mi 137).1 (p_mi 137).1 ∈ p_tb := p_wi (p_t5 (List.mem_of_getElem? (i := 174) rfl)) rfl
theorem mt_138 : p_mthP 138 := ⟨by decide +kernel, p_wi (p_t1 (List.mem_of_getElem? (i := 10) rfl)) rfl, p_wi (p_t6 (List.mem_of_getElem? (i := 48) rfl)) rfl, by decide +kernel, by decide +kernel, by decide +kernel⟩
theorem mi_138 : Cond.instanceMethod (p_mi 138).1 ∈ p_tb := p_wi (p_t6 (List.mem_of_getElem? (i := 47) rfl)) rfl
theorem mz_138 : Cond.selects (p_mi 138).1.cls (p_mi 138).1 (p_mi 138).1 ∈ p_tb := p_wi (p_t0 (List.mem_of_getElem? (i := 64) rfl)) rfl
theorem mt_139 : p_mthP 139 := ⟨by decide +kernel, p_wi (p_t1 (List.mem_of_getElem? (i := 10) rfl)) rfl, p_wi (p_t5 (List.mem_of_getElem? (i := 207) rfl)) rfl, by decide +kernel, by decide +kernel, by decide +kernel⟩
theorem mi_139 : Cond.instanceMethod (p_mi 139).1 ∈ p_tb := p_wi (p_t5 (List.mem_of_getElem? (i := 206) rfl)) rfl
theorem mz_139 : Cond.selects (p_mi 139).1.cls (p_mi 139).1 (p_mi 139).1 ∈ p_tb := p_wi (p_t0 (List.mem_of_getElem? (i := 46) rfl)) rfl
theorem mt_140 : p_mthP 140 := ⟨by decide +kernel, p_wi (p_t1 (List.mem_of_getElem? (i := 10) rfl)) rfl, p_wi (p_t7 (List.mem_of_getElem? (i := 160) rfl)) rfl, by decide +kernel, by decide +kernel, by decide +kernel⟩
theorem mi_140 : Cond.instanceMethod (p_mi 140).1 ∈ p_tb := p_wi (p_t7 (List.mem_of_getElem? (i := 159) rfl)) rfl
theorem mz_140 : Cond.selects (p_mi 140).1.cls (p_mi 140).1 (p_mi 140).1 ∈ p_tb := p_wi (p_t0 (List.mem_of_getElem? (i := 121) rfl)) rfl
theorem mt_141 : p_mthP 141 := ⟨by decide +kernel, p_wi (p_t1 (List.mem_of_getElem? (i := 10) rfl)) rfl, p_wi (p_t5 (List.mem_of_getElem? (i := 187) rfl)) rfl, by decide +kernel, by decide +kernel, by decide +kernel⟩
theorem mi_141 : Cond.instanceMethod (p_mi 141).1 ∈ p_tb := p_wi (p_t5 (List.mem_of_getElem? (i := 186) rfl)) rfl
theorem mz_141 : Cond.selects (p_mi 141).1.cls (p_mi 141).1 (p_mi 141).1 ∈ p_tb := p_wi (p_t0 (List.mem_of_getElem? (i := 44) rfl)) rfl
theorem mt_142 : p_mthP 142 := ⟨by decide +kernel, p_wi (p_t1 (List.mem_of_getElem? (i := 10) rfl)) rfl, p_wi (p_t6 (List.mem_of_getElem? (i := 52) rfl)) rfl, by decide +kernel, by decide +kernel, by decide +kernel⟩
theorem mi_142 : Cond.instanceMethod (p_mi 142).1 ∈ p_tb := p_wi (p_t6 (List.mem_of_getElem? (i := 51) rfl)) rfl
theorem mz_142 : Cond.selects (p_mi 142).1.cls (p_mi 142).1 (p_mi 142).1 ∈ p_tb := p_wi (p_t0 (List.mem_of_getElem? (i := 65) rfl)) rfl
theorem mt_143 : p_mthP 143 := ⟨by decide +kernel, p_wi (p_t1 (List.mem_of_getElem? (i := 10) rfl)) rfl, p_wi (p_t7 (List.mem_of_getElem? (i := 42) rfl)) rfl, by decide +kernel, by decide +kernel, by decide +kernel⟩
theorem mi_143 : Cond.instanceMethod (p_mi 143).1 ∈ p_tb := p_wi (p_t7 (List.mem_of_getElem? (i := 41) rfl)) rfl
theorem mz_143 : Cond.selects (p_mi 143).1.cls (p_mi 143).1 (p_mi 143).1 ∈ p_tb := p_wi (p_t0 (List.mem_of_getElem? (i := 102) rfl)) rfl
theorem mt_144 : p_mthP 144 := ⟨by decide +kernel, p_wi (p_t1 (List.mem_of_getElem? (i := 10) rfl)) rfl, p_wi (p_t5 (List.mem_of_getElem? (i := 183) rfl)) rfl, by decide +kernel, by decide +kernel, by decide +kernel⟩
theorem mi_144 : Cond.instanceMethod (p_mi 144).1 ∈ p_tb := p_wi (p_t5 (List.mem_of_getElem? (i := 181) rfl)) rfl
theorem mz_144 : Cond.selects (p_mi 144).1.cls (p_mi 144).1 (p_mi 144).1 ∈ p_tb := p_wi (p_t5 (List.mem_of_getElem? (i := 182) rfl)) rfl
theorem mt_145 : p_mthP 145 := ⟨by decide +kernel, p_wi (p_t1 (List.mem_of_getElem? (i := 10) rfl)) rfl, p_wi (p_t5 (List.mem_of_getElem? (i := 194) rfl)) rfl, by decide +kernel, by decide +kernel, by decide +kernel⟩
theorem ms_145 : Cond.static (p_mi 145).1 ∈ p_tb := p_wi (p_t5 (List.mem_of_getElem? (i := 193) rfl)) rfl
theorem mt_146 : p_mthP 146 := ⟨by decide +kernel, p_wi (p_t1 (List.mem_of_getElem? (i := 10) rfl)) rfl, p_wi (p_t5 (List.mem_of_getElem? (i := 199) rfl)) rfl, by decide +kernel, by decide +kernel, by decide +kernel⟩
theorem mi_146 : Cond.instanceMethod (p_mi 146).1 ∈ p_tb := p_wi (p_t5 (List.mem_of_getElem? (i := 198) rfl)) rfl
theorem mz_146 : Cond.selects (p_mi 146).1.cls (p_mi 146).1 (p_mi 146).1 ∈ p_tb := p_wi (p_t0 (List.mem_of_getElem? (i := 45) rfl)) rfl
theorem mt_147 : p_mthP 147 := ⟨by decide +kernel, p_wi (p_t1 (List.mem_of_getElem? (i := 10) rfl)) rfl, p_wi (p_t5 (List.mem_of_getElem? (i := 191) rfl)) rfl, by decide +kernel, by decide +kernel, by decide +kernel⟩
theorem mi_147 : Cond.instanceMethod (p_mi 147).1 ∈ p_tb := p_wi (p_t5 (List.mem_of_getElem? (i := 189) rfl)) rfl
theorem mz_147 : Cond.selects (p_mi 147).1.cls (p_mi 147).1 (p_mi 147).1 ∈ p_tb := p_wi (p_t5 (List.mem_of_getElem? (i := 190) rfl)) rfl
theorem mt_148 : p_mthP 148 := ⟨by decide +kernel, p_wi (p_t1 (List.mem_of_getElem? (i := 10) rfl)) rfl, p_wi (p_t5 (List.mem_of_getElem? (i := 203) rfl)) rfl, by decide +kernel, by decide +kernel, by decide +kernel⟩
theorem mi_148 : Cond.instanceMethod (p_mi 148).1 ∈ p_tb := p_wi (p_t5 (List.mem_of_getElem? (i := 201) rfl)) rfl
theorem mz_148 : Cond.selects (p_mi 148).1.cls (p_mi 148).1 (p_mi 148).1 ∈ p_tb := p_wi (p_t5 (List.mem_of_getElem? (i := 202) rfl)) rfl
theorem mt_149 : p_mthP 149 := ⟨by decide +kernel, p_wi (p_t1 (List.mem_of_getElem? (i := 10) rfl)) rfl, p_wi (p_t6 (List.mem_of_getElem? (i := 56) rfl)) rfl, by decide +kernel, by decide +kernel, by decide +kernel⟩
theorem mi_149 : Cond.instanceMethod (p_mi 149).1 ∈ p_tb := p_wi (p_t6 (List.mem_of_getElem? (i := 54) rfl)) rfl
theorem mz_149 : Cond.selects (p_mi 149).1.cls (p_mi 149).1 (p_mi 149).1 ∈ p_tb := p_wi (p_t6 (List.mem_of_getElem? (i := 55) rfl)) rfl
theorem mt_150 : p_mthP 150 := ⟨by decide +kernel, p_wi (p_t1 (List.mem_of_getElem? (i := 10) rfl)) rfl, p_wi (p_t6 (List.mem_of_getElem? (i := 63) rfl)) rfl, by decide +kernel, by decide +kernel, by decide +kernel⟩
theorem ms_150 : Cond.static (p_mi 150).1 ∈ p_tb := p_wi (p_t6 (List.mem_of_getElem? (i := 62) rfl)) rfl
theorem mt_151 : p_mthP 151 := ⟨by decide +kernel, p_wi (p_t1 (List.mem_of_getElem? (i := 10) rfl)) rfl, p_wi (p_t6 (List.mem_of_getElem? (i := 66) rfl)) rfl, by decide +kernel, by decide +kernel, by decide +kernel⟩
theorem ms_151 : Cond.static (p_mi 151).1 ∈ p_tb := p_wi (p_t6 (List.mem_of_getElem? (i := 65) rfl)) rfl
theorem mt_152 : p_mthP 152 := ⟨by decide +kernel, p_wi (p_t1 (List.mem_of_getElem? (i := 10) rfl)) rfl, p_wi (p_t6 (List.mem_of_getElem? (i := 60) rfl)) rfl, by decide +kernel, by decide +kernel, by decide +kernel⟩
theorem mi_152 : Cond.instanceMethod (p_mi 152).1 ∈ p_tb := p_wi (p_t6 (List.mem_of_getElem? (i := 58) rfl)) rfl
theorem mz_152 : Cond.selects (p_mi 152).1.cls (p_mi 152).1 (p_mi 152).1 ∈ p_tb := p_wi (p_t6 (List.mem_of_getElem? (i := 59) rfl)) rfl
theorem mt_153 : p_mthP 153 := ⟨by decide +kernel, p_wi (p_t1 (List.mem_of_getElem? (i := 10) rfl)) rfl, p_wi (p_t6 (List.mem_of_getElem? (i := 74) rfl)) rfl, by decide +kernel, by decide +kernel, by decide +kernel⟩
theorem mi_153 : Cond.instanceMethod (p_mi 153).1 ∈ p_tb := p_wi (p_t6 (List.mem_of_getElem? (i := 73) rfl)) rfl
theorem mz_153 : Cond.selects (p_mi 153).1.cls (p_mi 153).1 (p_mi 153).1 ∈ p_tb := p_wi (p_t0 (List.mem_of_getElem? (i := 66) rfl)) rfl
theorem mt_154 : p_mthP 154 := ⟨by decide +kernel, p_wi (p_t1 (List.mem_of_getElem? (i := 10) rfl)) rfl, p_wi (p_t6 (List.mem_of_getElem? (i := 70) rfl)) rfl, by decide +kernel, by decide +kernel, by decide +kernel⟩
theorem mi_154 : Cond.instanceMethod (p_mi 154).1 ∈ p_tb := p_wi (p_t6 (List.mem_of_getElem? (i := 68) rfl)) rfl
theorem mz_154 : Cond.selects (p_mi 154).1.cls (p_mi 154).1 (p_mi 154).1 ∈ p_tb := p_wi (p_t6 (List.mem_of_getElem? (i := 69) rfl)) rfl
theorem mt_155 : p_mthP 155 := ⟨by decide +kernel, p_wi (p_t1 (List.mem_of_getElem? (i := 10) rfl)) rfl, p_wi (p_t6 (List.mem_of_getElem? (i := 78) rfl)) rfl, by decide +kernel, by decide +kernel, by decide +kernel⟩
theorem mi_155 : Cond.instanceMethod (p_mi 155).1 ∈ p_tb := p_wi (p_t6 (List.mem_of_getElem? (i := 76) rfl)) rfl
theorem mz_155 : Cond.selects (p_mi 155).1.cls (p_mi 155).1 (p_mi 155).1 ∈ p_tb := p_wi (p_t6 (List.mem_of_getElem? (i := 77) rfl)) rfl
theorem mt_156 : p_mthP 156 := ⟨by decide +kernel, p_wi (p_t1 (List.mem_of_getElem? (i := 10) rfl)) rfl, p_wi (p_t6 (List.mem_of_getElem? (i := 82) rfl)) rfl, by decide +kernel, by decide +kernel, by decide +kernel⟩
theorem mi_156 : Cond.instanceMethod (p_mi 156).1 ∈ p_tb := p_wi (p_t6 (List.mem_of_getElem? (i := 80) rfl)) rfl
theorem mz_156 : Cond.selects (p_mi 156).1.cls (p_mi 156).1 (p_mi 156).1 ∈ p_tb := p_wi (p_t6 (List.mem_of_getElem? (i := 81) rfl)) rfl
theorem mt_157 : p_mthP 157 := ⟨by decide +kernel, p_wi (p_t1 (List.mem_of_getElem? (i := 10) rfl)) rfl, p_wi (p_t6 (List.mem_of_getElem? (i := 86) rfl)) rfl, by decide +kernel, by decide +kernel, by decide +kernel⟩
theorem mi_157 : Cond.instanceMethod (p_mi 157).1 ∈ p_tb := p_wi (p_t6 (List.mem_of_getElem? (i := 84) rfl)) rfl
theorem mz_157 : Cond.selects (p_mi 157).1.cls (p_mi 157).1 (p_mi 157).1 ∈ p_tb := p_wi (p_t6 (List.mem_of_getElem? (i := 85) rfl)) rfl
theorem mt_158 : p_mthP 158 := ⟨by decide +kernel, p_wi (p_t1 (List.mem_of_getElem? (i := 10) rfl)) rfl, p_wi (p_t6 (List.mem_of_getElem? (i := 105) rfl)) rfl, by decide +kernel, by decide +kernel, by decide +kernel⟩
theorem ms_158 : Cond.static (p_mi 158).1 ∈ p_tb := p_wi (p_t6 (List.mem_of_getElem? (i := 104) rfl)) rfl
theorem mt_159 : p_mthP 159 := ⟨by decide +kernel, p_wi (p_t1 (List.mem_of_getElem? (i := 10) rfl)) rfl, p_wi (p_t6 (List.mem_of_getElem? (i := 108) rfl)) rfl, by decide +kernel, by decide +kernel, by decide +kernel⟩
theorem ms_159 : Cond.static (p_mi 159).1 ∈ p_tb := p_wi (p_t6 (List.mem_of_getElem? (i := 107) rfl)) rfl
theorem mt_160 : p_mthP 160 := ⟨by decide +kernel, p_wi (p_t1 (List.mem_of_getElem? (i := 10) rfl)) rfl, p_wi (p_t6 (List.mem_of_getElem? (i := 112) rfl)) rfl, by decide +kernel, by decide +kernel, by decide +kernel⟩
theorem mi_160 : Cond.instanceMethod (p_mi 160).1 ∈ p_tb := p_wi (p_t6 (List.mem_of_getElem? (i := 111) rfl)) rfl
theorem mz_160 : Cond.selects (p_mi 160).1.cls (p_mi 160).1 (p_mi 160).1 ∈ p_tb := p_wi (p_t0 (List.mem_of_getElem? (i := 70) rfl)) rfl
theorem mt_161 : p_mthP 161 := ⟨by decide +kernel, p_wi (p_t1 (List.mem_of_getElem? (i := 10) rfl)) rfl, p_wi (p_t6 (List.mem_of_getElem? (i := 102) rfl)) rfl, by decide +kernel, by decide +kernel, by decide +kernel⟩
theorem mi_161 : Cond.instanceMethod (p_mi 161).1 ∈ p_tb := p_wi (p_t6 (List.mem_of_getElem? (i := 101) rfl)) rfl
theorem mz_161 : Cond.selects (p_mi 161).1.cls (p_mi 161).1 (p_mi 161).1 ∈ p_tb := p_wi (p_t0 (List.mem_of_getElem? (i := 69) rfl)) rfl
theorem mt_162 : p_mthP 162 := ⟨by decide +kernel, p_wi (p_t1 (List.mem_of_getElem? (i := 10) rfl)) rfl, p_wi (p_t6 (List.mem_of_getElem? (i := 129) rfl)) rfl, by decide +kernel, by decide +kernel, by decide +kernel⟩
theorem mi_162 : Cond.instanceMethod (p_mi 162).1 ∈ p_tb := p_wi (p_t6 (List.mem_of_getElem? (i := 128) rfl)) rfl
theorem mz_162 : Cond.selects (p_mi 162).1.cls (p_mi 162).1 (p_mi 162).1 ∈ p_tb := p_wi (p_t0 (List.mem_of_getElem? (i := 74) rfl)) rfl
theorem mt_163 : p_mthP 163 := ⟨by decide +kernel, p_wi (p_t1 (List.mem_of_getElem? (i := 10) rfl)) rfl, p_wi (p_t6 (List.mem_of_getElem? (i := 145) rfl)) rfl, by decide +kernel, by decide +kernel, by decide +kernel⟩
theorem mi_163 : Cond.instanceMethod (p_mi 163).1 ∈ p_tb := p_wi (p_t6 (List.mem_of_getElem? (i := 144) rfl)) rfl
theorem mz_163 : Cond.selects (p_mi 163).1.cls (p_mi 163).1 (p_mi 163).1 ∈ p_tb := p_wi (p_t0 (List.mem_of_getElem? (i := 78) rfl)) rfl
theorem mt_164 : p_mthP 164 := ⟨by decide +kernel, p_wi (p_t1 (List.mem_of_getElem? (i := 10) rfl)) rfl, p_wi (p_t6 (List.mem_of_getElem? (i := 125) rfl)) rfl, by decide +kernel, by decide +kernel, by decide +kernel⟩
theorem mi_164 : Cond.instanceMethod (p_mi 164).1 ∈ p_tb := p_wi (p_t6 (List.mem_of_getElem? (i := 124) rfl)) rfl
theorem mz_164 : Cond.selects (p_mi 164).1.cls (p_mi 164).1 (p_mi 164).1 ∈ p_tb := p_wi (p_t0 (List.mem_of_getElem? (i := 73) rfl)) rfl
theorem mt_165 : p_mthP 165 := ⟨by decide +kernel, p_wi (p_t1 (List.mem_of_getElem? (i := 10) rfl)) rfl, p_wi (p_t6 (List.mem_of_getElem? (i := 149) rfl)) rfl, by decide +kernel, by decide +kernel, by decide +kernel⟩
theorem mi_165 : Cond.instanceMethod (p_mi 165).1 ∈ p_tb := p_wi (p_t6 (List.mem_of_getElem? (i := 148) rfl)) rfl
theorem mz_165 : Cond.selects (p_mi 165).1.cls (p_mi 165).1 (p_mi 165).1 ∈ p_tb := p_wi (p_t0 (List.mem_of_getElem? (i := 79) rfl)) rfl
theorem mt_166 : p_mthP 166 := ⟨by decide +kernel, p_wi (p_t1 (List.mem_of_getElem? (i := 10) rfl)) rfl, p_wi (p_t6 (List.mem_of_getElem? (i := 153) rfl)) rfl, by decide +kernel, by decide +kernel, by decide +kernel⟩
theorem mi_166 : Cond.instanceMethod (p_mi 166).1 ∈ p_tb := p_wi (p_t6 (List.mem_of_getElem? (i := 152) rfl)) rfl
theorem mz_166 : Cond.selects (p_mi 166).1.cls (p_mi 166).1 (p_mi 166).1 ∈ p_tb := p_wi (p_t0 (List.mem_of_getElem? (i := 80) rfl)) rfl
theorem mt_167 : p_mthP 167 := ⟨by decide +kernel, p_wi (p_t1 (List.mem_of_getElem? (i := 10) rfl)) rfl, p_wi (p_t6 (List.mem_of_getElem? (i := 5) rfl)) rfl, by decide +kernel, by decide +kernel, by decide +kernel⟩
theorem ms_167 : Cond.static (p_mi 167).1 ∈ p_tb := p_wi (p_t6 (List.mem_of_getElem? (i := 4) rfl)) rfl
theorem mt_168 : p_mthP 168 := ⟨by decide +kernel, p_wi (p_t1 (List.mem_of_getElem? (i := 10) rfl)) rfl, p_wi (p_t6 (List.mem_of_getElem? (i := 157) rfl)) rfl, by decide +kernel, by decide +kernel, by decide +kernel⟩
theorem mi_168 : Cond.instanceMethod (p_mi 168).1 ∈ p_tb := p_wi (p_t6 (List.mem_of_getElem? (i := 156) rfl)) rfl
theorem mz_168 : Cond.selects (p_mi 168).1.cls (p_mi 168).1 (p_mi 168).1 ∈ p_tb := p_wi (p_t0 (List.mem_of_getElem? (i := 81) rfl)) rfl
theorem mt_169 : p_mthP 169 := ⟨by decide +kernel, p_wi (p_t1 (List.mem_of_getElem? (i := 10) rfl)) rfl, p_wi (p_t6 (List.mem_of_getElem? (i := 173) rfl)) rfl, by decide +kernel, by decide +kernel, by decide +kernel⟩
theorem mi_169 : Cond.instanceMethod (p_mi 169).1 ∈ p_tb := p_wi (p_t6 (List.mem_of_getElem? (i := 172) rfl)) rfl
theorem mz_169 : Cond.selects (p_mi 169).1.cls (p_mi 169).1 (p_mi 169).1 ∈ p_tb := p_wi (p_t0 (List.mem_of_getElem? (i := 85) rfl)) rfl
theorem mt_170 : p_mthP 170 := ⟨by decide +kernel, p_wi (p_t1 (List.mem_of_getElem? (i := 10) rfl)) rfl, p_wi (p_t6 (List.mem_of_getElem? (i := 121) rfl)) rfl, by decide +kernel, by decide +kernel, by decide +kernel⟩
theorem mi_170 : Cond.instanceMethod (p_mi 170).1 ∈ p_tb := p_wi (p_t6 (List.mem_of_getElem? (i := 120) rfl)) rfl
theorem mz_170 : Cond.selects (p_mi 170).1.cls (p_mi 170).1 (p_mi 170).1 ∈ p_tb := p_wi (p_t0 (List.mem_of_getElem? (i := 72) rfl)) rfl
theorem mt_171 : p_mthP 171 := ⟨by decide +kernel, p_wi (p_t1 (List.mem_of_getElem? (i := 10) rfl)) rfl, p_wi (p_t6 (List.mem_of_getElem? (i := 117) rfl)) rfl, by decide +kernel, by decide +kernel, by decide +kernel⟩
theorem mi_171 : Cond.instanceMethod (p_mi 171).1 ∈ p_tb := p_wi (p_t6 (List.mem_of_getElem? (i := 116) rfl)) rfl
theorem mz_171 : Cond.selects (p_mi 171).1.cls (p_mi 171).1 (p_mi 171).1 ∈ p_tb := p_wi (p_t0 (List.mem_of_getElem? (i := 71) rfl)) rfl
theorem mt_172 : p_mthP 172 := ⟨by decide +kernel, p_wi (p_t1 (List.mem_of_getElem? (i := 10) rfl)) rfl, p_wi (p_t6 (List.mem_of_getElem? (i := 161) rfl)) rfl, by decide +kernel, by decide +kernel, by decide +kernel⟩
theorem mi_172 : Cond.instanceMethod (p_mi 172).1 ∈ p_tb := p_wi (p_t6 (List.mem_of_getElem? (i := 160) rfl)) rfl
theorem mz_172 : Cond.selects (p_mi 172).1.cls (p_mi 172).1 (p_mi 172).1 ∈ p_tb := p_wi (p_t0 (List.mem_of_getElem? (i := 82) rfl)) rfl
theorem mt_173 : p_mthP 173 := ⟨by decide +kernel, p_wi (p_t1 (List.mem_of_getElem? (i := 10) rfl)) rfl, p_wi (p_t6 (List.mem_of_getElem? (i := 165) rfl)) rfl, by decide +kernel, by decide +kernel, by decide +kernel⟩
theorem mi_173 : Cond.instanceMethod (p_mi 173).1 ∈ p_tb := p_wi (p_t6 (List.mem_of_getElem? (i := 164) rfl)) rfl
theorem mz_173 : Cond.selects (p_mi 173).1.cls (p_mi 173).1 (p_mi 173).1 ∈ p_tb := p_wi (p_t0 (List.mem_of_getElem? (i := 83) rfl)) rfl
theorem mt_174 : p_mthP 174 := ⟨by decide +kernel, p_wi (p_t1 (List.mem_of_getElem? (i := 10) rfl)) rfl, p_wi (p_t6 (List.mem_of_getElem? (i := 169) rfl)) rfl, by decide +kernel, by decide +kernel, by decide +kernel⟩
theorem mi_174 : Cond.instanceMethod (p_mi 174).1 ∈ p_tb := p_wi (p_t6 (List.mem_of_getElem? (i := 168) rfl)) rfl
theorem mz_174 : Cond.selects (p_mi 174).1.cls (p_mi 174).1 (p_mi 174).1 ∈ p_tb := p_wi (p_t0 (List.mem_of_getElem? (i := 84) rfl)) rfl
theorem mt_175 : p_mthP 175 := ⟨by decide +kernel, p_wi (p_t1 (List.mem_of_getElem? (i := 10) rfl)) rfl, p_wi (p_t6 (List.mem_of_getElem? (i := 133) rfl)) rfl, by decide +kernel, by decide +kernel, by decide +kernel⟩
theorem mi_175 : Cond.instanceMethod (p_mi 175).1 ∈ p_tb := p_wi (p_t6 (List.mem_of_getElem? (i := 132) rfl)) rfl
theorem mz_175 : Cond.selects (p_mi 175).1.cls (p_mi 175).1 (p_mi 175).1 ∈ p_tb := p_wi (p_t0 (List.mem_of_getElem? (i := 75) rfl)) rfl
theorem mt_176 : p_mthP 176 := ⟨by decide +kernel, p_wi (p_t1 (List.mem_of_getElem? (i := 10) rfl)) rfl, p_wi (p_t6 (List.mem_of_getElem? (i := 137) rfl)) rfl, by decide +kernel, by decide +kernel, by decide +kernel⟩
theorem mi_176 : Cond.instanceMethod (p_mi 176).1 ∈ p_tb := p_wi (p_t6 (List.mem_of_getElem? (i := 136) rfl)) rfl
theorem mz_176 : Cond.selects (p_mi 176).1.cls (p_mi 176).1 (p_mi 176).1 ∈ p_tb := p_wi (p_t0 (List.mem_of_getElem? (i := 76) rfl)) rfl
theorem mt_177 : p_mthP 177 := ⟨by decide +kernel, p_wi (p_t1 (List.mem_of_getElem? (i := 10) rfl)) rfl, p_wi (p_t6 (List.mem_of_getElem? (i := 141) rfl)) rfl, by decide +kernel, by decide +kernel, by decide +kernel⟩
theorem mi_177 : Cond.instanceMethod (p_mi 177).1 ∈ p_tb := p_wi (p_t6 (List.mem_of_getElem? (i := 140) rfl)) rfl
theorem mz_177 : Cond.selects (p_mi 177).1.cls (p_mi 177).1 (p_mi 177).1 ∈ p_tb := p_wi (p_t0 (List.mem_of_getElem? (i := 77) rfl)) rfl
theorem mt_178 : p_mthP 178 := ⟨by decide +kernel, p_wi (p_t1 (List.mem_of_getElem? (i := 10) rfl)) rfl, p_wi (p_t6 (List.mem_of_getElem? (i := 98) rfl)) rfl, by decide +kernel, by decide +kernel, by decide +kernel⟩
theorem mi_178 : Cond.instanceMethod (p_mi 178).1 ∈ p_tb := p_wi (p_t6 (List.mem_of_getElem? (i := 97) rfl)) rfl
theorem mz_178 : Cond.selects (p_mi 178).1.cls (p_mi 178).1 (p_mi 178).1 ∈ p_tb := p_wi (p_t0 (List.mem_of_getElem? (i := 68) rfl)) rfl
theorem mt_179 : p_mthP 179 := ⟨by decide +kernel, p_wi (p_t1 (List.mem_of_getElem? (i := 10) rfl)) rfl, p_wi (p_t6 (List.mem_of_getElem? (i := 94) rfl)) rfl, by decide +kernel, by decide +kernel, by decide +kernel⟩
theorem mi_179 : Cond.instanceMethod (p_mi 179).1 ∈ p_tb := p_wi (p_t6 (List.mem_of_getElem? (i := 93) rfl)) rfl
theorem mz_179 : Cond.selects (p_mi 179).1.cls (p_mi 179).1 (p_mi 179).1 ∈ p_tb := p_wi (p_t0 (List.mem_of_getElem? (i := 67) rfl)) rfl
theorem mt_180 : p_mthP 180 := ⟨by decide +kernel, p_wi (p_t1 (List.mem_of_getElem? (i := 10) rfl)) rfl, p_wi (p_t6 (List.mem_of_getElem? (i := 177) rfl)) rfl, by decide +kernel, by decide +kernel, by decide +kernel⟩
theorem mi_180 : Cond.instanceMethod (p_mi 180).1 ∈ p_tb := p_wi (p_t6 (List.mem_of_getElem? (i := 176) rfl)) rfl
theorem mz_180 : Cond.selects (p_mi 180).1.cls (p_mi 180).1 (p_mi 180).1 ∈ p_tb := p_wi (p_t0 (List.mem_of_getElem? (i := 86) rfl)) rfl
theorem mt_181 : p_mthP 181 := ⟨by decide +kernel, p_wi (p_t1 (List.mem_of_getElem? (i := 10) rfl)) rfl, p_wi (p_t6 (List.mem_of_getElem? (i := 90) rfl)) rfl, by decide +kernel, by decide +kernel, by decide +kernel⟩
theorem mi_181 : Cond.instanceMethod (p_mi 181).1 ∈ p_tb := p_wi (p_t6 (List.mem_of_getElem? (i := 88) rfl)) rfl
theorem mz_181 : Cond.selects (p_mi 181).1.cls (p_mi 181).1 (p_mi 181).1 ∈ p_tb := p_wi (p_t6 (List.mem_of_getElem? (i := 89) rfl)) rfl
theorem mt_182 : p_mthP 182 := ⟨by decide +kernel, p_wi (p_t1 (List.mem_of_getElem? (i := 10) rfl)) rfl, p_wi (p_t6 (List.mem_of_getElem? (i := 181) rfl)) rfl, by decide +kernel, by decide +kernel, by decide +kernel⟩
theorem mi_182 : Cond.instanceMethod (p_mi 182).1 ∈ p_tb := p_wi (p_t6 (List.mem_of_getElem? (i := 179) rfl)) rfl
theorem mz_182 : Cond.selects (p_mi 182).1.cls (p_mi 182).1 (p_mi 182).1 ∈ p_tb := p_wi (p_t6 (List.mem_of_getElem? (i := 180) rfl)) rfl
theorem mt_183 : p_mthP 183 := ⟨by decide +kernel, p_wi (p_t1 (List.mem_of_getElem? (i := 10) rfl)) rfl, p_wi (p_t6 (List.mem_of_getElem? (i := 189) rfl)) rfl, by decide +kernel, by decide +kernel, by decide +kernel⟩
theorem mi_183 : Cond.instanceMethod (p_mi 183).1 ∈ p_tb := p_wi (p_t6 (List.mem_of_getElem? (i := 188) rfl)) rfl
theorem mz_183 : Cond.selects (p_mi 183).1.cls (p_mi 183).1 (p_mi 183).1 ∈ p_tb := p_wi (p_t0 (List.mem_of_getElem? (i := 87) rfl)) rfl
theorem mt_184 : p_mthP 184 := ⟨by decide +kernel, p_wi (p_t1 (List.mem_of_getElem? (i := 10) rfl)) rfl, p_wi (p_t6 (List.mem_of_getElem? (i := 185) rfl)) rfl, by decide +kernel, by decide +kernel, by decide +kernel⟩
theorem mi_184 : Cond.instanceMethod (p_mi 184).1 ∈ p_tb := p_wi (p_t6 (List.mem_of_getElem? (i := 183) rfl)) rfl
theorem mz_184 : Cond.selects (p_mi 184).1.cls (p_mi 184).1 (p_mi 184).1 ∈ p_tb := p_wi (p_t6 (List.mem_of_getElem? (i := 184) rfl)) rfl
theorem mt_185 : p_mthP 185 := ⟨by decide +kernel, p_wi (p_t1 (List.mem_of_getElem? (i := 10) rfl)) rfl, p_wi (p_t5 (List.mem_of_getElem? (i := 230) rfl)) rfl, by decide +kernel, by decide +kernel, by decide +kernel⟩
theorem mi_185 : Cond.instanceMethod (p_mi 185).1 ∈ p_tb := p_wi (p_t5 (List.mem_of_getElem? (i := 229) rfl)) rfl
theorem mz_185 : Cond.selects (p_mi 185).1.cls (p_mi 185).1 (p_mi 185).1 ∈ p_tb := p_wi (p_t0 (List.mem_of_getElem? (i := 51) rfl)) rfl
theorem mt_186 : p_mthP 186 := ⟨by decide +kernel, p_wi (p_t1 (List.mem_of_getElem? (i := 10) rfl)) rfl, p_wi (p_t6 (List.mem_of_getElem? (i := 9) rfl)) rfl, by decide +kernel, by decide +kernel, by decide +kernel⟩
theorem mi_186 : Cond.instanceMethod (p_mi 186).1 ∈ p_tb := p_wi (p_t6 (List.mem_of_getElem? (i := 8) rfl)) rfl
theorem mz_186 : Cond.selects (p_mi 186).1.cls (p_mi 186).1 (p_mi 186).1 ∈ p_tb := p_wi (p_t0 (List.mem_of_getElem? (i := 55) rfl)) rfl
theorem mt_187 : p_mthP 187 := ⟨by decide +kernel, p_wi (p_t1 (List.mem_of_getElem? (i := 10) rfl)) rfl, p_wi (p_t6 (List.mem_of_getElem? (i := 17) rfl)) rfl, by decide +kernel, by decide +kernel, by decide +kernel⟩
theorem mi_187 : Cond.instanceMethod (p_mi 187).1 ∈ p_tb := p_wi (p_t6 (List.mem_of_getElem? (i := 16) rfl)) rfl
theorem mz_187 : Cond.selects (p_mi 187).1.cls (p_mi 187).1 (p_mi 187).1 ∈ p_tb := p_wi (p_t0 (List.mem_of_getElem? (i := 57) rfl)) rfl
theorem mt_188 : p_mthP 188 := ⟨by decide +kernel, p_wi (p_t1 (List.mem_of_getElem? (i := 10) rfl)) rfl, p_wi (p_t5 (List.mem_of_getElem? (i := 234) rfl)) rfl, by decide +kernel, by decide +kernel, by decide +kernel⟩
theorem mi_188 : Cond.instanceMethod (p_mi 188).1 ∈ p_tb := p_wi (p_t5 (List.mem_of_getElem? (i := 233) rfl)) rfl
theorem mz_188 : Cond.selects (p_mi 188).1.cls (p_mi 188).1 (p_mi 188).1 ∈ p_tb := p_wi (p_t0 (List.mem_of_getElem? (i := 52) rfl)) rfl
theorem mt_189 : p_mthP 189 := ⟨by decide +kernel, p_wi (p_t1 (List.mem_of_getElem? (i := 10) rfl)) rfl, p_wi (p_t5 (List.mem_of_getElem? (i := 238) rfl)) rfl, by decide +kernel, by decide +kernel, by decide +kernel⟩
theorem mi_189 : Cond.instanceMethod (p_mi 189).1 ∈ p_tb := p_wi (p_t5 (List.mem_of_getElem? (i := 237) rfl)) rfl
theorem mz_189 : Cond.selects (p_mi 189).1.cls (p_mi 189).1 (p_mi 189).1 ∈ p_tb := p_wi (p_t0 (List.mem_of_getElem? (i := 53) rfl)) rfl
theorem mt_190 : p_mthP 190 := ⟨by decide +kernel, p_wi (p_t1 (List.mem_of_getElem? (i := 10) rfl)) rfl, p_wi (p_t6 (List.mem_of_getElem? (i := 2) rfl)) rfl, by decide +kernel, by decide +kernel, by decide +kernel⟩
theorem mi_190 : Cond.instanceMethod (p_mi 190).1 ∈ p_tb := p_wi (p_t6 (List.mem_of_getElem? (i := 1) rfl)) rfl
theorem mz_190 : Cond.selects (p_mi 190).1.cls (p_mi 190).1 (p_mi 190).1 ∈ p_tb := p_wi (p_t0 (List.mem_of_getElem? (i := 54) rfl)) rfl
theorem mt_191 : p_mthP 191 := ⟨by decide +kernel, p_wi (p_t1 (List.mem_of_getElem? (i := 10) rfl)) rfl, p_wi (p_t6 (List.mem_of_getElem? (i := 13) rfl)) rfl, by decide +kernel, by decide +kernel, by decide +kernel⟩
theorem mi_191 : Cond.instanceMethod (p_mi 191).1 ∈ p_tb := p_wi (p_t6 (List.mem_of_getElem? (i := 12) rfl)) rfl
theorem mz_191 : Cond.selects (p_mi 191).1.cls (p_mi 191).1 (p_mi 191).1 ∈ p_tb := p_wi (p_t0 (List.mem_of_getElem? (i := 56) rfl)) rfl
theorem mt_192 : p_mthP 192 := ⟨by decide +kernel, p_wi (p_t1 (List.mem_of_getElem? (i := 10) rfl)) rfl, p_wi (p_t6 (List.mem_of_getElem? (i := 23) rfl)) rfl, by decide +kernel, by decide +kernel, by decide +kernel⟩
theorem mi_192 : Cond.instanceMethod (p_mi 192).1 ∈ p_tb := p_wi (p_t6 (List.mem_of_getElem? (i := 22) rfl)) rfl
theorem mz_192 : Cond.selects (p_mi 192).1.cls (p_mi 192).1 (p_mi 192).1 ∈ p_tb := p_wi (p_t0 (List.mem_of_getElem? (i := 58) rfl)) rfl
theorem mt_193 : p_mthP 193 := ⟨by decide +kernel, p_wi (p_t1 (List.mem_of_getElem? (i := 10) rfl)) rfl, p_wi (p_t6 (List.mem_of_getElem? (i := 27) rfl)) rfl, by decide +kernel, by decide +kernel, by decide +kernel⟩
theorem mi_193 : Cond.instanceMethod (p_mi 193).1 ∈ p_tb := p_wi (p_t6 (List.mem_of_getElem? (i := 26) rfl)) rfl
theorem mz_193 : Cond.selects (p_mi 193).1.cls (p_mi 193).1 (p_mi 193).1 ∈ p_tb := p_wi (p_t0 (List.mem_of_getElem? (i := 59) rfl)) rfl
theorem mt_194 : p_mthP 194 := ⟨by decide +kernel, p_wi (p_t1 (List.mem_of_getElem? (i := 10) rfl)) rfl, p_wi (p_t6 (List.mem_of_getElem? (i := 31) rfl)) rfl, by decide +kernel, by decide +kernel, by decide +kernel⟩
theorem mi_194 : Cond.instanceMethod (p_mi 194).1 ∈ p_tb := p_wi (p_t6 (List.mem_of_getElem? (i := 30) rfl)) rfl
theorem mz_194 : Cond.selects (p_mi 194).1.cls (p_mi 194).1 (p_mi 194).1 ∈ p_tb := p_wi (p_t0 (List.mem_of_getElem? (i := 60) rfl)) rfl
theorem mt_195 : p_mthP 195 := ⟨by decide +kernel, p_wi (p_t1 (List.mem_of_getElem? (i := 10) rfl)) rfl, p_wi (p_t6 (List.mem_of_getElem? (i := 35) rfl)) rfl, by decide +kernel, by decide +kernel, by decide +kernel⟩
theorem mi_195 : Cond.instanceMethod (p_mi 195).1 ∈ p_tb := p_wi (p_t6 (List.mem_of_getElem? (i := 34) rfl)) rfl
theorem mz_195 : Cond.selects (p_mi 195).1.cls (p_mi 195).1 (p_mi 195).1 ∈ p_tb := p_wi (p_t0 (List.mem_of_getElem? (i := 61) rfl)) rfl
theorem mt_196 : p_mthP 196 := ⟨by decide +kernel, p_wi (p_t1 (List.mem_of_getElem? (i := 10) rfl)) rfl, p_wi (p_t5 (List.mem_of_getElem? (i := 211) rfl)) rfl, by decide +kernel, by decide +kernel, by decide +kernel⟩
theorem mi_196 : Cond.instanceMethod (p_mi 196).1 ∈ p_tb := p_wi (p_t5 (List.mem_of_getElem? (i := 210) rfl)) rfl
theorem mz_196 : Cond.selects (p_mi 196).1.cls (p_mi 196).1 (p_mi 196).1 ∈ p_tb := p_wi (p_t0 (List.mem_of_getElem? (i := 47) rfl)) rfl
theorem mt_197 : p_mthP 197 := ⟨by decide +kernel, p_wi (p_t1 (List.mem_of_getElem? (i := 10) rfl)) rfl, p_wi (p_t5 (List.mem_of_getElem? (i := 226) rfl)) rfl, by decide +kernel, by decide +kernel, by decide +kernel⟩
theorem mi_197 : Cond.instanceMethod (p_mi 197).1 ∈ p_tb := p_wi (p_t5 (List.mem_of_getElem? (i := 225) rfl)) rfl
theorem mz_197 : Cond.selects (p_mi 197).1.cls (p_mi 197).1 (p_mi 197).1 ∈ p_tb := p_wi (p_t0 (List.mem_of_getElem? (i := 50) rfl)) rfl
theorem mt_198 : p_mthP 198 := ⟨by decide +kernel, p_wi (p_t1 (List.mem_of_getElem? (i := 10) rfl)) rfl, p_wi (p_t5 (List.mem_of_getElem? (i := 222) rfl)) rfl, by decide +kernel, by decide +kernel, by decide +kernel⟩
theorem mi_198 : Cond.instanceMethod (p_mi 198).1 ∈ p_tb := p_wi (p_t5 (List.mem_of_getElem? (i := 221) rfl)) rfl
theorem mz_198 : Cond.selects (p_mi 198).1.cls (p_mi 198).1 (p_mi 198).1 ∈ p_tb := p_wi (p_t0 (List.mem_of_getElem? (i := 49) rfl)) rfl
theorem mt_199 : p_mthP 199 := ⟨by decide +kernel, p_wi (p_t1 (List.mem_of_getElem? (i := 10) rfl)) rfl, p_wi (p_t5 (List.mem_of_getElem? (i := 218) rfl)) rfl, by decide +kernel, by decide +kernel, by decide +kernel⟩
theorem mi_199 : Cond.instanceMethod (p_mi 199).1 ∈ p_tb := p_wi (p_t5 (List.mem_of_getElem? (i := 217) rfl)) rfl
theorem mz_199 : Cond.selects (p_mi 199).1.cls (p_mi 199).1 (p_mi 199).1 ∈ p_tb := p_wi (p_t0 (List.mem_of_getElem? (i := 48) rfl)) rfl
theorem mt_200 : p_mthP 200 := ⟨by decide +kernel, p_wi (p_t1 (List.mem_of_getElem? (i := 10) rfl)) rfl, p_wi (p_t6 (List.mem_of_getElem? (i := 40) rfl)) rfl, by decide +kernel, by decide +kernel, by decide +kernel⟩
theorem mi_200 : Cond.instanceMethod (p_mi 200).1 ∈ p_tb := p_wi (p_t6 (List.mem_of_getElem? (i := 39) rfl)) rfl
theorem mz_200 : Cond.selects (p_mi 200).1.cls (p_mi 200).1 (p_mi 200).1 ∈ p_tb := p_wi (p_t0 (List.mem_of_getElem? (i := 62) rfl)) rfl
theorem mt_201 : p_mthP 201 := ⟨by decide +kernel, p_wi (p_t1 (List.mem_of_getElem? (i := 10) rfl)) rfl, p_wi (p_t6 (List.mem_of_getElem? (i := 44) rfl)) rfl, by decide +kernel, by decide +kernel, by decide +kernel⟩
theorem mi_201 : Cond.instanceMethod (p_mi 201).1 ∈ p_tb := p_wi (p_t6 (List.mem_of_getElem? (i := 43) rfl)) rfl
theorem mz_201 : Cond.selects (p_mi 201).1.cls (p_mi 201).1 (p_mi 201).1 ∈ p_tb := p_wi (p_t0 (List.mem_of_getElem? (i := 63) rfl)) rfl
theorem mt_202 : p_mthP 202 := ⟨by decide +kernel, p_wi (p_t1 (List.mem_of_getElem? (i := 10) rfl)) rfl, p_wi (p_t6 (List.mem_of_getElem? (i := 225) rfl)) rfl, by decide +kernel, by decide +kernel, by decide +kernel⟩
theorem mi_202 : Cond.instanceMethod (p_mi 202).1 ∈ p_tb := p_wi (p_t6 (List.mem_of_getElem? (i := 224) rfl)) rfl
theorem mz_202 : Cond.selects (p_mi 202).1.cls (p_mi 202).1 (p_mi 202).1 ∈ p_tb := p_wi (p_t0 (List.mem_of_getElem? (i := 94) rfl)) rfl
theorem mt_203 : p_mthP 203 := ⟨by decide +kernel, p_wi (p_t1 (List.mem_of_getElem? (i := 10) rfl)) rfl, p_wi (p_t6 (List.mem_of_getElem? (i := 209) rfl)) rfl, by decide +kernel, by decide +kernel, by decide +kernel⟩
theorem mi_203 : Cond.instanceMethod (p_mi 203).1 ∈ p_tb := p_wi (p_t6 (List.mem_of_getElem? (i := 208) rfl)) rfl
theorem mz_203 : Cond.selects (p_mi 203).1.cls (p_mi 203).1 (p_mi 203).1 ∈ p_tb := p_wi (p_t0 (List.mem_of_getElem? (i := 90) rfl)) rfl
theorem mt_204 : p_mthP 204 := ⟨by decide +kernel, p_wi (p_t1 (List.mem_of_getElem? (i := 10) rfl)) rfl, p_wi (p_t6 (List.mem_of_getElem? (i := 205) rfl)) rfl, by decide +kernel, by decide +kernel, by decide +kernel⟩
theorem mi_204 : Cond.instanceMethod (p_mi 204).1 ∈ p_tb := p_wi (p_t6 (List.mem_of_getElem? (i := 204) rfl)) rfl
theorem mz_204 : Cond.selects (p_mi 204).1.cls (p_mi 204).1 (p_mi 204).1 ∈ p_tb := p_wi (p_t0 (List.mem_of_getElem? (i := 89) rfl)) rfl
theorem mt_205 : p_mthP 205 := ⟨by decide +kernel, p_wi (p_t1 (List.mem_of_getElem? (i := 10) rfl)) rfl, p_wi (p_t6 (List.mem_of_getElem? (i := 232) rfl)) rfl, by decide +kernel, by decide +kernel, by decide +kernel⟩
theorem mi_205 : Cond.instanceMethod (p_mi 205).1 ∈ p_tb := p_wi (p_t6 (List.mem_of_getElem? (i := 231) rfl)) rfl
theorem mz_205 : Cond.selects (p_mi 205).1.cls (p_mi 205).1 (p_mi 205).1 ∈ p_tb := p_wi (p_t0 (List.mem_of_getElem? (i := 95) rfl)) rfl
theorem mt_206 : p_mthP 206 := ⟨by decide +kernel, p_wi (p_t1 (List.mem_of_getElem? (i := 10) rfl)) rfl, p_wi (p_t6 (List.mem_of_getElem? (i := 221) rfl)) rfl, by decide +kernel, by decide +kernel, by decide +kernel⟩
theorem mi_206 : Cond.instanceMethod (p_mi 206).1 ∈ p_tb := p_wi (p_t6 (List.mem_of_getElem? (i := 220) rfl)) rfl
theorem mz_206 : Cond.selects (p_mi 206).1.cls (p_mi 206).1 (p_mi 206).1 ∈ p_tb := p_wi (p_t0 (List.mem_of_getElem? (i := 93) rfl)) rfl
theorem mt_207 : p_mthP 207 := ⟨by decide +kernel, p_wi (p_t1 (List.mem_of_getElem? (i := 10) rfl)) rfl, p_wi (p_t7 (List.mem_of_getElem? (i := 19) rfl)) rfl, by decide +kernel, by decide +kernel, by decide +kernel⟩
theorem mi_207 : Cond.instanceMethod (p_mi 207).1 ∈ p_tb := p_wi (p_t7 (List.mem_of_getElem? (i := 18) rfl)) rfl
theorem mz_207 : Cond.selects (p_mi 207).1.cls (p_mi 207).1 (p_mi 207).1 ∈ p_tb := p_wi (p_t0 (List.mem_of_getElem? (i := 99) rfl)) rfl
theorem mt_208 : p_mthP 208 := ⟨by decide +kernel, p_wi (p_t1 (List.mem_of_getElem? (i := 10) rfl)) rfl, p_wi (p_t7 (List.mem_of_getElem? (i := 34) rfl)) rfl, by decide +kernel, by decide +kernel, by decide +kernel⟩
theorem mi_208 : Cond.instanceMethod (p_mi 208).1 ∈ p_tb := p_wi (p_t7 (List.mem_of_getElem? (i := 33) rfl)) rfl
theorem mz_208 : Cond.selects (p_mi 208).1.cls (p_mi 208).1 (p_mi 208).1 ∈ p_tb := p_wi (p_t0 (List.mem_of_getElem? (i := 101) rfl)) rfl
theorem mt_209 : p_mthP 209 := ⟨by decide +kernel, p_wi (p_t1 (List.mem_of_getElem? (i := 10) rfl)) rfl, p_wi (p_t6 (List.mem_of_getElem? (i := 217) rfl)) rfl, by decide +kernel, by decide +kernel, by decide +kernel⟩
theorem mi_209 : Cond.instanceMethod (p_mi 209).1 ∈ p_tb := p_wi (p_t6 (List.mem_of_getElem? (i := 216) rfl)) rfl
theorem mz_209 : Cond.selects (p_mi 209).1.cls (p_mi 209).1 (p_mi 209).1 ∈ p_tb := p_wi (p_t0 (List.mem_of_getElem? (i := 92) rfl)) rfl
theorem mt_210 : p_mthP 210 := ⟨by decide +kernel, p_wi (p_t1 (List.mem_of_getElem? (i := 10) rfl)) rfl, p_wi (p_t6 (List.mem_of_getElem? (i := 213) rfl)) rfl, by decide +kernel, by decide +kernel, by decide +kernel⟩
theorem mi_210 : Cond.instanceMethod (p_mi 210).1 ∈ p_tb := p_wi (p_t6 (List.mem_of_getElem? (i := 212) rfl)) rfl
theorem mz_210 : Cond.selects (p_mi 210).1.cls (p_mi 210).1 (p_mi 210).1 ∈ p_tb := p_wi (p_t0 (List.mem_of_getElem? (i := 91) rfl)) rfl
theorem mt_211 : p_mthP 211 := ⟨by decide +kernel, p_wi (p_t1 (List.mem_of_getElem? (i := 10) rfl)) rfl, p_wi (p_t6 (List.mem_of_getElem? (i := 193) rfl)) rfl, by decide +kernel, by decide +kernel, by decide +kernel⟩
theorem mi_211 : Cond.instanceMethod (p_mi 211).1 ∈ p_tb := p_wi (p_t6 (List.mem_of_getElem? (i := 191) rfl)) rfl
theorem mz_211 : Cond.selects (p_mi 211).1.cls (p_mi 211).1 (p_mi 211).1 ∈ p_tb := p_wi (p_t6 (List.mem_of_getElem? (i := 192) rfl)) rfl
theorem mt_212 : p_mthP 212 := ⟨by decide +kernel, p_wi (p_t1 (List.mem_of_getElem? (i := 10) rfl)) rfl, p_wi (p_t6 (List.mem_of_getElem? (i := 239) rfl)) rfl, by decide +kernel, by decide +kernel, by decide +kernel⟩
theorem mi_212 : Cond.instanceMethod (p_mi 212).1 ∈ p_tb := p_wi (p_t6 (List.mem_of_getElem? (i := 238) rfl)) rfl
theorem mz_212 : Cond.selects (p_mi 212).1.cls (p_mi 212).1 (p_mi 212).1 ∈ p_tb := p_wi (p_t0 (List.mem_of_getElem? (i := 96) rfl)) rfl
theorem mt_213 : p_mthP 213 := ⟨by decide +kernel, p_wi (p_t1 (List.mem_of_getElem? (i := 10) rfl)) rfl, p_wi (p_t6 (List.mem_of_getElem? (i := 201) rfl)) rfl, by decide +kernel, by decide +kernel, by decide +kernel⟩
theorem mi_213 : Cond.instanceMethod (p_mi 213).1 ∈ p_tb := p_wi (p_t6 (List.mem_of_getElem? (i := 200) rfl)) rfl
theorem mz_213 : Cond.selects (p_mi 213).1.cls (p_mi 213).1 (p_mi 213).1 ∈ p_tb := p_wi (p_t0 (List.mem_of_getElem? (i := 88) rfl)) rfl
theorem mt_214 : p_mthP 214 := ⟨by decide +kernel, p_wi (p_t1 (List.mem_of_getElem? (i := 10) rfl)) rfl, p_wi (p_t7 (List.mem_of_getElem? (i := 7) rfl)) rfl, by decide +kernel, by decide +kernel, by decide +kernel⟩
theorem mi_214 : Cond.instanceMethod (p_mi 214).1 ∈ p_tb := p_wi (p_t7 (List.mem_of_getElem? (i := 6) rfl)) rfl
theorem mz_214 : Cond.selects (p_mi 214).1.cls (p_mi 214).1 (p_mi 214).1 ∈ p_tb := p_wi (p_t0 (List.mem_of_getElem? (i := 97) rfl)) rfl
theorem mt_215 : p_mthP 215 := ⟨by decide +kernel, p_wi (p_t1 (List.mem_of_getElem? (i := 10) rfl)) rfl, p_wi (p_t7 (List.mem_of_getElem? (i := 15) rfl)) rfl, by decide +kernel, by decide +kernel, by decide +kernel⟩
theorem mi_215 : Cond.instanceMethod (p_mi 215).1 ∈ p_tb := p_wi (p_t7 (List.mem_of_getElem? (i := 14) rfl)) rfl
theorem mz_215 : Cond.selects (p_mi 215).1.cls (p_mi 215).1 (p_mi 215).1 ∈ p_tb := p_wi (p_t0 (List.mem_of_getElem? (i := 98) rfl)) rfl
theorem mt_216 : p_mthP 216 := ⟨by decide +kernel, p_wi (p_t1 (List.mem_of_getElem? (i := 10) rfl)) rfl, p_wi (p_t7 (List.mem_of_getElem? (i := 30) rfl)) rfl, by decide +kernel, by decide +kernel, by decide +kernel⟩
theorem mi_216 : Cond.instanceMethod (p_mi 216).1 ∈ p_tb := p_wi (p_t7 (List.mem_of_getElem? (i := 29) rfl)) rfl
theorem mz_216 : Cond.selects (p_mi 216).1.cls (p_mi 216).1 (p_mi 216).1 ∈ p_tb := p_wi (p_t0 (List.mem_of_getElem? (i := 100) rfl)) rfl
theorem mt_217 : p_mthP 217 := ⟨by decide +kernel, p_wi (p_t1 (List.mem_of_getElem? (i := 10) rfl)) rfl, p_wi (p_t6 (List.mem_of_getElem? (i := 197) rfl)) rfl, by decide +kernel, by decide +kernel, by decide +kernel⟩
theorem mi_217 : Cond.instanceMethod (p_mi 217).1 ∈ p_tb := p_wi (p_t6 (List.mem_of_getElem? (i := 195) rfl)) rfl
theorem mz_217 : Cond.selects (p_mi 217).1.cls (p_mi 217).1 (p_mi 217).1 ∈ p_tb := p_wi (p_t6 (List.mem_of_getElem? (i := 196) rfl)) rfl
theorem mt_218 : p_mthP 218 := ⟨by decide +kernel, p_wi (p_t1 (List.mem_of_getElem? (i := 10) rfl)) rfl, p_wi (p_t7 (List.mem_of_getElem? (i := 3) rfl)) rfl, by decide +kernel, by decide +kernel, by decide +kernel⟩
theorem mi_218 : Cond.instanceMethod (p_mi 218).1 ∈ p_tb := p_wi (p_t7 (List.mem_of_getElem? (i := 1) rfl)) rfl
theorem mz_218 : Cond.selects (p_mi 218).1.cls (p_mi 218).1 (p_mi 218).1 ∈ p_tb := p_wi (p_t7 (List.mem_of_getElem? (i := 2) rfl)) rfl
theorem mt_219 : p_mthP 219 := ⟨by decide +kernel, p_wi (p_t1 (List.mem_of_getElem? (i := 10) rfl)) rfl, p_wi (p_t7 (List.mem_of_getElem? (i := 11) rfl)) rfl, by decide +kernel, by decide +kernel, by decide +kernel⟩
theorem mi_219 : Cond.instanceMethod (p_mi 219).1 ∈ p_tb := p_wi (p_t7 (List.mem_of_getElem? (i := 9) rfl)) rfl
theorem mz_219 : Cond.selects (p_mi 219).1.cls (p_mi 219).1 (p_mi 219).1 ∈ p_tb := p_wi (p_t7 (List.mem_of_getElem? (i := 10) rfl)) rfl
theorem mt_220 : p_mthP 220 := ⟨by decide +kernel, p_wi (p_t1 (List.mem_of_getElem? (i := 10) rfl)) rfl, p_wi (p_t7 (List.mem_of_getElem? (i := 26) rfl)) rfl, by decide +kernel, by decide +kernel, by decide +kernel⟩
theorem mi_220 : Cond.instanceMethod (p_mi 220).1 ∈ p_tb := p_wi (p_t7 (List.mem_of_getElem? (i := 24) rfl)) rfl
theorem mz_220 : Cond.selects (p_mi 220).1.cls (p_mi 220).1 (p_mi 220).1 ∈ p_tb := p_wi (p_t7 (List.mem_of_getElem? (i := 25) rfl)) rfl
theorem mt_221 : p_mthP 221 := ⟨by decide +kernel, p_wi (p_t1 (List.mem_of_getElem? (i := 10) rfl)) rfl, p_wi (p_t7 (List.mem_of_getElem? (i := 45) rfl)) rfl, by decide +kernel, by decide +kernel, by decide +kernel⟩
theorem ms_221 : Cond.static (p_mi 221).1 ∈ p_tb := p_wi (p_t7 (List.mem_of_getElem? (i := 44) rfl)) rfl
theorem mt_222 : p_mthP 222 := ⟨by decide +kernel, p_wi (p_t1 (List.mem_of_getElem? (i := 10) rfl)) rfl, p_wi (p_t7 (List.mem_of_getElem? (i := 38) rfl)) rfl, by decide +kernel, by decide +kernel, by decide +kernel⟩
theorem mi_222 : Cond.instanceMethod (p_mi 222).1 ∈ p_tb := p_wi (p_t7 (List.mem_of_getElem? (i := 36) rfl)) rfl
theorem mz_222 : Cond.selects (p_mi 222).1.cls (p_mi 222).1 (p_mi 222).1 ∈ p_tb := p_wi (p_t7 (List.mem_of_getElem? (i := 37) rfl)) rfl
theorem mt_223 : p_mthP 223 := ⟨by decide +kernel, p_wi (p_t1 (List.mem_of_getElem? (i := 10) rfl)) rfl, p_wi (p_t7 (List.mem_of_getElem? (i := 49) rfl)) rfl, by decide +kernel, by decide +kernel, by decide +kernel⟩
theorem mi_223 : Cond.instanceMethod (p_mi 223).1 ∈ p_tb := p_wi (p_t7 (List.mem_of_getElem? (i := 47) rfl)) rfl
theorem mz_223 : Cond.selects (p_mi 223).1.cls (p_mi 223).1 (p_mi 223).1 ∈ p_tb := p_wi (p_t7 (List.mem_of_getElem? (i := 48) rfl)) rfl
theorem mt_224 : p_mthP 224 := ⟨by decide +kernel, p_wi (p_t1 (List.mem_of_getElem? (i := 10) rfl)) rfl, p_wi (p_t7 (List.mem_of_getElem? (i := 64) rfl)) rfl, by decide +kernel, by decide +kernel, by decide +kernel⟩
theorem ms_224 : Cond.static (p_mi 224).1 ∈ p_tb := p_wi (p_t7 (List.mem_of_getElem? (i := 63) rfl)) rfl
theorem mt_225 : p_mthP 225 := ⟨by decide +kernel, p_wi (p_t1 (List.mem_of_getElem? (i := 10) rfl)) rfl, p_wi (p_t7 (List.mem_of_getElem? (i := 72) rfl)) rfl, by decide +kernel, by decide +kernel, by decide +kernel⟩
theorem mi_225 : Cond.instanceMethod (p_mi 225).1 ∈ p_tb := p_wi (p_t7 (List.mem_of_getElem? (i := 71) rfl)) rfl
theorem mz_225 : Cond.selects (p_mi 225).1.cls (p_mi 225).1 (p_mi 225).1 ∈ p_tb := p_wi (p_t0 (List.mem_of_getElem? (i := 106) rfl)) rfl
theorem mt_226 : p_mthP 226 := ⟨by decide +kernel, p_wi (p_t1 (List.mem_of_getElem? (i := 10) rfl)) rfl, p_wi (p_t7 (List.mem_of_getElem? (i := 76) rfl)) rfl, by decide +kernel, by decide +kernel, by decide +kernel⟩
theorem mi_226 : Cond.instanceMethod (p_mi 226).1 ∈ p_tb := p_wi (p_t7 (List.mem_of_getElem? (i := 75) rfl)) rfl
theorem mz_226 : Cond.selects (p_mi 226).1.cls (p_mi 226).1 (p_mi 226).1 ∈ p_tb := p_wi (p_t0 (List.mem_of_getElem? (i := 107) rfl)) rfl
theorem mt_227 : p_mthP 227 := ⟨by decide +kernel, p_wi (p_t1 (List.mem_of_getElem? (i := 10) rfl)) rfl, p_wi (p_t7 (List.mem_of_getElem? (i := 80) rfl)) rfl, by decide +kernel, by decide +kernel, by decide +kernel⟩
theorem mi_227 : Cond.instanceMethod (p_mi 227).1 ∈ p_tb := p_wi (p_t7 (List.mem_of_getElem? (i := 79) rfl)) rfl
theorem mz_227 : Cond.selects (p_mi 227).1.cls (p_mi 227).1 (p_mi 227).1 ∈ p_tb := p_wi (p_t0 (List.mem_of_getElem? (i := 108) rfl)) rfl
theorem mt_228 : p_mthP 228 := ⟨by decide +kernel, p_wi (p_t1 (List.mem_of_getElem? (i := 10) rfl)) rfl, p_wi (p_t7 (List.mem_of_getElem? (i := 68) rfl)) rfl, by decide +kernel, by decide +kernel, by decide +kernel⟩
theorem mi_228 : Cond.instanceMethod (p_mi 228).1 ∈ p_tb := p_wi (p_t7 (List.mem_of_getElem? (i := 67) rfl)) rfl
theorem mz_228 : Cond.selects (p_mi 228).1.cls (p_mi 228).1 (p_mi 228).1 ∈ p_tb := p_wi (p_t0 (List.mem_of_getElem? (i := 105) rfl)) rfl
theorem mt_229 : p_mthP 229 := ⟨by decide +kernel, p_wi (p_t1 (List.mem_of_getElem? (i := 10) rfl)) rfl, p_wi (p_t7 (List.mem_of_getElem? (i := 61) rfl)) rfl, by decide +kernel, by decide +kernel, by decide +kernel⟩
theorem mi_229 : Cond.instanceMethod (p_mi 229).1 ∈ p_tb := p_wi (p_t7 (List.mem_of_getElem? (i := 60) rfl)) rfl
theorem mz_229 : Cond.selects (p_mi 229).1.cls (p_mi 229).1 (p_mi 229).1 ∈ p_tb := p_wi (p_t0 (List.mem_of_getElem? (i := 104) rfl)) rfl
theorem mt_230 : p_mthP 230 := ⟨by decide +kernel, p_wi (p_t1 (List.mem_of_getElem? (i := 10) rfl)) rfl, p_wi (p_t7 (List.mem_of_getElem? (i := 57) rfl)) rfl, by decide +kernel, by decide +kernel, by decide +kernel⟩
theorem mi_230 : Cond.instanceMethod (p_mi 230).1 ∈ p_tb := p_wi (p_t7 (List.mem_of_getElem? (i := 56) rfl)) rfl
theorem mz_230 : Cond.selects (p_mi 230).1.cls (p_mi 230).1 (p_mi 230).1 ∈ p_tb := p_wi (p_t0 (List.mem_of_getElem? (i := 103) rfl)) rfl
theorem mt_231 : p_mthP 231 := ⟨by decide +kernel, p_wi (p_t1 (List.mem_of_getElem? (i := 10) rfl)) rfl, p_wi (p_t7 (List.mem_of_getElem? (i := 53) rfl)) rfl, by decide +kernel, by decide +kernel, by decide +kernel⟩
theorem mi_231 : Cond.instanceMethod (p_mi 231).1 ∈ p_tb := p_wi (p_t7 (List.mem_of_getElem? (i := 51) rfl)) rfl
theorem mz_231 : Cond.selects (p_mi 231).1.cls (p_mi 231).1 (p_mi 231).1 ∈ p_tb := p_wi (p_t7 (List.mem_of_getElem? (i := 52) rfl)) rfl
theorem mt_232 : p_mthP 232 := ⟨by decide +kernel, p_wi (p_t1 (List.mem_of_getElem? (i := 10) rfl)) rfl, p_wi (p_t7 (List.mem_of_getElem? (i := 84) rfl)) rfl, by decide +kernel, by decide +kernel, by decide +kernel⟩
theorem mi_232 : Cond.instanceMethod (p_mi 232).1 ∈ p_tb := p_wi (p_t7 (List.mem_of_getElem? (i := 82) rfl)) rfl
theorem mz_232 : Cond.selects (p_mi 232).1.cls (p_mi 232).1 (p_mi 232).1 ∈ p_tb := p_wi (p_t7 (List.mem_of_getElem? (i := 83) rfl)) rfl
theorem mt_233 : p_mthP 233 := ⟨by decide +kernel, p_wi (p_t1 (List.mem_of_getElem? (i := 10) rfl)) rfl, p_wi (p_t7 (List.mem_of_getElem? (i := 88) rfl)) rfl, by decide +kernel, by decide +kernel, by decide +kernel⟩
theorem mi_233 : Cond.instanceMethod (p_mi 233).1 ∈ p_tb := p_wi (p_t7 (List.mem_of_getElem? (i := 86) rfl)) rfl
theorem mz_233 : Cond.selects (p_mi 233).1.cls (p_mi 233).1 (p_mi 233).1 ∈ p_tb := p_wi (p_t7 (List.mem_of_getElem? (i := 87) rfl)) rfl
theorem mt_234 : p_mthP 234 := ⟨by decide +kernel, p_wi (p_t1 (List.mem_of_getElem? (i := 10) rfl)) rfl, p_wi (p_t7 (List.mem_of_getElem? (i := 104) rfl)) rfl, by decide +kernel, by decide +kernel, by decide +kernel⟩
theorem mi_234 : Cond.instanceMethod (p_mi 234).1 ∈ p_tb := p_wi (p_t7 (List.mem_of_getElem? (i := 103) rfl)) rfl
theorem mz_234 : Cond.selects (p_mi 234).1.cls (p_mi 234).1 (p_mi 234).1 ∈ p_tb := p_wi (p_t0 (List.mem_of_getElem? (i := 111) rfl)) rfl
theorem mt_235 : p_mthP 235 := ⟨by decide +kernel, p_wi (p_t1 (List.mem_of_getElem? (i := 10) rfl)) rfl, p_wi (p_t7 (List.mem_of_getElem? (i := 96) rfl)) rfl, by decide +kernel, by decide +kernel, by decide +kernel⟩
theorem mi_235 : Cond.instanceMethod (p_mi 235).1 ∈ p_tb := p_wi (p_t7 (List.mem_of_getElem? (i := 95) rfl)) rfl
theorem mz_235 : Cond.selects (p_mi 235).1.cls (p_mi 235).1 (p_mi 235).1 ∈ p_tb := p_wi (p_t0 (List.mem_of_getElem? (i := 109) rfl)) rfl
theorem mt_236 : p_mthP 236 := ⟨by decide +kernel, p_wi (p_t1 (List.mem_of_getElem? (i := 10) rfl)) rfl, p_wi (p_t7 (List.mem_of_getElem? (i := 100) rfl)) rfl, by decide +kernel, by decide +kernel, by decide +kernel⟩
theorem mi_236 : Cond.instanceMethod (p_mi 236).1 ∈ p_tb := p_wi (p_t7 (List.mem_of_getElem? (i := 99) rfl)) rfl
theorem mz_236 : Cond.selects (p_mi 236).1.cls (p_mi 236).1 (p_mi 236).1 ∈ p_tb := p_wi (p_t0 (List.mem_of_getElem? (i := 110) rfl)) rfl
theorem mt_237 : p_mthP 237 := ⟨by decide +kernel, p_wi (p_t1 (List.mem_of_getElem? (i := 10) rfl)) rfl, p_wi (p_t7 (List.mem_of_getElem? (i := 108) rfl)) rfl, by decide +kernel, by decide +kernel, by decide +kernel⟩
theorem mi_237 : Cond.instanceMethod (p_mi 237).1 ∈ p_tb := p_wi (p_t7 (List.mem_of_getElem? (i := 107) rfl)) rfl
theorem mz_237 : Cond.selects (p_mi 237).1.cls (p_mi 237).1 (p_mi 237).1 ∈ p_tb := p_wi (p_t0 (List.mem_of_getElem? (i := 112) rfl)) rfl
theorem mt_238 : p_mthP 238 := ⟨by decide +kernel, p_wi (p_t1 (List.mem_of_getElem? (i := 10) rfl)) rfl, p_wi (p_t7 (List.mem_of_getElem? (i := 92) rfl)) rfl, by decide +kernel, by decide +kernel, by decide +kernel⟩
theorem mi_238 : Cond.instanceMethod (p_mi 238).1 ∈ p_tb := p_wi (p_t7 (List.mem_of_getElem? (i := 90) rfl)) rfl
theorem mz_238 : Cond.selects (p_mi 238).1.cls (p_mi 238).1 (p_mi 238).1 ∈ p_tb := p_wi (p_t7 (List.mem_of_getElem? (i := 91) rfl)) rfl
theorem mt_239 : p_mthP 239 := ⟨by decide +kernel, p_wi (p_t1 (List.mem_of_getElem? (i := 10) rfl)) rfl, p_wi (p_t7 (List.mem_of_getElem? (i := 112) rfl)) rfl, by decide +kernel, by decide +kernel, by decide +kernel⟩
theorem mi_239 : Cond.instanceMethod (p_mi 239).1 ∈ p_tb := p_wi (p_t7 (List.mem_of_getElem? (i := 110) rfl)) rfl
theorem mz_239 : Cond.selects (p_mi 239).1.cls (p_mi 239).1 (p_mi 239).1 ∈ p_tb := p_wi (p_t7 (List.mem_of_getElem? (i := 111) rfl)) rfl
theorem mt_240 : p_mthP 240 := ⟨by decide +kernel, p_wi (p_t1 (List.mem_of_getElem? (i := 10) rfl)) rfl, p_wi (p_t7 (List.mem_of_getElem? (i := 128) rfl)) rfl, by decide +kernel, by decide +kernel, by decide +kernel⟩
theorem mi_240 : Cond.instanceMethod (p_mi 240).1 ∈ p_tb := p_wi (p_t7 (List.mem_of_getElem? (i := 127) rfl)) rfl
theorem mz_240 : Cond.selects (p_mi 240).1.cls (p_mi 240).1 (p_mi 240).1 ∈ p_tb := p_wi (p_t0 (List.mem_of_getElem? (i := 115) rfl)) rfl
theorem mt_241 : p_mthP 241 := ⟨by decide +kernel, p_wi (p_t1 (List.mem_of_getElem? (i := 10) rfl)) rfl, p_wi (p_t7 (List.mem_of_getElem? (i := 124) rfl)) rfl, by decide +kernel, by decide +kernel, by decide +kernel⟩
theorem mi_241 : Cond.instanceMethod (p_mi 241).1 ∈ p_tb := p_wi (p_t7 (List.mem_of_getElem? (i := 123) rfl)) rfl
theorem mz_241 : Cond.selects (p_mi 241).1.cls (p_mi 241).1 (p_mi 241).1 ∈ p_tb := p_wi (p_t0 (List.mem_of_getElem? (i := 114) rfl)) rfl
theorem mt_242 : p_mthP 242 := ⟨by decide +kernel, p_wi (p_t1 (List.mem_of_getElem? (i := 10) rfl)) rfl, p_wi (p_t7 (List.mem_of_getElem? (i := 120) rfl)) rfl, by decide +kernel, by decide +kernel, by decide +kernel⟩
theorem mi_242 : Cond.instanceMethod (p_mi 242).1 ∈ p_tb := p_wi (p_t7 (List.mem_of_getElem? (i := 119) rfl)) rfl
theorem mz_242 : Cond.selects (p_mi 242).1.cls (p_mi 242).1 (p_mi 242).1 ∈ p_tb := p_wi (p_t0 (List.mem_of_getElem? (i := 113) rfl)) rfl
theorem mt_243 : p_mthP 243 := ⟨by decide +kernel, p_wi (p_t1 (List.mem_of_getElem? (i := 10) rfl)) rfl, p_wi (p_t7 (List.mem_of_getElem? (i := 116) rfl)) rfl, by decide +kernel, by decide +kernel, by decide +kernel⟩
theorem mi_243 : Cond.instanceMethod (p_mi 243).1 ∈ p_tb := p_wi (p_t7 (List.mem_of_getElem? (i := 114) rfl)) rfl
theorem mz_243 : Cond.selects (p_mi 243).1.cls (p_mi 243).1 (p_mi 243).1 ∈ p_tb := p_wi (p_t7 (List.mem_of_getElem? (i := 115) rfl)) rfl
theorem mt_244 : p_mthP 244 := ⟨by decide +kernel, p_wi (p_t1 (List.mem_of_getElem? (i := 10) rfl)) rfl, p_wi (p_t7 (List.mem_of_getElem? (i := 144) rfl)) rfl, by decide +kernel, by decide +kernel, by decide +kernel⟩
theorem mi_244 : Cond.instanceMethod (p_mi 244).1 ∈ p_tb := p_wi (p_t7 (List.mem_of_getElem? (i := 143) rfl)) rfl
theorem mz_244 : Cond.selects (p_mi 244).1.cls (p_mi 244).1 (p_mi 244).1 ∈ p_tb := p_wi (p_t0 (List.mem_of_getElem? (i := 118) rfl)) rfl
theorem mt_245 : p_mthP 245 := ⟨by decide +kernel, p_wi (p_t1 (List.mem_of_getElem? (i := 10) rfl)) rfl, p_wi (p_t7 (List.mem_of_getElem? (i := 148) rfl)) rfl, by decide +kernel, by decide +kernel, by decide +kernel⟩
theorem mi_245 : Cond.instanceMethod (p_mi 245).1 ∈ p_tb := p_wi (p_t7 (List.mem_of_getElem? (i := 147) rfl)) rfl
theorem mz_245 : Cond.selects (p_mi 245).1.cls (p_mi 245).1 (p_mi 245).1 ∈ p_tb := p_wi (p_t0 (List.mem_of_getElem? (i := 119) rfl)) rfl
theorem mt_246 : p_mthP 246 := ⟨by decide +kernel, p_wi (p_t1 (List.mem_of_getElem? (i := 10) rfl)) rfl, p_wi (p_t7 (List.mem_of_getElem? (i := 140) rfl)) rfl, by decide +kernel, by decide +kernel, by decide +kernel⟩
theorem mi_246 : Cond.instanceMethod (p_mi 246).1 ∈ p_tb := p_wi (p_t7 (List.mem_of_getElem? (i := 139) rfl)) rfl
theorem mz_246 : Cond.selects (p_mi 246).1.cls (p_mi 246).1 (p_mi 246).1 ∈ p_tb := p_wi (p_t0 (List.mem_of_getElem? (i := 117) rfl)) rfl
theorem mt_247 : p_mthP 247 := ⟨by decide +kernel, p_wi (p_t1 (List.mem_of_getElem? (i := 10) rfl)) rfl, p_wi (p_t7 (List.mem_of_getElem? (i := 132) rfl)) rfl, by decide +kernel, by decide +kernel, by decide +kernel⟩
theorem mi_247 : Cond.instanceMethod (p_mi 247).1 ∈ p_tb := p_wi (p_t7 (List.mem_of_getElem? (i := 130) rfl)) rfl
theorem mz_247 : Cond.selects (p_mi 247).1.cls (p_mi 247).1 (p_mi 247).1 ∈ p_tb := p_wi (p_t7 (List.mem_of_getElem? (i := 131) rfl)) rfl
theorem mt_248 : p_mthP 248 := ⟨by decide +kernel, p_wi (p_t1 (List.mem_of_getElem? (i := 10) rfl)) rfl, p_wi (p_t7 (List.mem_of_getElem? (i := 164) rfl)) rfl, by decide +kernel, by decide +kernel, by decide +kernel⟩
theorem mi_248 : Cond.instanceMethod (p_mi 248).1 ∈ p_tb := p_wi (p_t7 (List.mem_of_getElem? (i := 163) rfl)) rfl
theorem mz_248 : Cond.selects (p_mi 248).1.cls (p_mi 248).1 (p_mi 248).1 ∈ p_tb := p_wi (p_t0 (List.mem_of_getElem? (i := 122) rfl)) rfl
theorem mt_249 : p_mthP 249 := ⟨by decide +kernel, p_wi (p_t1 (List.mem_of_getElem? (i := 10) rfl)) rfl, p_wi (p_t7 (List.mem_of_getElem? (i := 156) rfl)) rfl, by decide +kernel, by decide +kernel, by decide +kernel⟩
theorem mi_249 : Cond.instanceMethod (p_mi 249).1 ∈ p_tb := p_wi (p_t7 (List.mem_of_getElem? (i := 154) rfl)) rfl
theorem mz_249 : Cond.selects (p_mi 249).1.cls (p_mi 249).1 (p_mi 249).1 ∈ p_tb := p_wi (p_t7 (List.mem_of_getElem? (i := 155) rfl)) rfl
theorem mt_250 : p_mthP 250 := ⟨by decide +kernel, p_wi (p_t1 (List.mem_of_getElem? (i := 10) rfl)) rfl, p_wi (p_t7 (List.mem_of_getElem? (i := 168) rfl)) rfl, by decide +kernel, by decide +kernel, by decide +kernel⟩
theorem mi_250 : Cond.instanceMethod (p_mi 250).1 ∈ p_tb := p_wi (p_t7 (List.mem_of_getElem? (i := 166) rfl)) rfl
theorem mz_250 : Cond.selects (p_mi 250).1.cls (p_mi 250).1 (p_mi 250).1 ∈ p_tb := p_wi (p_t7 (List.mem_of_getElem? (i := 167) rfl)) rfl
theorem mt_251 : p_mthP 251 := ⟨by decide +kernel, p_wi (p_t1 (List.mem_of_getElem? (i := 10) rfl)) rfl, p_wi (p_t7 (List.mem_of_getElem? (i := 176) rfl)) rfl, by decide +kernel, by decide +kernel, by decide +kernel⟩
theorem mi_251 : Cond.instanceMethod (p_mi 251).1 ∈ p_tb := p_wi (p_t7 (List.mem_of_getElem? (i := 175) rfl)) rfl
theorem mz_251 : Cond.selects (p_mi 251).1.cls (p_mi 251).1 (p_mi 251).1 ∈ p_tb := p_wi (p_t0 (List.mem_of_getElem? (i := 123) rfl)) rfl
theorem mt_252 : p_mthP 252 := ⟨by decide +kernel, p_wi (p_t1 (List.mem_of_getElem? (i := 10) rfl)) rfl, p_wi (p_t7 (List.mem_of_getElem? (i := 197) rfl)) rfl, by decide +kernel, by decide +kernel, by decide +kernel⟩
theorem mi_252 : Cond.instanceMethod (p_mi 252).1 ∈ p_tb := p_wi (p_t7 (List.mem_of_getElem? (i := 196) rfl)) rfl
theorem mz_252 : Cond.selects (p_mi 252).1.cls (p_mi 252).1 (p_mi 252).1 ∈ p_tb := p_wi (p_t0 (List.mem_of_getElem? (i := 127) rfl)) rfl
theorem mt_253 : p_mthP 253 := ⟨by decide +kernel, p_wi (p_t1 (List.mem_of_getElem? (i := 10) rfl)) rfl, p_wi (p_t7 (List.mem_of_getElem? (i := 172) rfl)) rfl, by decide +kernel, by decide +kernel, by decide +kernel⟩
theorem mi_253 : Cond.instanceMethod (p_mi 253).1 ∈ p_tb := p_wi (p_t7 (List.mem_of_getElem? (i := 170) rfl)) rfl
theorem mz_253 : Cond.selects (p_mi 253).1.cls (p_mi 253).1 (p_mi 253).1 ∈ p_tb := p_wi (p_t7 (List.mem_of_getElem? (i := 171) rfl)) rfl
theorem mt_254 : p_mthP 254 := ⟨by decide +kernel, p_wi (p_t1 (List.mem_of_getElem? (i := 10) rfl)) rfl, p_wi (p_t7 (List.mem_of_getElem? (i := 184) rfl)) rfl, by decide +kernel, by decide +kernel, by decide +kernel⟩
theorem mi_254 : Cond.instanceMethod (p_mi 254).1 ∈ p_tb := p_wi (p_t7 (List.mem_of_getElem? (i := 183) rfl)) rfl
theorem mz_254 : Cond.selects (p_mi 254).1.cls (p_mi 254).1 (p_mi 254).1 ∈ p_tb := p_wi (p_t0 (List.mem_of_getElem? (i := 125) rfl)) rfl
theorem mt_255 : p_mthP 255 := ⟨by decide +kernel, p_wi (p_t1 (List.mem_of_getElem? (i := 10) rfl)) rfl, p_wi (p_t7 (List.mem_of_getElem? (i := 191) rfl)) rfl, by decide +kernel, by decide +kernel, by decide +kernel⟩
theorem ms_255 : Cond.static (p_mi 255).1 ∈ p_tb := p_wi (p_t7 (List.mem_of_getElem? (i := 190) rfl)) rfl
theorem mt_256 : p_mthP 256 := ⟨by decide +kernel, p_wi (p_t1 (List.mem_of_getElem? (i := 10) rfl)) rfl, p_wi (p_t7 (List.mem_of_getElem? (i := 188) rfl)) rfl, by decide +kernel, by decide +kernel, by decide +kernel⟩
theorem mi_256 : Cond.instanceMethod (p_mi 256).1 ∈ p_tb := p_wi (p_t7 (List.mem_of_getElem? (i := 187) rfl)) rfl
theorem mz_256 : Cond.selects (p_mi 256).1.cls (p_mi 256).1 (p_mi 256).1 ∈ p_tb := p_wi (p_t0 (List.mem_of_getElem? (i := 126) rfl)) rfl
theorem mt_257 : p_mthP 257 := ⟨by decide +kernel, p_wi (p_t1 (List.mem_of_getElem? (i := 10) rfl)) rfl, p_wi (p_t7 (List.mem_of_getElem? (i := 180) rfl)) rfl, by decide +kernel, by decide +kernel, by decide +kernel⟩
theorem mi_257 : Cond.instanceMethod (p_mi 257).1 ∈ p_tb := p_wi (p_t7 (List.mem_of_getElem? (i := 179) rfl)) rfl
theorem mz_257 : Cond.selects (p_mi 257).1.cls (p_mi 257).1 (p_mi 257).1 ∈ p_tb := p_wi (p_t0 (List.mem_of_getElem? (i := 124) rfl)) rfl
theorem mt_258 : p_mthP 258 := ⟨by decide +kernel, p_wi (p_t1 (List.mem_of_getElem? (i := 10) rfl)) rfl, p_wi (p_t7 (List.mem_of_getElem? (i := 209) rfl)) rfl, by decide +kernel, by decide +kernel, by decide +kernel⟩
theorem mi_258 : Cond.instanceMethod (p_mi 258).1 ∈ p_tb := p_wi (p_t7 (List.mem_of_getElem? (i := 208) rfl)) rfl
theorem mz_258 : Cond.selects (p_mi 258).1.cls (p_mi 258).1 (p_mi 258).1 ∈ p_tb := p_wi (p_t0 (List.mem_of_getElem? (i := 129) rfl)) rfl
theorem mt_259 : p_mthP 259 := ⟨by decide +kernel, p_wi (p_t1 (List.mem_of_getElem? (i := 10) rfl)) rfl, p_wi (p_t7 (List.mem_of_getElem? (i := 216) rfl)) rfl, by decide +kernel, by decide +kernel, by decide +kernel⟩
theorem mi_259 : Cond.instanceMethod (p_mi 259).1 ∈ p_tb := p_wi (p_t7 (List.mem_of_getElem? (i := 215) rfl)) rfl
theorem mz_259 : Cond.selects (p_mi 259).1.cls (p_mi 259).1 (p_mi 259).1 ∈ p_tb := p_wi (p_t0 (List.mem_of_getElem? (i := 130) rfl)) rfl
theorem mt_260 : p_mthP 260 := ⟨by decide +kernel, p_wi (p_t1 (List.mem_of_getElem? (i := 10) rfl)) rfl, p_wi (p_t7 (List.mem_of_getElem? (i := 205) rfl)) rfl, by decide +kernel, by decide +kernel, by decide +kernel⟩
theorem mi_260 : Cond.instanceMethod (p_mi 260).1 ∈ p_tb := p_wi (p_t7 (List.mem_of_getElem? (i := 204) rfl)) rfl
theorem mz_260 : Cond.selects (p_mi 260).1.cls (p_mi 260).1 (p_mi 260).1 ∈ p_tb := p_wi (p_t0 (List.mem_of_getElem? (i := 128) rfl)) rfl
theorem mt_261 : p_mthP 261 := ⟨by decide +kernel, p_wi (p_t1 (List.mem_of_getElem? (i := 10) rfl)) rfl, p_wi (p_t7 (List.mem_of_getElem? (i := 220) rfl)) rfl, by decide +kernel, by decide +kernel, by decide +kernel⟩
theorem mi_261 : Cond.instanceMethod (p_mi 261).1 ∈ p_tb := p_wi (p_t7 (List.mem_of_getElem? (i := 219) rfl)) rfl
theorem mz_261 : Cond.selects (p_mi 261).1.cls (p_mi 261).1 (p_mi 261).1 ∈ p_tb := p_wi (p_t0 (List.mem_of_getElem? (i := 131) rfl)) rfl
theorem mt_262 : p_mthP 262 := ⟨by decide +kernel, p_wi (p_t1 (List.mem_of_getElem? (i := 10) rfl)) rfl, p_wi (p_t7 (List.mem_of_getElem? (i := 201) rfl)) rfl, by decide +kernel, by decide +kernel, by decide +kernel⟩
theorem mi_262 : Cond.instanceMethod (p_mi 262).1 ∈ p_tb := p_wi (p_t7 (List.mem_of_getElem? (i := 199) rfl)) rfl
theorem mz_262 : Cond.selects (p_mi 262).1.cls (p_mi 262).1 (p_mi 262).1 ∈ p_tb := p_wi (p_t7 (List.mem_of_getElem? (i := 200) rfl)) rfl
theorem mt_263 : p_mthP 263 := ⟨by decide +kernel, p_wi (p_t1 (List.mem_of_getElem? (i := 10) rfl)) rfl, p_wi (p_t7 (List.mem_of_getElem? (i := 224) rfl)) rfl, by decide +kernel, by decide +kernel, by decide +kernel⟩
theorem mi_263 : Cond.instanceMethod (p_mi 263).1 ∈ p_tb := p_wi (p_t7 (List.mem_of_getElem? (i := 222) rfl)) rfl
theorem mz_263 : Cond.selects (p_mi 263).1.cls (p_mi 263).1 (p_mi 263).1 ∈ p_tb := p_wi (p_t7 (List.mem_of_getElem? (i := 223) rfl)) rfl
theorem mt_264 : p_mthP 264 := ⟨by decide +kernel, p_wi (p_t1 (List.mem_of_getElem? (i := 10) rfl)) rfl, p_wi (p_t7 (List.mem_of_getElem? (i := 228) rfl)) rfl, by decide +kernel, by decide +kernel, by decide +kernel⟩
theorem mi_264 : Cond.instanceMethod (p_mi 264).1 ∈ p_tb := p_wi (p_t7 (List.mem_of_getElem? (i := 226) rfl)) rfl
theorem mz_264 : Cond.selects (p_mi 264).1.cls (p_mi 264).1 (p_mi 264).1 ∈ p_tb := p_wi (p_t7 (List.mem_of_getElem? (i := 227) rfl)) rfl
theorem mt_265 : p_mthP 265 := ⟨by decide +kernel, p_wi (p_t1 (List.mem_of_getElem? (i := 10) rfl)) rfl, p_wi (p_t7 (List.mem_of_getElem? (i := 232) rfl)) rfl, by decide +kernel, by decide +kernel, by decide +kernel⟩
theorem mi_265 : Cond.instanceMethod (p_mi 265).1 ∈ p_tb := p_wi (p_t7 (List.mem_of_getElem? (i := 230) rfl)) rfl
theorem mz_265 : Cond.selects (p_mi 265).1.cls (p_mi 265).1 (p_mi 265).1 ∈ p_tb := p_wi (p_t7 (List.mem_of_getElem? (i := 231) rfl)) rfl
theorem mt_266 : p_mthP 266 := ⟨by decide +kernel, p_wi (p_t1 (List.mem_of_getElem? (i := 11) rfl)) rfl, p_wi (p_t2 (List.mem_of_getElem? (i := 192) rfl)) rfl, by decide +kernel, by decide +kernel, by decide +kernel⟩
theorem ms_266 : Cond.static (p_mi 266).1 ∈ p_tb := p_wi (p_t2 (List.mem_of_getElem? (i := 191) rfl)) rfl
theorem mt_269 : p_mthP 269 := ⟨by decide +kernel, p_wi (p_t1 (List.mem_of_getElem? (i := 12) rfl)) rfl, p_wi (p_t3 (List.mem_of_getElem? (i := 49) rfl)) rfl, by decide +kernel, by decide +kernel, by decide +kernel⟩
theorem mi_269 : Cond.instanceMethod (p_mi 269).1 ∈ p_tb := p_wi (p_t3 (List.mem_of_getElem? (i := 47) rfl)) rfl
theorem mz_269 : Cond.selects (p_mi 269).1.cls (p_mi 269).1 (p_mi 269).1 ∈ p_tb := p_wi (p_t3 (List.mem_of_getElem? (i := 48) rfl)) rfl
theorem mt_270 : p_mthP 270 := ⟨by decide +kernel, p_wi (p_t1 (List.mem_of_getElem? (i := 12) rfl)) rfl, p_wi (p_t3 (List.mem_of_getElem? (i := 59) rfl)) rfl, by decide +kernel, by decide +kernel, by decide +kernel⟩
theorem mi_270 : Cond.instanceMethod (p_mi 270).1 ∈ p_tb := p_wi (p_t3 (List.mem_of_getElem? (i := 57) rfl)) rfl
theorem mz_270 : Cond.selects (p_mi 270).1.cls (p_mi 270).1 (p_mi 270).1 ∈ p_tb := p_wi (p_t3 (List.mem_of_getElem? (i := 58) rfl)) rfl
theorem mt_271 : p_mthP 271 := ⟨by decide +kernel, p_wi (p_t1 (List.mem_of_getElem? (i := 12) rfl)) rfl, p_wi (p_t3 (List.mem_of_getElem? (i := 53) rfl)) rfl, by decide +kernel, by decide +kernel, by decide +kernel⟩
theorem mi_271 : Cond.instanceMethod (p_mi 271).1 ∈ p_tb := p_wi (p_t3 (List.mem_of_getElem? (i := 51) rfl)) rfl
theorem mz_271 : Cond.selects (p_mi 271).1.cls (p_mi 271).1 (p_mi 271).1 ∈ p_tb := p_wi (p_t3 (List.mem_of_getElem? (i := 52) rfl)) rfl
theorem mt_272 : p_mthP 272 := ⟨by decide +kernel, p_wi (p_t1 (List.mem_of_getElem? (i := 12) rfl)) rfl, p_wi (p_t3 (List.mem_of_getElem? (i := 63) rfl)) rfl, by decide +kernel, by decide +kernel, by decide +kernel⟩
theorem mi_272 : Cond.instanceMethod (p_mi 272).1 ∈ p_tb := p_wi (p_t3 (List.mem_of_getElem? (i := 61) rfl)) rfl
theorem mz_272 : Cond.selects (p_mi 272).1.cls (p_mi 272).1 (p_mi 272).1 ∈ p_tb := p_wi (p_t3 (List.mem_of_getElem? (i := 62) rfl)) rfl
theorem mt_273 : p_mthP 273 := ⟨by decide +kernel, p_wi (p_t1 (List.mem_of_getElem? (i := 12) rfl)) rfl, p_wi (p_t3 (List.mem_of_getElem? (i := 69) rfl)) rfl, by decide +kernel, by decide +kernel, by decide +kernel⟩
theorem ms_273 : Cond.static (p_mi 273).1 ∈ p_tb := p_wi (p_t3 (List.mem_of_getElem? (i := 68) rfl)) rfl
theorem mt_274 : p_mthP 274 := ⟨by decide +kernel, p_wi (p_t1 (List.mem_of_getElem? (i := 13) rfl)) rfl, p_wi (p_t3 (List.mem_of_getElem? (i := 66) rfl)) rfl, by decide +kernel, by decide +kernel, by decide +kernel⟩
theorem ms_274 : Cond.static (p_mi 274).1 ∈ p_tb := p_wi (p_t3 (List.mem_of_getElem? (i := 65) rfl)) rfl
theorem mt_275 : p_mthP 275 := ⟨by decide +kernel, p_wi (p_t1 (List.mem_of_getElem? (i := 15) rfl)) rfl, p_wi (p_t3 (List.mem_of_getElem? (i := 87) rfl)) rfl, by decide +kernel, by decide +kernel, by decide +kernel⟩
theorem ms_275 : Cond.static (p_mi 275).1 ∈ p_tb := p_wi (p_t3 (List.mem_of_getElem? (i := 86) rfl)) rfl
theorem mt_276 : p_mthP 276 := ⟨by decide +kernel, p_wi (p_t1 (List.mem_of_getElem? (i := 15) rfl)) rfl, p_wi (p_t3 (List.mem_of_getElem? (i := 83) rfl)) rfl, by decide +kernel, by decide +kernel, by decide +kernel⟩
theorem ms_276 : Cond.static (p_mi 276).1 ∈ p_tb := p_wi (p_t3 (List.mem_of_getElem? (i := 82) rfl)) rfl
theorem mt_277 : p_mthP 277 := ⟨by decide +kernel, p_wi (p_t1 (List.mem_of_getElem? (i := 15) rfl)) rfl, p_wi (p_t3 (List.mem_of_getElem? (i := 77) rfl)) rfl, by decide +kernel, by decide +kernel, by decide +kernel⟩
theorem ms_277 : Cond.static (p_mi 277).1 ∈ p_tb := p_wi (p_t3 (List.mem_of_getElem? (i := 76) rfl)) rfl
theorem mt_278 : p_mthP 278 := ⟨by decide +kernel, p_wi (p_t1 (List.mem_of_getElem? (i := 15) rfl)) rfl, p_wi (p_t3 (List.mem_of_getElem? (i := 80) rfl)) rfl, by decide +kernel, by decide +kernel, by decide +kernel⟩
theorem ms_278 : Cond.static (p_mi 278).1 ∈ p_tb := p_wi (p_t3 (List.mem_of_getElem? (i := 79) rfl)) rfl
theorem mt_279 : p_mthP 279 := ⟨by decide +kernel, p_wi (p_t1 (List.mem_of_getElem? (i := 18) rfl)) rfl, p_wi (p_t4 (List.mem_of_getElem? (i := 165) rfl)) rfl, by decide +kernel, by decide +kernel, by decide +kernel⟩
theorem ms_279 : Cond.static (p_mi 279).1 ∈ p_tb := p_wi (p_t4 (List.mem_of_getElem? (i := 164) rfl)) rfl
theorem mt_280 : p_mthP 280 := ⟨by decide +kernel, p_wi (p_t1 (List.mem_of_getElem? (i := 18) rfl)) rfl, p_wi (p_t4 (List.mem_of_getElem? (i := 6) rfl)) rfl, by decide +kernel, by decide +kernel, by decide +kernel⟩
theorem ms_280 : Cond.static (p_mi 280).1 ∈ p_tb := p_wi (p_t4 (List.mem_of_getElem? (i := 5) rfl)) rfl
theorem mt_281 : p_mthP 281 := ⟨by decide +kernel, p_wi (p_t1 (List.mem_of_getElem? (i := 18) rfl)) rfl, p_wi (p_t4 (List.mem_of_getElem? (i := 168) rfl)) rfl, by decide +kernel, by decide +kernel, by decide +kernel⟩
theorem ms_281 : Cond.static (p_mi 281).1 ∈ p_tb := p_wi (p_t4 (List.mem_of_getElem? (i := 167) rfl)) rfl
theorem mt_282 : p_mthP 282 := ⟨by decide +kernel, p_wi (p_t1 (List.mem_of_getElem? (i := 14) rfl)) rfl, p_wi (p_t3 (List.mem_of_getElem? (i := 74) rfl)) rfl, by decide +kernel, by decide +kernel, by decide +kernel⟩
theorem ms_282 : Cond.static (p_mi 282).1 ∈ p_tb := p_wi (p_t3 (List.mem_of_getElem? (i := 73) rfl)) rfl
theorem fo_0 : p_flP ("HutAnswers$Draws", 7, 0, 0) := Or.inl ⟨_, rfl, by decide, p_wi (p_t2 (List.mem_of_getElem? (i := 57) rfl)) rfl, rfl⟩
theorem fo_1 : p_flP ("HutAnswers$Hut", 9, 1, 1) := Or.inl ⟨_, rfl, by decide, p_wi (p_t1 (List.mem_of_getElem? (i := 153) rfl)) rfl, rfl⟩
theorem fo_2 : p_flP ("HutAnswers$Hut", 15, 1, 3) := Or.inl ⟨_, rfl, by decide, p_wi (p_t1 (List.mem_of_getElem? (i := 157) rfl)) rfl, rfl⟩
theorem fo_3 : p_flP ("HutAnswers$Hut", 18, 1, 4) := Or.inl ⟨_, rfl, by decide, p_wi (p_t1 (List.mem_of_getElem? (i := 160) rfl)) rfl, rfl⟩
theorem fo_4 : p_flP ("HutAnswers$Hut", 21, 1, 5) := Or.inl ⟨_, rfl, by decide, p_wi (p_t1 (List.mem_of_getElem? (i := 164) rfl)) rfl, rfl⟩
theorem fo_5 : p_flP ("HutAnswers$Hut", 24, 1, 6) := Or.inl ⟨_, rfl, by decide, p_wi (p_t1 (List.mem_of_getElem? (i := 165) rfl)) rfl, rfl⟩
theorem fo_6 : p_flP ("HutAnswers$Hut", 27, 1, 7) := Or.inl ⟨_, rfl, by decide, p_wi (p_t1 (List.mem_of_getElem? (i := 170) rfl)) rfl, rfl⟩
theorem fo_7 : p_flP ("HutAnswers$Hut", 31, 1, 11) := Or.inl ⟨_, rfl, by decide, p_wi (p_t1 (List.mem_of_getElem? (i := 184) rfl)) rfl, rfl⟩
theorem fo_8 : p_flP ("HutAnswers$Hut", 34, 1, 12) := Or.inl ⟨_, rfl, by decide, p_wi (p_t1 (List.mem_of_getElem? (i := 186) rfl)) rfl, rfl⟩
theorem fo_9 : p_flP ("HutAnswers$Hut", 39, 1, 14) := Or.inl ⟨_, rfl, by decide, p_wi (p_t1 (List.mem_of_getElem? (i := 193) rfl)) rfl, rfl⟩
theorem fo_10 : p_flP ("HutAnswers$Hut", 43, 1, 15) := Or.inl ⟨_, rfl, by decide, p_wi (p_t1 (List.mem_of_getElem? (i := 195) rfl)) rfl, rfl⟩
theorem fo_11 : p_flP ("HutAnswers$Hut", 46, 1, 0) := Or.inl ⟨_, rfl, by decide, p_wi (p_t1 (List.mem_of_getElem? (i := 150) rfl)) rfl, rfl⟩
theorem fo_12 : p_flP ("HutAnswers$Hut", 55, 1, 2) := Or.inl ⟨_, rfl, by decide, p_wi (p_t1 (List.mem_of_getElem? (i := 154) rfl)) rfl, rfl⟩
theorem fo_13 : p_flP ("HutAnswers$Hut", 58, 1, 8) := Or.inl ⟨_, rfl, by decide, p_wi (p_t1 (List.mem_of_getElem? (i := 173) rfl)) rfl, rfl⟩
theorem fo_14 : p_flP ("HutAnswers$Hut", 61, 1, 9) := Or.inl ⟨_, rfl, by decide, p_wi (p_t1 (List.mem_of_getElem? (i := 178) rfl)) rfl, rfl⟩
theorem fo_15 : p_flP ("HutAnswers$Hut", 64, 1, 10) := Or.inl ⟨_, rfl, by decide, p_wi (p_t1 (List.mem_of_getElem? (i := 182) rfl)) rfl, rfl⟩
theorem fo_16 : p_flP ("HutAnswers$Hut", 67, 1, 13) := Or.inl ⟨_, rfl, by decide, p_wi (p_t1 (List.mem_of_getElem? (i := 191) rfl)) rfl, rfl⟩
theorem fo_17 : p_flP ("HutAnswers$Judge", 11, 2, 0) := Or.inl ⟨_, rfl, by decide, p_wi (p_t1 (List.mem_of_getElem? (i := 126) rfl)) rfl, rfl⟩
theorem fo_18 : p_flP ("HutAnswers$Judge", 15, 2, 1) := Or.inl ⟨_, rfl, by decide, p_wi (p_t1 (List.mem_of_getElem? (i := 128) rfl)) rfl, rfl⟩
theorem fo_19 : p_flP ("HutAnswers$Judge", 22, 1, 3) := Or.inl ⟨_, rfl, by decide, p_wi (p_t1 (List.mem_of_getElem? (i := 158) rfl)) rfl, rfl⟩
theorem fo_20 : p_flP ("HutAnswers$Judge", 27, 1, 4) := Or.inl ⟨_, rfl, by decide, p_wi (p_t1 (List.mem_of_getElem? (i := 161) rfl)) rfl, rfl⟩
theorem fo_21 : p_flP ("HutAnswers$Judge", 30, 1, 6) := Or.inl ⟨_, rfl, by decide, p_wi (p_t1 (List.mem_of_getElem? (i := 166) rfl)) rfl, rfl⟩
theorem fo_22 : p_flP ("HutAnswers$Judge", 33, 1, 12) := Or.inl ⟨_, rfl, by decide, p_wi (p_t1 (List.mem_of_getElem? (i := 187) rfl)) rfl, rfl⟩
theorem fo_23 : p_flP ("HutAnswers$Judge", 40, 1, 9) := Or.inl ⟨_, rfl, by decide, p_wi (p_t1 (List.mem_of_getElem? (i := 179) rfl)) rfl, rfl⟩
theorem fo_24 : p_flP ("HutAnswers$Judge", 44, 1, 8) := Or.inl ⟨_, rfl, by decide, p_wi (p_t1 (List.mem_of_getElem? (i := 176) rfl)) rfl, rfl⟩
theorem fo_25 : p_flP ("HutAnswers$Judge", 53, 7, 0) := Or.inl ⟨_, rfl, by decide, p_wi (p_t1 (List.mem_of_getElem? (i := 59) rfl)) rfl, rfl⟩
theorem fo_26 : p_flP ("HutAnswers$Judge", 58, 7, 1) := Or.inl ⟨_, rfl, by decide, p_wi (p_t1 (List.mem_of_getElem? (i := 62) rfl)) rfl, rfl⟩
theorem fo_27 : p_flP ("HutAnswers$Judge", 61, 7, 4) := Or.inl ⟨_, rfl, by decide, p_wi (p_t1 (List.mem_of_getElem? (i := 69) rfl)) rfl, rfl⟩
theorem fo_28 : p_flP ("HutAnswers$Judge", 64, 7, 5) := Or.inl ⟨_, rfl, by decide, p_wi (p_t1 (List.mem_of_getElem? (i := 71) rfl)) rfl, rfl⟩
theorem fo_29 : p_flP ("HutAnswers$Judge", 71, 7, 3) := Or.inl ⟨_, rfl, by decide, p_wi (p_t1 (List.mem_of_getElem? (i := 67) rfl)) rfl, rfl⟩
theorem fo_30 : p_flP ("HutAnswers$Judge", 75, 7, 7) := Or.inl ⟨_, rfl, by decide, p_wi (p_t1 (List.mem_of_getElem? (i := 75) rfl)) rfl, rfl⟩
theorem fo_31 : p_flP ("HutAnswers$Judge", 78, 7, 8) := Or.inl ⟨_, rfl, by decide, p_wi (p_t1 (List.mem_of_getElem? (i := 77) rfl)) rfl, rfl⟩
theorem fo_32 : p_flP ("HutAnswers$Paper", 14, 3, 0) := Or.inl ⟨_, rfl, by decide, p_wi (p_t1 (List.mem_of_getElem? (i := 230) rfl)) rfl, rfl⟩
theorem fo_33 : p_flP ("HutAnswers$Paper", 21, 3, 1) := Or.inl ⟨_, rfl, by decide, p_wi (p_t1 (List.mem_of_getElem? (i := 231) rfl)) rfl, rfl⟩
theorem fo_34 : p_flP ("HutAnswers$Paper", 25, 3, 6) := Or.inl ⟨_, rfl, by decide, p_wi (p_t1 (List.mem_of_getElem? (i := 239) rfl)) rfl, rfl⟩
theorem fo_35 : p_flP ("HutAnswers$Paper", 29, 3, 7) := Or.inl ⟨_, rfl, by decide, p_wi (p_t2 (List.mem_of_getElem? (i := 1) rfl)) rfl, rfl⟩
theorem fo_36 : p_flP ("HutAnswers$Paper", 32, 3, 8) := Or.inl ⟨_, rfl, by decide, p_wi (p_t2 (List.mem_of_getElem? (i := 2) rfl)) rfl, rfl⟩
theorem fo_37 : p_flP ("HutAnswers$Paper", 35, 3, 9) := Or.inl ⟨_, rfl, by decide, p_wi (p_t2 (List.mem_of_getElem? (i := 3) rfl)) rfl, rfl⟩
theorem fo_38 : p_flP ("HutAnswers$Paper", 38, 3, 10) := Or.inl ⟨_, rfl, by decide, p_wi (p_t2 (List.mem_of_getElem? (i := 4) rfl)) rfl, rfl⟩
theorem fo_39 : p_flP ("HutAnswers$Paper", 41, 3, 12) := Or.inl ⟨_, rfl, by decide, p_wi (p_t2 (List.mem_of_getElem? (i := 6) rfl)) rfl, rfl⟩
theorem fo_40 : p_flP ("HutAnswers$Paper", 44, 3, 13) := Or.inl ⟨_, rfl, by decide, p_wi (p_t2 (List.mem_of_getElem? (i := 7) rfl)) rfl, rfl⟩
theorem fo_41 : p_flP ("HutAnswers$Paper", 48, 3, 14) := Or.inl ⟨_, rfl, by decide, p_wi (p_t2 (List.mem_of_getElem? (i := 8) rfl)) rfl, rfl⟩
theorem fo_42 : p_flP ("HutAnswers$Paper", 52, 3, 15) := Or.inl ⟨_, rfl, by decide, p_wi (p_t2 (List.mem_of_getElem? (i := 9) rfl)) rfl, rfl⟩
theorem fo_43 : p_flP ("HutAnswers$Paper", 55, 3, 2) := Or.inl ⟨_, rfl, by decide, p_wi (p_t1 (List.mem_of_getElem? (i := 232) rfl)) rfl, rfl⟩
theorem fo_44 : p_flP ("HutAnswers$Paper", 71, 3, 3) := Or.inl ⟨_, rfl, by decide, p_wi (p_t1 (List.mem_of_getElem? (i := 233) rfl)) rfl, rfl⟩
theorem fo_45 : p_flP ("HutAnswers$Paper", 75, 3, 4) := Or.inl ⟨_, rfl, by decide, p_wi (p_t1 (List.mem_of_getElem? (i := 235) rfl)) rfl, rfl⟩
theorem fo_46 : p_flP ("HutAnswers$Paper", 78, 1, 8) := Or.inl ⟨_, rfl, by decide, p_wi (p_t1 (List.mem_of_getElem? (i := 174) rfl)) rfl, rfl⟩
theorem fo_47 : p_flP ("HutAnswers$Paper", 99, 1, 2) := Or.inl ⟨_, rfl, by decide, p_wi (p_t1 (List.mem_of_getElem? (i := 156) rfl)) rfl, rfl⟩
theorem fo_48 : p_flP ("HutAnswers$Paper", 110, 2, 0) := Or.inl ⟨_, rfl, by decide, p_wi (p_t1 (List.mem_of_getElem? (i := 127) rfl)) rfl, rfl⟩
theorem fo_49 : p_flP ("HutAnswers$Paper", 113, 1, 4) := Or.inl ⟨_, rfl, by decide, p_wi (p_t1 (List.mem_of_getElem? (i := 163) rfl)) rfl, rfl⟩
theorem fo_50 : p_flP ("HutAnswers$Paper", 148, 3, 5) := Or.inl ⟨_, rfl, by decide, p_wi (p_t1 (List.mem_of_getElem? (i := 237) rfl)) rfl, rfl⟩
theorem fo_51 : p_flP ("HutAnswers$Paper", 151, 1, 0) := Or.inl ⟨_, rfl, by decide, p_wi (p_t1 (List.mem_of_getElem? (i := 152) rfl)) rfl, rfl⟩
theorem fo_52 : p_flP ("HutAnswers$Paper", 160, 3, 11) := Or.inl ⟨_, rfl, by decide, p_wi (p_t2 (List.mem_of_getElem? (i := 5) rfl)) rfl, rfl⟩
theorem fo_53 : p_flP ("HutAnswers$Paper", 188, 1, 12) := Or.inl ⟨_, rfl, by decide, p_wi (p_t1 (List.mem_of_getElem? (i := 190) rfl)) rfl, rfl⟩
theorem fo_54 : p_flP ("HutAnswers$Paper", 194, 3, 16) := Or.inl ⟨_, rfl, by decide, p_wi (p_t2 (List.mem_of_getElem? (i := 10) rfl)) rfl, rfl⟩
theorem fo_55 : p_flP ("HutAnswers$Paper", 197, 3, 17) := Or.inl ⟨_, rfl, by decide, p_wi (p_t2 (List.mem_of_getElem? (i := 11) rfl)) rfl, rfl⟩
theorem fo_56 : p_flP ("HutAnswers$Paper", 206, 1, 6) := Or.inl ⟨_, rfl, by decide, p_wi (p_t1 (List.mem_of_getElem? (i := 169) rfl)) rfl, rfl⟩
theorem fo_57 : p_flP ("HutAnswers$Past", 11, 4, 0) := Or.inl ⟨_, rfl, by decide, p_wi (p_t2 (List.mem_of_getElem? (i := 70) rfl)) rfl, rfl⟩
theorem fo_58 : p_flP ("HutAnswers$Past", 21, 4, 1) := Or.inl ⟨_, rfl, by decide, p_wi (p_t2 (List.mem_of_getElem? (i := 71) rfl)) rfl, rfl⟩
theorem fo_59 : p_flP ("HutAnswers$Past", 25, 4, 2) := Or.inl ⟨_, rfl, by decide, p_wi (p_t2 (List.mem_of_getElem? (i := 72) rfl)) rfl, rfl⟩
theorem fo_60 : p_flP ("HutAnswers$Past", 28, 1, 7) := Or.inl ⟨_, rfl, by decide, p_wi (p_t1 (List.mem_of_getElem? (i := 171) rfl)) rfl, rfl⟩
theorem fo_61 : p_flP ("HutAnswers$Past", 33, 1, 8) := Or.inl ⟨_, rfl, by decide, p_wi (p_t1 (List.mem_of_getElem? (i := 175) rfl)) rfl, rfl⟩
theorem fo_62 : p_flP ("HutAnswers$Past", 36, 1, 9) := Or.inl ⟨_, rfl, by decide, p_wi (p_t1 (List.mem_of_getElem? (i := 180) rfl)) rfl, rfl⟩
theorem fo_63 : p_flP ("HutAnswers$Past", 39, 1, 12) := Or.inl ⟨_, rfl, by decide, p_wi (p_t1 (List.mem_of_getElem? (i := 188) rfl)) rfl, rfl⟩
theorem fo_64 : p_flP ("HutAnswers$Past", 42, 1, 6) := Or.inl ⟨_, rfl, by decide, p_wi (p_t1 (List.mem_of_getElem? (i := 167) rfl)) rfl, rfl⟩
theorem fo_65 : p_flP ("HutAnswers$Reader", 14, 5, 0) := Or.inl ⟨_, rfl, by decide, p_wi (p_t1 (List.mem_of_getElem? (i := 97) rfl)) rfl, rfl⟩
theorem fo_66 : p_flP ("HutAnswers$Reader", 20, 5, 1) := Or.inl ⟨_, rfl, by decide, p_wi (p_t1 (List.mem_of_getElem? (i := 99) rfl)) rfl, rfl⟩
theorem fo_67 : p_flP ("HutAnswers$Reader", 24, 6, 0) := Or.inl ⟨_, rfl, by decide, p_wi (p_t1 (List.mem_of_getElem? (i := 34) rfl)) rfl, rfl⟩
theorem fo_68 : p_flP ("HutAnswers$Reader", 27, 6, 1) := Or.inl ⟨_, rfl, by decide, p_wi (p_t1 (List.mem_of_getElem? (i := 37) rfl)) rfl, rfl⟩
theorem fo_69 : p_flP ("HutAnswers$Reader", 31, 5, 2) := Or.inl ⟨_, rfl, by decide, p_wi (p_t1 (List.mem_of_getElem? (i := 100) rfl)) rfl, rfl⟩
theorem fo_70 : p_flP ("HutAnswers$Reader", 32, 5, 3) := Or.inl ⟨_, rfl, by decide, p_wi (p_t1 (List.mem_of_getElem? (i := 101) rfl)) rfl, rfl⟩
theorem fo_71 : p_flP ("HutAnswers$Reader", 36, 5, 5) := Or.inl ⟨_, rfl, by decide, p_wi (p_t1 (List.mem_of_getElem? (i := 103) rfl)) rfl, rfl⟩
theorem fo_72 : p_flP ("HutAnswers$Reader", 39, 5, 6) := Or.inl ⟨_, rfl, by decide, p_wi (p_t1 (List.mem_of_getElem? (i := 104) rfl)) rfl, rfl⟩
theorem fo_73 : p_flP ("HutAnswers$Reader", 42, 7, 0) := Or.inl ⟨_, rfl, by decide, p_wi (p_t1 (List.mem_of_getElem? (i := 58) rfl)) rfl, rfl⟩
theorem fo_74 : p_flP ("HutAnswers$Reader", 45, 7, 6) := Or.inl ⟨_, rfl, by decide, p_wi (p_t1 (List.mem_of_getElem? (i := 73) rfl)) rfl, rfl⟩
theorem fo_75 : p_flP ("HutAnswers$Reader", 55, 5, 4) := Or.inl ⟨_, rfl, by decide, p_wi (p_t1 (List.mem_of_getElem? (i := 102) rfl)) rfl, rfl⟩
theorem fo_76 : p_flP ("HutAnswers$Tape", 9, 6, 0) := Or.inl ⟨_, rfl, by decide, p_wi (p_t1 (List.mem_of_getElem? (i := 33) rfl)) rfl, rfl⟩
theorem fo_77 : p_flP ("HutAnswers$Tape", 15, 6, 1) := Or.inl ⟨_, rfl, by decide, p_wi (p_t1 (List.mem_of_getElem? (i := 36) rfl)) rfl, rfl⟩
theorem fo_78 : p_flP ("HutAnswers$Text", 7, 7, 1) := Or.inl ⟨_, rfl, by decide, p_wi (p_t1 (List.mem_of_getElem? (i := 61) rfl)) rfl, rfl⟩
theorem fo_79 : p_flP ("HutAnswers$Text", 13, 7, 2) := Or.inl ⟨_, rfl, by decide, p_wi (p_t1 (List.mem_of_getElem? (i := 64) rfl)) rfl, rfl⟩
theorem fo_80 : p_flP ("HutAnswers$Text", 16, 7, 3) := Or.inl ⟨_, rfl, by decide, p_wi (p_t1 (List.mem_of_getElem? (i := 66) rfl)) rfl, rfl⟩
theorem fo_81 : p_flP ("HutAnswers$Text", 19, 7, 4) := Or.inl ⟨_, rfl, by decide, p_wi (p_t1 (List.mem_of_getElem? (i := 68) rfl)) rfl, rfl⟩
theorem fo_82 : p_flP ("HutAnswers$Text", 22, 7, 5) := Or.inl ⟨_, rfl, by decide, p_wi (p_t1 (List.mem_of_getElem? (i := 70) rfl)) rfl, rfl⟩
theorem fo_83 : p_flP ("HutAnswers$Text", 25, 7, 7) := Or.inl ⟨_, rfl, by decide, p_wi (p_t1 (List.mem_of_getElem? (i := 74) rfl)) rfl, rfl⟩
theorem fo_84 : p_flP ("HutAnswers$Text", 28, 7, 8) := Or.inl ⟨_, rfl, by decide, p_wi (p_t1 (List.mem_of_getElem? (i := 76) rfl)) rfl, rfl⟩
theorem fo_85 : p_flP ("HutAnswers$Text", 31, 7, 0) := Or.inl ⟨_, rfl, by decide, p_wi (p_t1 (List.mem_of_getElem? (i := 57) rfl)) rfl, rfl⟩
theorem fo_86 : p_flP ("HutAnswers$Text", 35, 7, 6) := Or.inl ⟨_, rfl, by decide, p_wi (p_t1 (List.mem_of_getElem? (i := 72) rfl)) rfl, rfl⟩
theorem fo_87 : p_flP ("HutAnswers", 10, 8, 0) := Or.inl ⟨_, rfl, by decide, p_wi (p_t2 (List.mem_of_getElem? (i := 82) rfl)) rfl, rfl⟩
theorem fo_88 : p_flP ("HutAnswers", 19, 8, 1) := Or.inl ⟨_, rfl, by decide, p_wi (p_t2 (List.mem_of_getElem? (i := 83) rfl)) rfl, rfl⟩
theorem fo_89 : p_flP ("HutAnswers", 26, 8, 2) := Or.inl ⟨_, rfl, by decide, p_wi (p_t2 (List.mem_of_getElem? (i := 84) rfl)) rfl, rfl⟩
theorem fo_90 : p_flP ("HutAnswers", 33, 8, 3) := Or.inl ⟨_, rfl, by decide, p_wi (p_t2 (List.mem_of_getElem? (i := 85) rfl)) rfl, rfl⟩
theorem fo_91 : p_flP ("HutAnswers", 40, 8, 4) := Or.inl ⟨_, rfl, by decide, p_wi (p_t2 (List.mem_of_getElem? (i := 86) rfl)) rfl, rfl⟩
theorem fo_92 : p_flP ("HutAnswers", 47, 8, 5) := Or.inl ⟨_, rfl, by decide, p_wi (p_t2 (List.mem_of_getElem? (i := 87) rfl)) rfl, rfl⟩
theorem fo_93 : p_flP ("HutAnswers", 54, 8, 6) := Or.inl ⟨_, rfl, by decide, p_wi (p_t2 (List.mem_of_getElem? (i := 88) rfl)) rfl, rfl⟩
theorem fo_94 : p_flP ("HutAnswers", 58, 8, 7) := Or.inl ⟨_, rfl, by decide, p_wi (p_t2 (List.mem_of_getElem? (i := 89) rfl)) rfl, rfl⟩
theorem fo_95 : p_flP ("HutAnswers", 61, 8, 8) := Or.inl ⟨_, rfl, by decide, p_wi (p_t2 (List.mem_of_getElem? (i := 90) rfl)) rfl, rfl⟩
theorem fo_96 : p_flP ("HutAnswers", 64, 8, 9) := Or.inl ⟨_, rfl, by decide, p_wi (p_t2 (List.mem_of_getElem? (i := 91) rfl)) rfl, rfl⟩
theorem fo_97 : p_flP ("HutAnswers", 67, 8, 10) := Or.inl ⟨_, rfl, by decide, p_wi (p_t2 (List.mem_of_getElem? (i := 92) rfl)) rfl, rfl⟩
theorem fo_98 : p_flP ("HutAnswers", 71, 8, 11) := Or.inl ⟨_, rfl, by decide, p_wi (p_t2 (List.mem_of_getElem? (i := 93) rfl)) rfl, rfl⟩
theorem fo_99 : p_flP ("HutAnswers", 75, 8, 12) := Or.inl ⟨_, rfl, by decide, p_wi (p_t2 (List.mem_of_getElem? (i := 94) rfl)) rfl, rfl⟩
theorem fo_100 : p_flP ("HutAnswers", 79, 8, 13) := Or.inl ⟨_, rfl, by decide, p_wi (p_t2 (List.mem_of_getElem? (i := 95) rfl)) rfl, rfl⟩
theorem fo_101 : p_flP ("HutAnswers", 83, 8, 14) := Or.inl ⟨_, rfl, by decide, p_wi (p_t2 (List.mem_of_getElem? (i := 96) rfl)) rfl, rfl⟩
theorem fo_102 : p_flP ("HutAnswers", 87, 8, 15) := Or.inl ⟨_, rfl, by decide, p_wi (p_t2 (List.mem_of_getElem? (i := 97) rfl)) rfl, rfl⟩
theorem fo_103 : p_flP ("HutAnswers", 90, 8, 16) := Or.inl ⟨_, rfl, by decide, p_wi (p_t2 (List.mem_of_getElem? (i := 98) rfl)) rfl, rfl⟩
theorem fo_104 : p_flP ("HutAnswers", 93, 8, 17) := Or.inl ⟨_, rfl, by decide, p_wi (p_t2 (List.mem_of_getElem? (i := 99) rfl)) rfl, rfl⟩
theorem fo_105 : p_flP ("HutAnswers", 100, 1, 0) := Or.inl ⟨_, rfl, by decide, p_wi (p_t1 (List.mem_of_getElem? (i := 151) rfl)) rfl, rfl⟩
theorem fo_106 : p_flP ("HutAnswers", 116, 1, 2) := Or.inl ⟨_, rfl, by decide, p_wi (p_t1 (List.mem_of_getElem? (i := 155) rfl)) rfl, rfl⟩
theorem fo_107 : p_flP ("HutAnswers", 131, 1, 3) := Or.inl ⟨_, rfl, by decide, p_wi (p_t1 (List.mem_of_getElem? (i := 159) rfl)) rfl, rfl⟩
theorem fo_108 : p_flP ("HutAnswers", 134, 1, 4) := Or.inl ⟨_, rfl, by decide, p_wi (p_t1 (List.mem_of_getElem? (i := 162) rfl)) rfl, rfl⟩
theorem fo_109 : p_flP ("HutAnswers", 137, 1, 6) := Or.inl ⟨_, rfl, by decide, p_wi (p_t1 (List.mem_of_getElem? (i := 168) rfl)) rfl, rfl⟩
theorem fo_110 : p_flP ("HutAnswers", 159, 1, 10) := Or.inl ⟨_, rfl, by decide, p_wi (p_t1 (List.mem_of_getElem? (i := 183) rfl)) rfl, rfl⟩
theorem fo_111 : p_flP ("HutAnswers", 162, 1, 11) := Or.inl ⟨_, rfl, by decide, p_wi (p_t1 (List.mem_of_getElem? (i := 185) rfl)) rfl, rfl⟩
theorem fo_112 : p_flP ("HutAnswers", 168, 1, 12) := Or.inl ⟨_, rfl, by decide, p_wi (p_t1 (List.mem_of_getElem? (i := 189) rfl)) rfl, rfl⟩
theorem fo_113 : p_flP ("HutAnswers", 171, 6, 1) := Or.inl ⟨_, rfl, by decide, p_wi (p_t1 (List.mem_of_getElem? (i := 38) rfl)) rfl, rfl⟩
theorem fo_114 : p_flP ("HutAnswers", 181, 1, 13) := Or.inl ⟨_, rfl, by decide, p_wi (p_t1 (List.mem_of_getElem? (i := 192) rfl)) rfl, rfl⟩
theorem fo_115 : p_flP ("HutAnswers", 188, 1, 14) := Or.inl ⟨_, rfl, by decide, p_wi (p_t1 (List.mem_of_getElem? (i := 194) rfl)) rfl, rfl⟩
theorem fo_116 : p_flP ("HutAnswers", 192, 5, 0) := Or.inl ⟨_, rfl, by decide, p_wi (p_t1 (List.mem_of_getElem? (i := 98) rfl)) rfl, rfl⟩
theorem fo_117 : p_flP ("HutAnswers", 214, 1, 15) := Or.inl ⟨_, rfl, by decide, p_wi (p_t1 (List.mem_of_getElem? (i := 196) rfl)) rfl, rfl⟩
theorem fo_118 : p_flP ("HutAnswers", 227, 1, 8) := Or.inl ⟨_, rfl, by decide, p_wi (p_t1 (List.mem_of_getElem? (i := 177) rfl)) rfl, rfl⟩
theorem fo_119 : p_flP ("HutAnswers", 248, 3, 3) := Or.inl ⟨_, rfl, by decide, p_wi (p_t1 (List.mem_of_getElem? (i := 234) rfl)) rfl, rfl⟩
theorem fo_120 : p_flP ("HutAnswers", 251, 3, 5) := Or.inl ⟨_, rfl, by decide, p_wi (p_t1 (List.mem_of_getElem? (i := 238) rfl)) rfl, rfl⟩
theorem fo_121 : p_flP ("HutAnswers", 266, 3, 6) := Or.inl ⟨_, rfl, by decide, p_wi (p_t2 (List.mem_of_getElem? (i := 0) rfl)) rfl, rfl⟩
theorem fo_122 : p_flP ("HutAnswers", 281, 0, 0) := Or.inl ⟨_, rfl, by decide, p_wi (p_t2 (List.mem_of_getElem? (i := 58) rfl)) rfl, rfl⟩
theorem fo_123 : p_flP ("HutAnswers", 287, 1, 9) := Or.inl ⟨_, rfl, by decide, p_wi (p_t1 (List.mem_of_getElem? (i := 181) rfl)) rfl, rfl⟩
theorem fo_124 : p_flP ("HutAnswers", 293, 1, 7) := Or.inl ⟨_, rfl, by decide, p_wi (p_t1 (List.mem_of_getElem? (i := 172) rfl)) rfl, rfl⟩
theorem fo_125 : p_flP ("HutAnswers", 296, 4, 2) := Or.inl ⟨_, rfl, by decide, p_wi (p_t2 (List.mem_of_getElem? (i := 73) rfl)) rfl, rfl⟩
theorem fo_126 : p_flP ("HutAnswers", 299, 6, 0) := Or.inl ⟨_, rfl, by decide, p_wi (p_t1 (List.mem_of_getElem? (i := 35) rfl)) rfl, rfl⟩
theorem fo_127 : p_flP ("HutAnswers", 302, 7, 0) := Or.inl ⟨_, rfl, by decide, p_wi (p_t1 (List.mem_of_getElem? (i := 60) rfl)) rfl, rfl⟩
theorem fo_128 : p_flP ("HutAnswers", 305, 7, 2) := Or.inl ⟨_, rfl, by decide, p_wi (p_t1 (List.mem_of_getElem? (i := 65) rfl)) rfl, rfl⟩
theorem fo_129 : p_flP ("HutAnswers", 320, 7, 1) := Or.inl ⟨_, rfl, by decide, p_wi (p_t1 (List.mem_of_getElem? (i := 63) rfl)) rfl, rfl⟩
theorem fo_130 : p_flP ("HutAnswers", 336, 3, 4) := Or.inl ⟨_, rfl, by decide, p_wi (p_t1 (List.mem_of_getElem? (i := 236) rfl)) rfl, rfl⟩
theorem fo_131 : p_flP ("HutAnswersModel", 3, 9, 0) := Or.inl ⟨_, rfl, by decide, p_wi (p_t5 (List.mem_of_getElem? (i := 12) rfl)) rfl, rfl⟩
theorem fo_132 : p_flP ("HutAnswersModel", 7, 9, 1) := Or.inl ⟨_, rfl, by decide, p_wi (p_t5 (List.mem_of_getElem? (i := 13) rfl)) rfl, rfl⟩
theorem fo_133 : p_flP ("HutAnswersModel", 11, 9, 31) := Or.inl ⟨_, rfl, by decide, p_wi (p_t5 (List.mem_of_getElem? (i := 43) rfl)) rfl, rfl⟩
theorem fo_134 : p_flP ("HutAnswersModel", 24, 9, 2) := Or.inl ⟨_, rfl, by decide, p_wi (p_t5 (List.mem_of_getElem? (i := 14) rfl)) rfl, rfl⟩
theorem fo_135 : p_flP ("HutAnswersModel", 27, 9, 3) := Or.inl ⟨_, rfl, by decide, p_wi (p_t5 (List.mem_of_getElem? (i := 15) rfl)) rfl, rfl⟩
theorem fo_136 : p_flP ("HutAnswersModel", 30, 9, 4) := Or.inl ⟨_, rfl, by decide, p_wi (p_t5 (List.mem_of_getElem? (i := 16) rfl)) rfl, rfl⟩
theorem fo_137 : p_flP ("HutAnswersModel", 34, 9, 5) := Or.inl ⟨_, rfl, by decide, p_wi (p_t5 (List.mem_of_getElem? (i := 17) rfl)) rfl, rfl⟩
theorem fo_138 : p_flP ("HutAnswersModel", 37, 9, 7) := Or.inl ⟨_, rfl, by decide, p_wi (p_t5 (List.mem_of_getElem? (i := 19) rfl)) rfl, rfl⟩
theorem fo_139 : p_flP ("HutAnswersModel", 41, 9, 11) := Or.inl ⟨_, rfl, by decide, p_wi (p_t5 (List.mem_of_getElem? (i := 23) rfl)) rfl, rfl⟩
theorem fo_140 : p_flP ("HutAnswersModel", 44, 9, 12) := Or.inl ⟨_, rfl, by decide, p_wi (p_t5 (List.mem_of_getElem? (i := 24) rfl)) rfl, rfl⟩
theorem fo_141 : p_flP ("HutAnswersModel", 47, 9, 14) := Or.inl ⟨_, rfl, by decide, p_wi (p_t5 (List.mem_of_getElem? (i := 26) rfl)) rfl, rfl⟩
theorem fo_142 : p_flP ("HutAnswersModel", 50, 9, 15) := Or.inl ⟨_, rfl, by decide, p_wi (p_t5 (List.mem_of_getElem? (i := 27) rfl)) rfl, rfl⟩
theorem fo_143 : p_flP ("HutAnswersModel", 53, 9, 16) := Or.inl ⟨_, rfl, by decide, p_wi (p_t5 (List.mem_of_getElem? (i := 28) rfl)) rfl, rfl⟩
theorem fo_144 : p_flP ("HutAnswersModel", 56, 9, 17) := Or.inl ⟨_, rfl, by decide, p_wi (p_t5 (List.mem_of_getElem? (i := 29) rfl)) rfl, rfl⟩
theorem fo_145 : p_flP ("HutAnswersModel", 59, 9, 26) := Or.inl ⟨_, rfl, by decide, p_wi (p_t5 (List.mem_of_getElem? (i := 38) rfl)) rfl, rfl⟩
theorem fo_146 : p_flP ("HutAnswersModel", 62, 9, 29) := Or.inl ⟨_, rfl, by decide, p_wi (p_t5 (List.mem_of_getElem? (i := 41) rfl)) rfl, rfl⟩
theorem fo_147 : p_flP ("HutAnswersModel", 65, 9, 30) := Or.inl ⟨_, rfl, by decide, p_wi (p_t5 (List.mem_of_getElem? (i := 42) rfl)) rfl, rfl⟩
theorem fo_148 : p_flP ("HutAnswersModel", 68, 9, 32) := Or.inl ⟨_, rfl, by decide, p_wi (p_t5 (List.mem_of_getElem? (i := 44) rfl)) rfl, rfl⟩
theorem fo_149 : p_flP ("HutAnswersModel", 71, 9, 34) := Or.inl ⟨_, rfl, by decide, p_wi (p_t5 (List.mem_of_getElem? (i := 46) rfl)) rfl, rfl⟩
theorem fo_150 : p_flP ("HutAnswersModel", 74, 9, 35) := Or.inl ⟨_, rfl, by decide, p_wi (p_t5 (List.mem_of_getElem? (i := 47) rfl)) rfl, rfl⟩
theorem fo_151 : p_flP ("HutAnswersModel", 77, 9, 37) := Or.inl ⟨_, rfl, by decide, p_wi (p_t5 (List.mem_of_getElem? (i := 49) rfl)) rfl, rfl⟩
theorem fo_152 : p_flP ("HutAnswersModel", 80, 9, 45) := Or.inl ⟨_, rfl, by decide, p_wi (p_t5 (List.mem_of_getElem? (i := 57) rfl)) rfl, rfl⟩
theorem fo_153 : p_flP ("HutAnswersModel", 83, 9, 46) := Or.inl ⟨_, rfl, by decide, p_wi (p_t5 (List.mem_of_getElem? (i := 58) rfl)) rfl, rfl⟩
theorem fo_154 : p_flP ("HutAnswersModel", 141, 9, 13) := Or.inl ⟨_, rfl, by decide, p_wi (p_t5 (List.mem_of_getElem? (i := 25) rfl)) rfl, rfl⟩
theorem fo_155 : p_flP ("HutAnswersModel", 144, 9, 6) := Or.inl ⟨_, rfl, by decide, p_wi (p_t5 (List.mem_of_getElem? (i := 18) rfl)) rfl, rfl⟩
theorem fo_156 : p_flP ("HutAnswersModel", 150, 9, 18) := Or.inl ⟨_, rfl, by decide, p_wi (p_t5 (List.mem_of_getElem? (i := 30) rfl)) rfl, rfl⟩
theorem fo_157 : p_flP ("HutAnswersModel", 163, 9, 21) := Or.inl ⟨_, rfl, by decide, p_wi (p_t5 (List.mem_of_getElem? (i := 33) rfl)) rfl, rfl⟩
theorem fo_158 : p_flP ("HutAnswersModel", 170, 9, 19) := Or.inl ⟨_, rfl, by decide, p_wi (p_t5 (List.mem_of_getElem? (i := 31) rfl)) rfl, rfl⟩
theorem fo_159 : p_flP ("HutAnswersModel", 179, 9, 20) := Or.inl ⟨_, rfl, by decide, p_wi (p_t5 (List.mem_of_getElem? (i := 32) rfl)) rfl, rfl⟩
theorem fo_160 : p_flP ("HutAnswersModel", 196, 9, 10) := Or.inl ⟨_, rfl, by decide, p_wi (p_t5 (List.mem_of_getElem? (i := 22) rfl)) rfl, rfl⟩
theorem fo_161 : p_flP ("HutAnswersModel", 222, 9, 8) := Or.inl ⟨_, rfl, by decide, p_wi (p_t5 (List.mem_of_getElem? (i := 20) rfl)) rfl, rfl⟩
theorem fo_162 : p_flP ("HutAnswersModel", 225, 9, 9) := Or.inl ⟨_, rfl, by decide, p_wi (p_t5 (List.mem_of_getElem? (i := 21) rfl)) rfl, rfl⟩
theorem fo_163 : p_flP ("HutAnswersModel", 250, 9, 23) := Or.inl ⟨_, rfl, by decide, p_wi (p_t5 (List.mem_of_getElem? (i := 35) rfl)) rfl, rfl⟩
theorem fo_164 : p_flP ("HutAnswersModel", 253, 9, 22) := Or.inl ⟨_, rfl, by decide, p_wi (p_t5 (List.mem_of_getElem? (i := 34) rfl)) rfl, rfl⟩
theorem fo_165 : p_flP ("HutAnswersModel", 263, 9, 24) := Or.inl ⟨_, rfl, by decide, p_wi (p_t5 (List.mem_of_getElem? (i := 36) rfl)) rfl, rfl⟩
theorem fo_166 : p_flP ("HutAnswersModel", 283, 9, 25) := Or.inl ⟨_, rfl, by decide, p_wi (p_t5 (List.mem_of_getElem? (i := 37) rfl)) rfl, rfl⟩
theorem fo_167 : p_flP ("HutAnswersModel", 289, 9, 27) := Or.inl ⟨_, rfl, by decide, p_wi (p_t5 (List.mem_of_getElem? (i := 39) rfl)) rfl, rfl⟩
theorem fo_168 : p_flP ("HutAnswersModel", 292, 9, 28) := Or.inl ⟨_, rfl, by decide, p_wi (p_t5 (List.mem_of_getElem? (i := 40) rfl)) rfl, rfl⟩
theorem fo_169 : p_flP ("HutAnswersModel", 377, 9, 33) := Or.inl ⟨_, rfl, by decide, p_wi (p_t5 (List.mem_of_getElem? (i := 45) rfl)) rfl, rfl⟩
theorem fo_170 : p_flP ("HutAnswersModel", 412, 9, 36) := Or.inl ⟨_, rfl, by decide, p_wi (p_t5 (List.mem_of_getElem? (i := 48) rfl)) rfl, rfl⟩
theorem fo_171 : p_flP ("HutAnswersModel", 445, 9, 44) := Or.inl ⟨_, rfl, by decide, p_wi (p_t5 (List.mem_of_getElem? (i := 56) rfl)) rfl, rfl⟩
theorem fo_172 : p_flP ("HutAnswersModel", 451, 9, 38) := Or.inl ⟨_, rfl, by decide, p_wi (p_t5 (List.mem_of_getElem? (i := 50) rfl)) rfl, rfl⟩
theorem fo_173 : p_flP ("HutAnswersModel", 460, 9, 40) := Or.inl ⟨_, rfl, by decide, p_wi (p_t5 (List.mem_of_getElem? (i := 52) rfl)) rfl, rfl⟩
theorem fo_174 : p_flP ("HutAnswersModel", 463, 9, 43) := Or.inl ⟨_, rfl, by decide, p_wi (p_t5 (List.mem_of_getElem? (i := 55) rfl)) rfl, rfl⟩
theorem fo_175 : p_flP ("HutAnswersModel", 467, 9, 41) := Or.inl ⟨_, rfl, by decide, p_wi (p_t5 (List.mem_of_getElem? (i := 53) rfl)) rfl, rfl⟩
theorem fo_176 : p_flP ("HutAnswersModel", 470, 9, 39) := Or.inl ⟨_, rfl, by decide, p_wi (p_t5 (List.mem_of_getElem? (i := 51) rfl)) rfl, rfl⟩
theorem fo_177 : p_flP ("HutAnswersModel", 473, 9, 42) := Or.inl ⟨_, rfl, by decide, p_wi (p_t5 (List.mem_of_getElem? (i := 54) rfl)) rfl, rfl⟩
theorem fo_178 : p_flP ("HutAnswersModel", 493, 9, 47) := Or.inl ⟨_, rfl, by decide, p_wi (p_t5 (List.mem_of_getElem? (i := 59) rfl)) rfl, rfl⟩
theorem fo_179 : p_flP ("java/lang/String", 9, 10, 0) := Or.inr ⟨rfl, Or.inl ⟨rfl, p_wi (p_t7 (List.mem_of_getElem? (i := 233) rfl)) rfl⟩⟩
theorem fo_180 : p_flP ("java/lang/String", 15, 10, 1) := Or.inr ⟨rfl, Or.inr ⟨rfl, p_wi (p_t7 (List.mem_of_getElem? (i := 234) rfl)) rfl⟩⟩
theorem mo_0 : p_mlP ("HutAnswers$Draws", 1, 9999, 0) := Or.inl ⟨rfl, p_wi (p_t2 (List.mem_of_getElem? (i := 56) rfl)) rfl⟩
theorem mo_1 : p_mlP ("HutAnswers$Hut", 3, 9999, 0) := Or.inl ⟨rfl, p_wi (p_t1 (List.mem_of_getElem? (i := 147) rfl)) rfl⟩
theorem mo_2 : p_mlP ("HutAnswers$Hut", 49, 9998, 1) := Or.inr (Or.inl ⟨rfl, p_wi (p_t3 (List.mem_of_getElem? (i := 174) rfl)) rfl⟩)
theorem mo_3 : p_mlP ("HutAnswers$Hut", 71, 11, 0) := Or.inr (Or.inr (Or.inr (Or.inr ⟨Nat.le_of_ble_eq_true rfl, mt_11, Or.inl ⟨rfl, p_wi (p_t2 (List.mem_of_getElem? (i := 154) rfl)) rfl, mi_11, mz_11⟩⟩)))
theorem mo_4 : p_mlP ("HutAnswers$Hut", 75, 9, 0) := Or.inr (Or.inr (Or.inr (Or.inr ⟨Nat.le_of_ble_eq_true rfl, mt_9, Or.inl ⟨rfl, p_wi (p_t2 (List.mem_of_getElem? (i := 200) rfl)) rfl, mi_9, mz_9⟩⟩)))
theorem mo_5 : p_mlP ("HutAnswers$Hut", 79, 266, 1) := Or.inr (Or.inr (Or.inr (Or.inr ⟨Nat.le_of_ble_eq_true rfl, mt_266, Or.inr (Or.inl ⟨rfl, p_wi (p_t4 (List.mem_of_getElem? (i := 11) rfl)) rfl, ms_266⟩)⟩)))
theorem mo_6 : p_mlP ("HutAnswers$Hut", 85, 14, 0) := Or.inr (Or.inr (Or.inr (Or.inr ⟨Nat.le_of_ble_eq_true rfl, mt_14, Or.inl ⟨rfl, p_wi (p_t3 (List.mem_of_getElem? (i := 221) rfl)) rfl, mi_14, mz_14⟩⟩)))
theorem mo_7 : p_mlP ("HutAnswers$Hut", 89, 19, 0) := Or.inr (Or.inr (Or.inr (Or.inr ⟨Nat.le_of_ble_eq_true rfl, mt_19, Or.inl ⟨rfl, p_wi (p_t3 (List.mem_of_getElem? (i := 210) rfl)) rfl, mi_19, mz_19⟩⟩)))
theorem mo_8 : p_mlP ("HutAnswers$Hut", 93, 20, 0) := Or.inr (Or.inr (Or.inr (Or.inr ⟨Nat.le_of_ble_eq_true rfl, mt_20, Or.inl ⟨rfl, p_wi (p_t3 (List.mem_of_getElem? (i := 229) rfl)) rfl, mi_20, mz_20⟩⟩)))
theorem mo_9 : p_mlP ("HutAnswers$Hut", 96, 21, 0) := Or.inr (Or.inr (Or.inr (Or.inr ⟨Nat.le_of_ble_eq_true rfl, mt_21, Or.inl ⟨rfl, p_wi (p_t3 (List.mem_of_getElem? (i := 233) rfl)) rfl, mi_21, mz_21⟩⟩)))
theorem mo_10 : p_mlP ("HutAnswers$Hut", 99, 22, 0) := Or.inr (Or.inr (Or.inr (Or.inr ⟨Nat.le_of_ble_eq_true rfl, mt_22, Or.inl ⟨rfl, p_wi (p_t4 (List.mem_of_getElem? (i := 0) rfl)) rfl, mi_22, mz_22⟩⟩)))
theorem mo_11 : p_mlP ("HutAnswers$Hut", 102, 8, 0) := Or.inr (Or.inr (Or.inr (Or.inr ⟨Nat.le_of_ble_eq_true rfl, mt_8, Or.inl ⟨rfl, p_wi (p_t3 (List.mem_of_getElem? (i := 214) rfl)) rfl, mi_8, mz_8⟩⟩)))
theorem mo_12 : p_mlP ("HutAnswers$Hut", 105, 10, 0) := Or.inr (Or.inr (Or.inr (Or.inr ⟨Nat.le_of_ble_eq_true rfl, mt_10, Or.inl ⟨rfl, p_wi (p_t3 (List.mem_of_getElem? (i := 215) rfl)) rfl, mi_10, mz_10⟩⟩)))
theorem mo_13 : p_mlP ("HutAnswers$Hut", 109, 24, 0) := Or.inr (Or.inr (Or.inr (Or.inr ⟨Nat.le_of_ble_eq_true rfl, mt_24, Or.inl ⟨rfl, p_wi (p_t3 (List.mem_of_getElem? (i := 216) rfl)) rfl, mi_24, mz_24⟩⟩)))
theorem mo_14 : p_mlP ("HutAnswers$Hut", 115, 27, 0) := Or.inr (Or.inr (Or.inr (Or.inr ⟨Nat.le_of_ble_eq_true rfl, mt_27, Or.inl ⟨rfl, p_wi (p_t3 (List.mem_of_getElem? (i := 217) rfl)) rfl, mi_27, mz_27⟩⟩)))
theorem mo_15 : p_mlP ("HutAnswers$Hut", 119, 7, 0) := Or.inr (Or.inr (Or.inr (Or.inr ⟨Nat.le_of_ble_eq_true rfl, mt_7, Or.inl ⟨rfl, p_wi (p_t3 (List.mem_of_getElem? (i := 218) rfl)) rfl, mi_7, mz_7⟩⟩)))
theorem mo_16 : p_mlP ("HutAnswers$Hut", 122, 28, 0) := Or.inr (Or.inr (Or.inr (Or.inr ⟨Nat.le_of_ble_eq_true rfl, mt_28, Or.inl ⟨rfl, p_wi (p_t3 (List.mem_of_getElem? (i := 219) rfl)) rfl, mi_28, mz_28⟩⟩)))
theorem mo_17 : p_mlP ("HutAnswers$Hut", 129, 15, 0) := Or.inr (Or.inr (Or.inr (Or.inr ⟨Nat.le_of_ble_eq_true rfl, mt_15, Or.inl ⟨rfl, p_wi (p_t3 (List.mem_of_getElem? (i := 222) rfl)) rfl, mi_15, mz_15⟩⟩)))
theorem mo_18 : p_mlP ("HutAnswers$Hut", 132, 9996, 1) := Or.inr (Or.inr (Or.inr (Or.inl ⟨rfl, p_wi (p_t3 (List.mem_of_getElem? (i := 226) rfl)) rfl⟩)))
theorem mo_19 : p_mlP ("HutAnswers$Hut", 137, 9997, 1) := Or.inr (Or.inr (Or.inl ⟨rfl, p_wi (p_t3 (List.mem_of_getElem? (i := 237) rfl)) rfl⟩))
theorem mo_20 : p_mlP ("HutAnswers$Hut", 140, 280, 1) := Or.inr (Or.inr (Or.inr (Or.inr ⟨Nat.le_of_ble_eq_true rfl, mt_280, Or.inr (Or.inl ⟨rfl, p_wi (p_t4 (List.mem_of_getElem? (i := 4) rfl)) rfl, ms_280⟩)⟩)))
theorem mo_21 : p_mlP ("HutAnswers$Hut", 146, 12, 0) := Or.inr (Or.inr (Or.inr (Or.inr ⟨Nat.le_of_ble_eq_true rfl, mt_12, Or.inl ⟨rfl, p_wi (p_t4 (List.mem_of_getElem? (i := 7) rfl)) rfl, mi_12, mz_12⟩⟩)))
theorem mo_22 : p_mlP ("HutAnswers$Judge", 3, 9999, 0) := Or.inl ⟨rfl, p_wi (p_t1 (List.mem_of_getElem? (i := 125) rfl)) rfl⟩
theorem mo_23 : p_mlP ("HutAnswers$Judge", 18, 26, 0) := Or.inr (Or.inr (Or.inr (Or.inr ⟨Nat.le_of_ble_eq_true rfl, mt_26, Or.inl ⟨rfl, p_wi (p_t2 (List.mem_of_getElem? (i := 186) rfl)) rfl, mi_26, mz_26⟩⟩)))
theorem mo_24 : p_mlP ("HutAnswers$Judge", 36, 8, 0) := Or.inr (Or.inr (Or.inr (Or.inr ⟨Nat.le_of_ble_eq_true rfl, mt_8, Or.inl ⟨rfl, p_wi (p_t3 (List.mem_of_getElem? (i := 188) rfl)) rfl, mi_8, mz_8⟩⟩)))
theorem mo_25 : p_mlP ("HutAnswers$Judge", 47, 266, 1) := Or.inr (Or.inr (Or.inr (Or.inr ⟨Nat.le_of_ble_eq_true rfl, mt_266, Or.inr (Or.inl ⟨rfl, p_wi (p_t2 (List.mem_of_getElem? (i := 190) rfl)) rfl, ms_266⟩)⟩)))
theorem mo_26 : p_mlP ("HutAnswers$Judge", 67, 31, 0) := Or.inr (Or.inr (Or.inr (Or.inr ⟨Nat.le_of_ble_eq_true rfl, mt_31, Or.inl ⟨rfl, p_wi (p_t2 (List.mem_of_getElem? (i := 208) rfl)) rfl, mi_31, mz_31⟩⟩)))
theorem mo_27 : p_mlP ("HutAnswers$Judge", 81, 32, 1) := Or.inr (Or.inr (Or.inr (Or.inr ⟨Nat.le_of_ble_eq_true rfl, mt_32, Or.inr (Or.inl ⟨rfl, p_wi (p_t2 (List.mem_of_getElem? (i := 213) rfl)) rfl, ms_32⟩)⟩)))
theorem mo_28 : p_mlP ("HutAnswers$Paper", 5, 9999, 0) := Or.inl ⟨rfl, p_wi (p_t1 (List.mem_of_getElem? (i := 139) rfl)) rfl⟩
theorem mo_29 : p_mlP ("HutAnswers$Paper", 13, 23, 3) := Or.inr (Or.inr (Or.inr (Or.inr ⟨Nat.le_of_ble_eq_true rfl, mt_23, Or.inr (Or.inr (Or.inr ⟨rfl, (p_t1 (List.mem_of_getElem? (i := 141) rfl)), mi_23, by decide +kernel, by decide +kernel⟩))⟩)))
theorem mo_30 : p_mlP ("HutAnswers$Paper", 20, 2, 3) := Or.inr (Or.inr (Or.inr (Or.inr ⟨Nat.le_of_ble_eq_true rfl, mt_2, Or.inr (Or.inr (Or.inr ⟨rfl, (p_t1 (List.mem_of_getElem? (i := 144) rfl)), mi_2, by decide +kernel, by decide +kernel⟩))⟩)))
theorem mo_31 : p_mlP ("HutAnswers$Paper", 59, 28, 0) := Or.inr (Or.inr (Or.inr (Or.inr ⟨Nat.le_of_ble_eq_true rfl, mt_28, Or.inl ⟨rfl, p_wi (p_t4 (List.mem_of_getElem? (i := 106) rfl)) rfl, mi_28, mz_28⟩⟩)))
theorem mo_32 : p_mlP ("HutAnswers$Paper", 63, 27, 0) := Or.inr (Or.inr (Or.inr (Or.inr ⟨Nat.le_of_ble_eq_true rfl, mt_27, Or.inl ⟨rfl, p_wi (p_t4 (List.mem_of_getElem? (i := 107) rfl)) rfl, mi_27, mz_27⟩⟩)))
theorem mo_33 : p_mlP ("HutAnswers$Paper", 67, 34, 0) := Or.inr (Or.inr (Or.inr (Or.inr ⟨Nat.le_of_ble_eq_true rfl, mt_34, Or.inl ⟨rfl, p_wi (p_t4 (List.mem_of_getElem? (i := 88) rfl)) rfl, mi_34, mz_34⟩⟩)))
theorem mo_34 : p_mlP ("HutAnswers$Paper", 81, 37, 1) := Or.inr (Or.inr (Or.inr (Or.inr ⟨Nat.le_of_ble_eq_true rfl, mt_37, Or.inr (Or.inl ⟨rfl, p_wi (p_t4 (List.mem_of_getElem? (i := 92) rfl)) rfl, ms_37⟩)⟩)))
theorem mo_35 : p_mlP ("HutAnswers$Paper", 85, 38, 0) := Or.inr (Or.inr (Or.inr (Or.inr ⟨Nat.le_of_ble_eq_true rfl, mt_38, Or.inl ⟨rfl, p_wi (p_t4 (List.mem_of_getElem? (i := 96) rfl)) rfl, mi_38, mz_38⟩⟩)))
theorem mo_36 : p_mlP ("HutAnswers$Paper", 89, 39, 0) := Or.inr (Or.inr (Or.inr (Or.inr ⟨Nat.le_of_ble_eq_true rfl, mt_39, Or.inl ⟨rfl, p_wi (p_t4 (List.mem_of_getElem? (i := 109) rfl)) rfl, mi_39, mz_39⟩⟩)))
theorem mo_37 : p_mlP ("HutAnswers$Paper", 93, 266, 1) := Or.inr (Or.inr (Or.inr (Or.inr ⟨Nat.le_of_ble_eq_true rfl, mt_266, Or.inr (Or.inl ⟨rfl, p_wi (p_t4 (List.mem_of_getElem? (i := 95) rfl)) rfl, ms_266⟩)⟩)))
theorem mo_38 : p_mlP ("HutAnswers$Paper", 102, 24, 0) := Or.inr (Or.inr (Or.inr (Or.inr ⟨Nat.le_of_ble_eq_true rfl, mt_24, Or.inl ⟨rfl, p_wi (p_t4 (List.mem_of_getElem? (i := 100) rfl)) rfl, mi_24, mz_24⟩⟩)))
theorem mo_39 : p_mlP ("HutAnswers$Paper", 106, 12, 0) := Or.inr (Or.inr (Or.inr (Or.inr ⟨Nat.le_of_ble_eq_true rfl, mt_12, Or.inl ⟨rfl, p_wi (p_t4 (List.mem_of_getElem? (i := 101) rfl)) rfl, mi_12, mz_12⟩⟩)))
theorem mo_40 : p_mlP ("HutAnswers$Paper", 116, 35, 0) := Or.inr (Or.inr (Or.inr (Or.inr ⟨Nat.le_of_ble_eq_true rfl, mt_35, Or.inl ⟨rfl, p_wi (p_t4 (List.mem_of_getElem? (i := 102) rfl)) rfl, mi_35, mz_35⟩⟩)))
theorem mo_41 : p_mlP ("HutAnswers$Paper", 119, 15, 0) := Or.inr (Or.inr (Or.inr (Or.inr ⟨Nat.le_of_ble_eq_true rfl, mt_15, Or.inl ⟨rfl, p_wi (p_t4 (List.mem_of_getElem? (i := 108) rfl)) rfl, mi_15, mz_15⟩⟩)))
theorem mo_42 : p_mlP ("HutAnswers$Paper", 123, 16, 0) := Or.inr (Or.inr (Or.inr (Or.inr ⟨Nat.le_of_ble_eq_true rfl, mt_16, Or.inl ⟨rfl, p_wi (p_t4 (List.mem_of_getElem? (i := 113) rfl)) rfl, mi_16, mz_16⟩⟩)))
theorem mo_43 : p_mlP ("HutAnswers$Paper", 126, 40, 0) := Or.inr (Or.inr (Or.inr (Or.inr ⟨Nat.le_of_ble_eq_true rfl, mt_40, Or.inl ⟨rfl, p_wi (p_t4 (List.mem_of_getElem? (i := 114) rfl)) rfl, mi_40, mz_40⟩⟩)))
theorem mo_44 : p_mlP ("HutAnswers$Paper", 130, 9997, 1) := Or.inr (Or.inr (Or.inl ⟨rfl, p_wi (p_t4 (List.mem_of_getElem? (i := 118) rfl)) rfl⟩))
theorem mo_45 : p_mlP ("HutAnswers$Paper", 135, 10, 0) := Or.inr (Or.inr (Or.inr (Or.inr ⟨Nat.le_of_ble_eq_true rfl, mt_10, Or.inl ⟨rfl, p_wi (p_t4 (List.mem_of_getElem? (i := 131) rfl)) rfl, mi_10, mz_10⟩⟩)))
theorem mo_46 : p_mlP ("HutAnswers$Paper", 139, 44, 0) := Or.inr (Or.inr (Or.inr (Or.inr ⟨Nat.le_of_ble_eq_true rfl, mt_44, Or.inl ⟨rfl, p_wi (p_t4 (List.mem_of_getElem? (i := 132) rfl)) rfl, mi_44, mz_44⟩⟩)))
theorem mo_47 : p_mlP ("HutAnswers$Paper", 142, 43, 0) := Or.inr (Or.inr (Or.inr (Or.inr ⟨Nat.le_of_ble_eq_true rfl, mt_43, Or.inl ⟨rfl, p_wi (p_t4 (List.mem_of_getElem? (i := 138) rfl)) rfl, mi_43, mz_43⟩⟩)))
theorem mo_48 : p_mlP ("HutAnswers$Paper", 145, 42, 0) := Or.inr (Or.inr (Or.inr (Or.inr ⟨Nat.le_of_ble_eq_true rfl, mt_42, Or.inl ⟨rfl, p_wi (p_t4 (List.mem_of_getElem? (i := 142) rfl)) rfl, mi_42, mz_42⟩⟩)))
theorem mo_49 : p_mlP ("HutAnswers$Paper", 154, 11, 0) := Or.inr (Or.inr (Or.inr (Or.inr ⟨Nat.le_of_ble_eq_true rfl, mt_11, Or.inl ⟨rfl, p_wi (p_t4 (List.mem_of_getElem? (i := 136) rfl)) rfl, mi_11, mz_11⟩⟩)))
theorem mo_50 : p_mlP ("HutAnswers$Paper", 157, 14, 0) := Or.inr (Or.inr (Or.inr (Or.inr ⟨Nat.le_of_ble_eq_true rfl, mt_14, Or.inl ⟨rfl, p_wi (p_t4 (List.mem_of_getElem? (i := 137) rfl)) rfl, mi_14, mz_14⟩⟩)))
theorem mo_51 : p_mlP ("HutAnswers$Paper", 163, 279, 1) := Or.inr (Or.inr (Or.inr (Or.inr ⟨Nat.le_of_ble_eq_true rfl, mt_279, Or.inr (Or.inl ⟨rfl, p_wi (p_t4 (List.mem_of_getElem? (i := 163) rfl)) rfl, ms_279⟩)⟩)))
theorem mo_52 : p_mlP ("HutAnswers$Paper", 169, 281, 1) := Or.inr (Or.inr (Or.inr (Or.inr ⟨Nat.le_of_ble_eq_true rfl, mt_281, Or.inr (Or.inl ⟨rfl, p_wi (p_t4 (List.mem_of_getElem? (i := 166) rfl)) rfl, ms_281⟩)⟩)))
theorem mo_53 : p_mlP ("HutAnswers$Paper", 172, 46, 0) := Or.inr (Or.inr (Or.inr (Or.inr ⟨Nat.le_of_ble_eq_true rfl, mt_46, Or.inl ⟨rfl, p_wi (p_t4 (List.mem_of_getElem? (i := 169) rfl)) rfl, mi_46, mz_46⟩⟩)))
theorem mo_54 : p_mlP ("HutAnswers$Paper", 176, 48, 0) := Or.inr (Or.inr (Or.inr (Or.inr ⟨Nat.le_of_ble_eq_true rfl, mt_48, Or.inl ⟨rfl, p_wi (p_t4 (List.mem_of_getElem? (i := 173) rfl)) rfl, mi_48, mz_48⟩⟩)))
theorem mo_55 : p_mlP ("HutAnswers$Paper", 179, 9998, 1) := Or.inr (Or.inl ⟨rfl, p_wi (p_t4 (List.mem_of_getElem? (i := 177) rfl)) rfl⟩)
theorem mo_56 : p_mlP ("HutAnswers$Paper", 185, 47, 0) := Or.inr (Or.inr (Or.inr (Or.inr ⟨Nat.le_of_ble_eq_true rfl, mt_47, Or.inl ⟨rfl, p_wi (p_t4 (List.mem_of_getElem? (i := 178) rfl)) rfl, mi_47, mz_47⟩⟩)))
theorem mo_57 : p_mlP ("HutAnswers$Paper", 200, 280, 1) := Or.inr (Or.inr (Or.inr (Or.inr ⟨Nat.le_of_ble_eq_true rfl, mt_280, Or.inr (Or.inl ⟨rfl, p_wi (p_t4 (List.mem_of_getElem? (i := 191) rfl)) rfl, ms_280⟩)⟩)))
theorem mo_58 : p_mlP ("HutAnswers$Paper", 203, 50, 0) := Or.inr (Or.inr (Or.inr (Or.inr ⟨Nat.le_of_ble_eq_true rfl, mt_50, Or.inl ⟨rfl, p_wi (p_t4 (List.mem_of_getElem? (i := 192) rfl)) rfl, mi_50, mz_50⟩⟩)))
theorem mo_59 : p_mlP ("HutAnswers$Paper", 209, 9996, 1) := Or.inr (Or.inr (Or.inr (Or.inl ⟨rfl, p_wi (p_t4 (List.mem_of_getElem? (i := 196) rfl)) rfl⟩)))
theorem mo_60 : p_mlP ("HutAnswers$Past", 3, 9999, 0) := Or.inl ⟨rfl, p_wi (p_t2 (List.mem_of_getElem? (i := 69) rfl)) rfl⟩
theorem mo_61 : p_mlP ("HutAnswers$Past", 15, 9998, 1) := Or.inr (Or.inl ⟨rfl, p_wi (p_t3 (List.mem_of_getElem? (i := 179) rfl)) rfl⟩)
theorem mo_62 : p_mlP ("HutAnswers$Past", 45, 9996, 1) := Or.inr (Or.inr (Or.inr (Or.inl ⟨rfl, p_wi (p_t4 (List.mem_of_getElem? (i := 16) rfl)) rfl⟩)))
theorem mo_63 : p_mlP ("HutAnswers$Reader", 3, 9999, 0) := Or.inl ⟨rfl, p_wi (p_t1 (List.mem_of_getElem? (i := 50) rfl)) rfl⟩
theorem mo_64 : p_mlP ("HutAnswers$Reader", 11, 75, 2) := Or.inr (Or.inr (Or.inr (Or.inr ⟨Nat.le_of_ble_eq_true rfl, mt_75, Or.inr (Or.inr (Or.inl ⟨rfl, p_wi (p_t1 (List.mem_of_getElem? (i := 53) rfl)) rfl, mi_75, by decide +kernel, by decide +kernel⟩))⟩)))
theorem mo_65 : p_mlP ("HutAnswers$Reader", 48, 72, 0) := Or.inr (Or.inr (Or.inr (Or.inr ⟨Nat.le_of_ble_eq_true rfl, mt_72, Or.inl ⟨rfl, p_wi (p_t3 (List.mem_of_getElem? (i := 32) rfl)) rfl, mi_72, mz_72⟩⟩)))
theorem mo_66 : p_mlP ("HutAnswers$Reader", 51, 59, 0) := Or.inr (Or.inr (Or.inr (Or.inr ⟨Nat.le_of_ble_eq_true rfl, mt_59, Or.inl ⟨rfl, p_wi (p_t3 (List.mem_of_getElem? (i := 36) rfl)) rfl, mi_59, mz_59⟩⟩)))
theorem mo_67 : p_mlP ("HutAnswers$Reader", 58, 69, 0) := Or.inr (Or.inr (Or.inr (Or.inr ⟨Nat.le_of_ble_eq_true rfl, mt_69, Or.inl ⟨rfl, p_wi (p_t3 (List.mem_of_getElem? (i := 106) rfl)) rfl, mi_69, mz_69⟩⟩)))
theorem mo_68 : p_mlP ("HutAnswers$Reader", 66, 71, 0) := Or.inr (Or.inr (Or.inr (Or.inr ⟨Nat.le_of_ble_eq_true rfl, mt_71, Or.inl ⟨rfl, p_wi (p_t3 (List.mem_of_getElem? (i := 42) rfl)) rfl, mi_71, mz_71⟩⟩)))
theorem mo_69 : p_mlP ("HutAnswers$Reader", 70, 64, 0) := Or.inr (Or.inr (Or.inr (Or.inr ⟨Nat.le_of_ble_eq_true rfl, mt_64, Or.inl ⟨rfl, p_wi (p_t3 (List.mem_of_getElem? (i := 94) rfl)) rfl, mi_64, mz_64⟩⟩)))
theorem mo_70 : p_mlP ("HutAnswers$Reader", 76, 70, 0) := Or.inr (Or.inr (Or.inr (Or.inr ⟨Nat.le_of_ble_eq_true rfl, mt_70, Or.inl ⟨rfl, p_wi (p_t3 (List.mem_of_getElem? (i := 125) rfl)) rfl, mi_70, mz_70⟩⟩)))
theorem mo_71 : p_mlP ("HutAnswers$Reader", 80, 67, 0) := Or.inr (Or.inr (Or.inr (Or.inr ⟨Nat.le_of_ble_eq_true rfl, mt_67, Or.inl ⟨rfl, p_wi (p_t3 (List.mem_of_getElem? (i := 110) rfl)) rfl, mi_67, mz_67⟩⟩)))
theorem mo_72 : p_mlP ("HutAnswers$Reader", 86, 60, 0) := Or.inr (Or.inr (Or.inr (Or.inr ⟨Nat.le_of_ble_eq_true rfl, mt_60, Or.inl ⟨rfl, p_wi (p_t3 (List.mem_of_getElem? (i := 130) rfl)) rfl, mi_60, mz_60⟩⟩)))
theorem mo_73 : p_mlP ("HutAnswers$Reader", 89, 79, 0) := Or.inr (Or.inr (Or.inr (Or.inr ⟨Nat.le_of_ble_eq_true rfl, mt_79, Or.inl ⟨rfl, p_wi (p_t3 (List.mem_of_getElem? (i := 153) rfl)) rfl, mi_79, mz_79⟩⟩)))
theorem mo_74 : p_mlP ("HutAnswers$Reader", 93, 61, 0) := Or.inr (Or.inr (Or.inr (Or.inr ⟨Nat.le_of_ble_eq_true rfl, mt_61, Or.inl ⟨rfl, p_wi (p_t3 (List.mem_of_getElem? (i := 134) rfl)) rfl, mi_61, mz_61⟩⟩)))
theorem mo_75 : p_mlP ("HutAnswers$Reader", 96, 78, 0) := Or.inr (Or.inr (Or.inr (Or.inr ⟨Nat.le_of_ble_eq_true rfl, mt_78, Or.inl ⟨rfl, p_wi (p_t3 (List.mem_of_getElem? (i := 147) rfl)) rfl, mi_78, mz_78⟩⟩)))
theorem mo_76 : p_mlP ("HutAnswers$Reader", 104, 77, 0) := Or.inr (Or.inr (Or.inr (Or.inr ⟨Nat.le_of_ble_eq_true rfl, mt_77, Or.inl ⟨rfl, p_wi (p_t3 (List.mem_of_getElem? (i := 116) rfl)) rfl, mi_77, mz_77⟩⟩)))
theorem mo_77 : p_mlP ("HutAnswers$Reader", 112, 68, 0) := Or.inr (Or.inr (Or.inr (Or.inr ⟨Nat.le_of_ble_eq_true rfl, mt_68, Or.inl ⟨rfl, p_wi (p_t3 (List.mem_of_getElem? (i := 102) rfl)) rfl, mi_68, mz_68⟩⟩)))
theorem mo_78 : p_mlP ("HutAnswers$Reader", 115, 62, 0) := Or.inr (Or.inr (Or.inr (Or.inr ⟨Nat.le_of_ble_eq_true rfl, mt_62, Or.inl ⟨rfl, p_wi (p_t3 (List.mem_of_getElem? (i := 139) rfl)) rfl, mi_62, mz_62⟩⟩)))
theorem mo_79 : p_mlP ("HutAnswers$Reader", 118, 63, 0) := Or.inr (Or.inr (Or.inr (Or.inr ⟨Nat.le_of_ble_eq_true rfl, mt_63, Or.inl ⟨rfl, p_wi (p_t3 (List.mem_of_getElem? (i := 143) rfl)) rfl, mi_63, mz_63⟩⟩)))
theorem mo_80 : p_mlP ("HutAnswers$Reader", 121, 65, 0) := Or.inr (Or.inr (Or.inr (Or.inr ⟨Nat.le_of_ble_eq_true rfl, mt_65, Or.inl ⟨rfl, p_wi (p_t3 (List.mem_of_getElem? (i := 98) rfl)) rfl, mi_65, mz_65⟩⟩)))
theorem mo_81 : p_mlP ("HutAnswers$Reader", 128, 66, 0) := Or.inr (Or.inr (Or.inr (Or.inr ⟨Nat.le_of_ble_eq_true rfl, mt_66, Or.inl ⟨rfl, p_wi (p_t3 (List.mem_of_getElem? (i := 120) rfl)) rfl, mi_66, mz_66⟩⟩)))
theorem mo_82 : p_mlP ("HutAnswers$Reader", 131, 269, 0) := Or.inr (Or.inr (Or.inr (Or.inr ⟨Nat.le_of_ble_eq_true rfl, mt_269, Or.inl ⟨rfl, p_wi (p_t3 (List.mem_of_getElem? (i := 46) rfl)) rfl, mi_269, mz_269⟩⟩)))
theorem mo_83 : p_mlP ("HutAnswers$Reader", 135, 270, 0) := Or.inr (Or.inr (Or.inr (Or.inr ⟨Nat.le_of_ble_eq_true rfl, mt_270, Or.inl ⟨rfl, p_wi (p_t3 (List.mem_of_getElem? (i := 56) rfl)) rfl, mi_270, mz_270⟩⟩)))
theorem mo_84 : p_mlP ("HutAnswers$Tape", 3, 9999, 0) := Or.inl ⟨rfl, p_wi (p_t1 (List.mem_of_getElem? (i := 32) rfl)) rfl⟩
theorem mo_85 : p_mlP ("HutAnswers$Text", 1, 9999, 0) := Or.inl ⟨rfl, p_wi (p_t1 (List.mem_of_getElem? (i := 56) rfl)) rfl⟩
theorem mo_86 : p_mlP ("HutAnswers$Text", 38, 75, 2) := Or.inr (Or.inr (Or.inr (Or.inr ⟨Nat.le_of_ble_eq_true rfl, mt_75, Or.inr (Or.inr (Or.inl ⟨rfl, p_wi (p_t3 (List.mem_of_getElem? (i := 162) rfl)) rfl, mi_75, by decide +kernel, by decide +kernel⟩))⟩)))
theorem mo_87 : p_mlP ("HutAnswers$Text", 41, 9998, 1) := Or.inr (Or.inl ⟨rfl, p_wi (p_t3 (List.mem_of_getElem? (i := 163) rfl)) rfl⟩)
theorem mo_88 : p_mlP ("HutAnswers", 1, 9999, 0) := Or.inl ⟨rfl, p_wi (p_t1 (List.mem_of_getElem? (i := 24) rfl)) rfl⟩
theorem mo_89 : p_mlP ("HutAnswers", 9, 73, 3) := Or.inr (Or.inr (Or.inr (Or.inr ⟨Nat.le_of_ble_eq_true rfl, mt_73, Or.inr (Or.inr (Or.inr ⟨rfl, (p_t1 (List.mem_of_getElem? (i := 29) rfl)), mi_73, by decide +kernel, by decide +kernel⟩))⟩)))
theorem mo_90 : p_mlP ("HutAnswers", 18, 57, 3) := Or.inr (Or.inr (Or.inr (Or.inr ⟨Nat.le_of_ble_eq_true rfl, mt_57, Or.inr (Or.inr (Or.inr ⟨rfl, (p_t1 (List.mem_of_getElem? (i := 47) rfl)), mi_57, by decide +kernel, by decide +kernel⟩))⟩)))
theorem mo_91 : p_mlP ("HutAnswers", 25, 23, 3) := Or.inr (Or.inr (Or.inr (Or.inr ⟨Nat.le_of_ble_eq_true rfl, mt_23, Or.inr (Or.inr (Or.inr ⟨rfl, (p_t1 (List.mem_of_getElem? (i := 122) rfl)), mi_23, by decide +kernel, by decide +kernel⟩))⟩)))
theorem mo_92 : p_mlP ("HutAnswers", 32, 33, 3) := Or.inr (Or.inr (Or.inr (Or.inr ⟨Nat.le_of_ble_eq_true rfl, mt_33, Or.inr (Or.inr (Or.inr ⟨rfl, (p_t1 (List.mem_of_getElem? (i := 136) rfl)), mi_33, by decide +kernel, by decide +kernel⟩))⟩)))
theorem mo_93 : p_mlP ("HutAnswers", 39, 0, 3) := Or.inr (Or.inr (Or.inr (Or.inr ⟨Nat.le_of_ble_eq_true rfl, mt_0, Or.inr (Or.inr (Or.inr ⟨rfl, (p_t2 (List.mem_of_getElem? (i := 53) rfl)), mi_0, by decide +kernel, by decide +kernel⟩))⟩)))
theorem mo_94 : p_mlP ("HutAnswers", 46, 2, 3) := Or.inr (Or.inr (Or.inr (Or.inr ⟨Nat.le_of_ble_eq_true rfl, mt_2, Or.inr (Or.inr (Or.inr ⟨rfl, (p_t2 (List.mem_of_getElem? (i := 63) rfl)), mi_2, by decide +kernel, by decide +kernel⟩))⟩)))
theorem mo_95 : p_mlP ("HutAnswers", 53, 51, 3) := Or.inr (Or.inr (Or.inr (Or.inr ⟨Nat.le_of_ble_eq_true rfl, mt_51, Or.inr (Or.inr (Or.inr ⟨rfl, (p_t2 (List.mem_of_getElem? (i := 66) rfl)), mi_51, by decide +kernel, by decide +kernel⟩))⟩)))
theorem mo_96 : p_mlP ("HutAnswers", 96, 116, 0) := Or.inr (Or.inr (Or.inr (Or.inr ⟨Nat.le_of_ble_eq_true rfl, mt_116, Or.inl ⟨rfl, p_wi (p_t2 (List.mem_of_getElem? (i := 142) rfl)) rfl, mi_116, mz_116⟩⟩)))
theorem mo_97 : p_mlP ("HutAnswers", 103, 53, 0) := Or.inr (Or.inr (Or.inr (Or.inr ⟨Nat.le_of_ble_eq_true rfl, mt_53, Or.inl ⟨rfl, p_wi (p_t2 (List.mem_of_getElem? (i := 146) rfl)) rfl, mi_53, mz_53⟩⟩)))
theorem mo_98 : p_mlP ("HutAnswers", 106, 5, 0) := Or.inr (Or.inr (Or.inr (Or.inr ⟨Nat.le_of_ble_eq_true rfl, mt_5, Or.inl ⟨rfl, p_wi (p_t2 (List.mem_of_getElem? (i := 150) rfl)) rfl, mi_5, mz_5⟩⟩)))
theorem mo_99 : p_mlP ("HutAnswers", 109, 117, 0) := Or.inr (Or.inr (Or.inr (Or.inr ⟨Nat.le_of_ble_eq_true rfl, mt_117, Or.inl ⟨rfl, p_wi (p_t2 (List.mem_of_getElem? (i := 158) rfl)) rfl, mi_117, mz_117⟩⟩)))
theorem mo_100 : p_mlP ("HutAnswers", 112, 4, 1) := Or.inr (Or.inr (Or.inr (Or.inr ⟨Nat.le_of_ble_eq_true rfl, mt_4, Or.inr (Or.inl ⟨rfl, p_wi (p_t2 (List.mem_of_getElem? (i := 166) rfl)) rfl, ms_4⟩)⟩)))
theorem mo_101 : p_mlP ("HutAnswers", 119, 6, 0) := Or.inr (Or.inr (Or.inr (Or.inr ⟨Nat.le_of_ble_eq_true rfl, mt_6, Or.inl ⟨rfl, p_wi (p_t2 (List.mem_of_getElem? (i := 170) rfl)) rfl, mi_6, mz_6⟩⟩)))
theorem mo_102 : p_mlP ("HutAnswers", 123, 8, 0) := Or.inr (Or.inr (Or.inr (Or.inr ⟨Nat.le_of_ble_eq_true rfl, mt_8, Or.inl ⟨rfl, p_wi (p_t2 (List.mem_of_getElem? (i := 178) rfl)) rfl, mi_8, mz_8⟩⟩)))
theorem mo_103 : p_mlP ("HutAnswers", 127, 24, 0) := Or.inr (Or.inr (Or.inr (Or.inr ⟨Nat.le_of_ble_eq_true rfl, mt_24, Or.inl ⟨rfl, p_wi (p_t2 (List.mem_of_getElem? (i := 182) rfl)) rfl, mi_24, mz_24⟩⟩)))
theorem mo_104 : p_mlP ("HutAnswers", 140, 10, 0) := Or.inr (Or.inr (Or.inr (Or.inr ⟨Nat.le_of_ble_eq_true rfl, mt_10, Or.inl ⟨rfl, p_wi (p_t2 (List.mem_of_getElem? (i := 196) rfl)) rfl, mi_10, mz_10⟩⟩)))
theorem mo_105 : p_mlP ("HutAnswers", 144, 27, 0) := Or.inr (Or.inr (Or.inr (Or.inr ⟨Nat.le_of_ble_eq_true rfl, mt_27, Or.inl ⟨rfl, p_wi (p_t2 (List.mem_of_getElem? (i := 204) rfl)) rfl, mi_27, mz_27⟩⟩)))
theorem mo_106 : p_mlP ("HutAnswers", 148, 28, 0) := Or.inr (Or.inr (Or.inr (Or.inr ⟨Nat.le_of_ble_eq_true rfl, mt_28, Or.inl ⟨rfl, p_wi (p_t2 (List.mem_of_getElem? (i := 218) rfl)) rfl, mi_28, mz_28⟩⟩)))
theorem mo_107 : p_mlP ("HutAnswers", 152, 7, 0) := Or.inr (Or.inr (Or.inr (Or.inr ⟨Nat.le_of_ble_eq_true rfl, mt_7, Or.inl ⟨rfl, p_wi (p_t2 (List.mem_of_getElem? (i := 222) rfl)) rfl, mi_7, mz_7⟩⟩)))
theorem mo_108 : p_mlP ("HutAnswers", 155, 14, 0) := Or.inr (Or.inr (Or.inr (Or.inr ⟨Nat.le_of_ble_eq_true rfl, mt_14, Or.inl ⟨rfl, p_wi (p_t2 (List.mem_of_getElem? (i := 226) rfl)) rfl, mi_14, mz_14⟩⟩)))
theorem mo_109 : p_mlP ("HutAnswers", 174, 74, 0) := Or.inr (Or.inr (Or.inr (Or.inr ⟨Nat.le_of_ble_eq_true rfl, mt_74, Or.inl ⟨rfl, p_wi (p_t3 (List.mem_of_getElem? (i := 4) rfl)) rfl, mi_74, mz_74⟩⟩)))
theorem mo_110 : p_mlP ("HutAnswers", 178, 119, 0) := Or.inr (Or.inr (Or.inr (Or.inr ⟨Nat.le_of_ble_eq_true rfl, mt_119, Or.inl ⟨rfl, p_wi (p_t3 (List.mem_of_getElem? (i := 16) rfl)) rfl, mi_119, mz_119⟩⟩)))
theorem mo_111 : p_mlP ("HutAnswers", 184, 58, 0) := Or.inr (Or.inr (Or.inr (Or.inr ⟨Nat.le_of_ble_eq_true rfl, mt_58, Or.inl ⟨rfl, p_wi (p_t3 (List.mem_of_getElem? (i := 28) rfl)) rfl, mi_58, mz_58⟩⟩)))
theorem mo_112 : p_mlP ("HutAnswers", 196, 76, 0) := Or.inr (Or.inr (Or.inr (Or.inr ⟨Nat.le_of_ble_eq_true rfl, mt_76, Or.inl ⟨rfl, p_wi (p_t3 (List.mem_of_getElem? (i := 157) rfl)) rfl, mi_76, mz_76⟩⟩)))
theorem mo_113 : p_mlP ("HutAnswers", 201, 3, 0) := Or.inr (Or.inr (Or.inr (Or.inr ⟨Nat.le_of_ble_eq_true rfl, mt_3, Or.inl ⟨rfl, p_wi (p_t3 (List.mem_of_getElem? (i := 170) rfl)) rfl, mi_3, mz_3⟩⟩)))
theorem mo_114 : p_mlP ("HutAnswers", 205, 52, 0) := Or.inr (Or.inr (Or.inr (Or.inr ⟨Nat.le_of_ble_eq_true rfl, mt_52, Or.inl ⟨rfl, p_wi (p_t3 (List.mem_of_getElem? (i := 175) rfl)) rfl, mi_52, mz_52⟩⟩)))
theorem mo_115 : p_mlP ("HutAnswers", 208, 120, 0) := Or.inr (Or.inr (Or.inr (Or.inr ⟨Nat.le_of_ble_eq_true rfl, mt_120, Or.inl ⟨rfl, p_wi (p_t3 (List.mem_of_getElem? (i := 180) rfl)) rfl, mi_120, mz_120⟩⟩)))
theorem mo_116 : p_mlP ("HutAnswers", 211, 9, 0) := Or.inr (Or.inr (Or.inr (Or.inr ⟨Nat.le_of_ble_eq_true rfl, mt_9, Or.inl ⟨rfl, p_wi (p_t4 (List.mem_of_getElem? (i := 29) rfl)) rfl, mi_9, mz_9⟩⟩)))
theorem mo_117 : p_mlP ("HutAnswers", 217, 121, 0) := Or.inr (Or.inr (Or.inr (Or.inr ⟨Nat.le_of_ble_eq_true rfl, mt_121, Or.inl ⟨rfl, p_wi (p_t3 (List.mem_of_getElem? (i := 198) rfl)) rfl, mi_121, mz_121⟩⟩)))
theorem mo_118 : p_mlP ("HutAnswers", 220, 118, 0) := Or.inr (Or.inr (Or.inr (Or.inr ⟨Nat.le_of_ble_eq_true rfl, mt_118, Or.inl ⟨rfl, p_wi (p_t4 (List.mem_of_getElem? (i := 34) rfl)) rfl, mi_118, mz_118⟩⟩)))
theorem mo_119 : p_mlP ("HutAnswers", 223, 56, 0) := Or.inr (Or.inr (Or.inr (Or.inr ⟨Nat.le_of_ble_eq_true rfl, mt_56, Or.inl ⟨rfl, p_wi (p_t4 (List.mem_of_getElem? (i := 54) rfl)) rfl, mi_56, mz_56⟩⟩)))
theorem mo_120 : p_mlP ("HutAnswers", 230, 16, 0) := Or.inr (Or.inr (Or.inr (Or.inr ⟨Nat.le_of_ble_eq_true rfl, mt_16, Or.inl ⟨rfl, p_wi (p_t4 (List.mem_of_getElem? (i := 62) rfl)) rfl, mi_16, mz_16⟩⟩)))
theorem mo_121 : p_mlP ("HutAnswers", 233, 13, 0) := Or.inr (Or.inr (Or.inr (Or.inr ⟨Nat.le_of_ble_eq_true rfl, mt_13, Or.inl ⟨rfl, p_wi (p_t4 (List.mem_of_getElem? (i := 66) rfl)) rfl, mi_13, mz_13⟩⟩)))
theorem mo_122 : p_mlP ("HutAnswers", 237, 15, 0) := Or.inr (Or.inr (Or.inr (Or.inr ⟨Nat.le_of_ble_eq_true rfl, mt_15, Or.inl ⟨rfl, p_wi (p_t4 (List.mem_of_getElem? (i := 74) rfl)) rfl, mi_15, mz_15⟩⟩)))
theorem mo_123 : p_mlP ("HutAnswers", 240, 122, 0) := Or.inr (Or.inr (Or.inr (Or.inr ⟨Nat.le_of_ble_eq_true rfl, mt_122, Or.inl ⟨rfl, p_wi (p_t4 (List.mem_of_getElem? (i := 79) rfl)) rfl, mi_122, mz_122⟩⟩)))
theorem mo_124 : p_mlP ("HutAnswers", 244, 41, 0) := Or.inr (Or.inr (Or.inr (Or.inr ⟨Nat.le_of_ble_eq_true rfl, mt_41, Or.inl ⟨rfl, p_wi (p_t4 (List.mem_of_getElem? (i := 127) rfl)) rfl, mi_41, mz_41⟩⟩)))
theorem mo_125 : p_mlP ("HutAnswers", 254, 123, 0) := Or.inr (Or.inr (Or.inr (Or.inr ⟨Nat.le_of_ble_eq_true rfl, mt_123, Or.inl ⟨rfl, p_wi (p_t4 (List.mem_of_getElem? (i := 150) rfl)) rfl, mi_123, mz_123⟩⟩)))
theorem mo_126 : p_mlP ("HutAnswers", 257, 266, 1) := Or.inr (Or.inr (Or.inr (Or.inr ⟨Nat.le_of_ble_eq_true rfl, mt_266, Or.inr (Or.inl ⟨rfl, p_wi (p_t4 (List.mem_of_getElem? (i := 158) rfl)) rfl, ms_266⟩)⟩)))
theorem mo_127 : p_mlP ("HutAnswers", 262, 45, 0) := Or.inr (Or.inr (Or.inr (Or.inr ⟨Nat.le_of_ble_eq_true rfl, mt_45, Or.inl ⟨rfl, p_wi (p_t4 (List.mem_of_getElem? (i := 159) rfl)) rfl, mi_45, mz_45⟩⟩)))
theorem mo_128 : p_mlP ("HutAnswers", 269, 49, 0) := Or.inr (Or.inr (Or.inr (Or.inr ⟨Nat.le_of_ble_eq_true rfl, mt_49, Or.inl ⟨rfl, p_wi (p_t4 (List.mem_of_getElem? (i := 187) rfl)) rfl, mi_49, mz_49⟩⟩)))
theorem mo_129 : p_mlP ("HutAnswers", 273, 17, 0) := Or.inr (Or.inr (Or.inr (Or.inr ⟨Nat.le_of_ble_eq_true rfl, mt_17, Or.inl ⟨rfl, p_wi (p_t4 (List.mem_of_getElem? (i := 201) rfl)) rfl, mi_17, mz_17⟩⟩)))
theorem mo_130 : p_mlP ("HutAnswers", 276, 36, 0) := Or.inr (Or.inr (Or.inr (Or.inr ⟨Nat.le_of_ble_eq_true rfl, mt_36, Or.inl ⟨rfl, p_wi (p_t4 (List.mem_of_getElem? (i := 84) rfl)) rfl, mi_36, mz_36⟩⟩)))
theorem mo_131 : p_mlP ("HutAnswers", 284, 124, 0) := Or.inr (Or.inr (Or.inr (Or.inr ⟨Nat.le_of_ble_eq_true rfl, mt_124, Or.inl ⟨rfl, p_wi (p_t4 (List.mem_of_getElem? (i := 214) rfl)) rfl, mi_124, mz_124⟩⟩)))
theorem mo_132 : p_mlP ("HutAnswers", 308, 25, 0) := Or.inr (Or.inr (Or.inr (Or.inr ⟨Nat.le_of_ble_eq_true rfl, mt_25, Or.inl ⟨rfl, p_wi (p_t3 (List.mem_of_getElem? (i := 184) rfl)) rfl, mi_25, mz_25⟩⟩)))
theorem mo_133 : p_mlP ("HutAnswers", 312, 29, 0) := Or.inr (Or.inr (Or.inr (Or.inr ⟨Nat.le_of_ble_eq_true rfl, mt_29, Or.inl ⟨rfl, p_wi (p_t3 (List.mem_of_getElem? (i := 189) rfl)) rfl, mi_29, mz_29⟩⟩)))
theorem mo_134 : p_mlP ("HutAnswers", 315, 30, 0) := Or.inr (Or.inr (Or.inr (Or.inr ⟨Nat.le_of_ble_eq_true rfl, mt_30, Or.inl ⟨rfl, p_wi (p_t3 (List.mem_of_getElem? (i := 193) rfl)) rfl, mi_30, mz_30⟩⟩)))
theorem mo_135 : p_mlP ("HutAnswers", 323, 54, 0) := Or.inr (Or.inr (Or.inr (Or.inr ⟨Nat.le_of_ble_eq_true rfl, mt_54, Or.inl ⟨rfl, p_wi (p_t3 (List.mem_of_getElem? (i := 202) rfl)) rfl, mi_54, mz_54⟩⟩)))
theorem mo_136 : p_mlP ("HutAnswers", 326, 18, 0) := Or.inr (Or.inr (Or.inr (Or.inr ⟨Nat.le_of_ble_eq_true rfl, mt_18, Or.inl ⟨rfl, p_wi (p_t3 (List.mem_of_getElem? (i := 206) rfl)) rfl, mi_18, mz_18⟩⟩)))
theorem mo_137 : p_mlP ("HutAnswers", 330, 55, 0) := Or.inr (Or.inr (Or.inr (Or.inr ⟨Nat.le_of_ble_eq_true rfl, mt_55, Or.inl ⟨rfl, p_wi (p_t4 (List.mem_of_getElem? (i := 12) rfl)) rfl, mi_55, mz_55⟩⟩)))
theorem mo_138 : p_mlP ("HutAnswers", 333, 11, 0) := Or.inr (Or.inr (Or.inr (Or.inr ⟨Nat.le_of_ble_eq_true rfl, mt_11, Or.inl ⟨rfl, p_wi (p_t4 (List.mem_of_getElem? (i := 83) rfl)) rfl, mi_11, mz_11⟩⟩)))
theorem mo_139 : p_mlP ("HutAnswers", 339, 1, 0) := Or.inr (Or.inr (Or.inr (Or.inr ⟨Nat.le_of_ble_eq_true rfl, mt_1, Or.inl ⟨rfl, p_wi (p_t4 (List.mem_of_getElem? (i := 218) rfl)) rfl, mi_1, mz_1⟩⟩)))
theorem mo_140 : p_mlP ("HutAnswers", 342, 12, 0) := Or.inr (Or.inr (Or.inr (Or.inr ⟨Nat.le_of_ble_eq_true rfl, mt_12, Or.inl ⟨rfl, p_wi (p_t4 (List.mem_of_getElem? (i := 223) rfl)) rfl, mi_12, mz_12⟩⟩)))
theorem mo_141 : p_mlP ("HutAnswersModel", 14, 129, 0) := Or.inr (Or.inr (Or.inr (Or.inr ⟨Nat.le_of_ble_eq_true rfl, mt_129, Or.inl ⟨rfl, p_wi (p_t5 (List.mem_of_getElem? (i := 168) rfl)) rfl, mi_129, mz_129⟩⟩)))
theorem mo_142 : p_mlP ("HutAnswersModel", 18, 9999, 0) := Or.inl ⟨rfl, p_wi (p_t5 (List.mem_of_getElem? (i := 11) rfl)) rfl⟩
theorem mo_143 : p_mlP ("HutAnswersModel", 86, 125, 1) := Or.inr (Or.inr (Or.inr (Or.inr ⟨Nat.le_of_ble_eq_true rfl, mt_125, Or.inr (Or.inl ⟨rfl, p_wi (p_t5 (List.mem_of_getElem? (i := 161) rfl)) rfl, ms_125⟩)⟩)))
theorem mo_144 : p_mlP ("HutAnswersModel", 90, 128, 0) := Or.inr (Or.inr (Or.inr (Or.inr ⟨Nat.le_of_ble_eq_true rfl, mt_128, Or.inl ⟨rfl, p_wi (p_t5 (List.mem_of_getElem? (i := 164) rfl)) rfl, mi_128, mz_128⟩⟩)))
theorem mo_145 : p_mlP ("HutAnswersModel", 93, 130, 0) := Or.inr (Or.inr (Or.inr (Or.inr ⟨Nat.le_of_ble_eq_true rfl, mt_130, Or.inl ⟨rfl, p_wi (p_t5 (List.mem_of_getElem? (i := 176) rfl)) rfl, mi_130, mz_130⟩⟩)))
theorem mo_146 : p_mlP ("HutAnswersModel", 96, 131, 1) := Or.inr (Or.inr (Or.inr (Or.inr ⟨Nat.le_of_ble_eq_true rfl, mt_131, Or.inr (Or.inl ⟨rfl, p_wi (p_t6 (List.mem_of_getElem? (i := 226) rfl)) rfl, ms_131⟩)⟩)))
theorem mo_147 : p_mlP ("HutAnswersModel", 100, 141, 0) := Or.inr (Or.inr (Or.inr (Or.inr ⟨Nat.le_of_ble_eq_true rfl, mt_141, Or.inl ⟨rfl, p_wi (p_t5 (List.mem_of_getElem? (i := 184) rfl)) rfl, mi_141, mz_141⟩⟩)))
theorem mo_148 : p_mlP ("HutAnswersModel", 105, 145, 1) := Or.inr (Or.inr (Or.inr (Or.inr ⟨Nat.le_of_ble_eq_true rfl, mt_145, Or.inr (Or.inl ⟨rfl, p_wi (p_t5 (List.mem_of_getElem? (i := 192) rfl)) rfl, ms_145⟩)⟩)))
theorem mo_149 : p_mlP ("HutAnswersModel", 108, 146, 0) := Or.inr (Or.inr (Or.inr (Or.inr ⟨Nat.le_of_ble_eq_true rfl, mt_146, Or.inl ⟨rfl, p_wi (p_t5 (List.mem_of_getElem? (i := 196) rfl)) rfl, mi_146, mz_146⟩⟩)))
theorem mo_150 : p_mlP ("HutAnswersModel", 112, 139, 0) := Or.inr (Or.inr (Or.inr (Or.inr ⟨Nat.le_of_ble_eq_true rfl, mt_139, Or.inl ⟨rfl, p_wi (p_t5 (List.mem_of_getElem? (i := 204) rfl)) rfl, mi_139, mz_139⟩⟩)))
theorem mo_151 : p_mlP ("HutAnswersModel", 116, 196, 0) := Or.inr (Or.inr (Or.inr (Or.inr ⟨Nat.le_of_ble_eq_true rfl, mt_196, Or.inl ⟨rfl, p_wi (p_t5 (List.mem_of_getElem? (i := 208) rfl)) rfl, mi_196, mz_196⟩⟩)))
theorem mo_152 : p_mlP ("HutAnswersModel", 119, 199, 0) := Or.inr (Or.inr (Or.inr (Or.inr ⟨Nat.le_of_ble_eq_true rfl, mt_199, Or.inl ⟨rfl, p_wi (p_t5 (List.mem_of_getElem? (i := 215) rfl)) rfl, mi_199, mz_199⟩⟩)))
theorem mo_153 : p_mlP ("HutAnswersModel", 123, 200, 0) := Or.inr (Or.inr (Or.inr (Or.inr ⟨Nat.le_of_ble_eq_true rfl, mt_200, Or.inl ⟨rfl, p_wi (p_t6 (List.mem_of_getElem? (i := 37) rfl)) rfl, mi_200, mz_200⟩⟩)))
theorem mo_154 : p_mlP ("HutAnswersModel", 126, 201, 0) := Or.inr (Or.inr (Or.inr (Or.inr ⟨Nat.le_of_ble_eq_true rfl, mt_201, Or.inl ⟨rfl, p_wi (p_t6 (List.mem_of_getElem? (i := 41) rfl)) rfl, mi_201, mz_201⟩⟩)))
theorem mo_155 : p_mlP ("HutAnswersModel", 129, 138, 0) := Or.inr (Or.inr (Or.inr (Or.inr ⟨Nat.le_of_ble_eq_true rfl, mt_138, Or.inl ⟨rfl, p_wi (p_t6 (List.mem_of_getElem? (i := 45) rfl)) rfl, mi_138, mz_138⟩⟩)))
theorem mo_156 : p_mlP ("HutAnswersModel", 132, 142, 0) := Or.inr (Or.inr (Or.inr (Or.inr ⟨Nat.le_of_ble_eq_true rfl, mt_142, Or.inl ⟨rfl, p_wi (p_t6 (List.mem_of_getElem? (i := 49) rfl)) rfl, mi_142, mz_142⟩⟩)))
theorem mo_157 : p_mlP ("HutAnswersModel", 135, 150, 1) := Or.inr (Or.inr (Or.inr (Or.inr ⟨Nat.le_of_ble_eq_true rfl, mt_150, Or.inr (Or.inl ⟨rfl, p_wi (p_t6 (List.mem_of_getElem? (i := 61) rfl)) rfl, ms_150⟩)⟩)))
theorem mo_158 : p_mlP ("HutAnswersModel", 138, 151, 1) := Or.inr (Or.inr (Or.inr (Or.inr ⟨Nat.le_of_ble_eq_true rfl, mt_151, Or.inr (Or.inl ⟨rfl, p_wi (p_t6 (List.mem_of_getElem? (i := 64) rfl)) rfl, ms_151⟩)⟩)))
theorem mo_159 : p_mlP ("HutAnswersModel", 147, 153, 0) := Or.inr (Or.inr (Or.inr (Or.inr ⟨Nat.le_of_ble_eq_true rfl, mt_153, Or.inl ⟨rfl, p_wi (p_t6 (List.mem_of_getElem? (i := 71) rfl)) rfl, mi_153, mz_153⟩⟩)))
theorem mo_160 : p_mlP ("HutAnswersModel", 153, 158, 1) := Or.inr (Or.inr (Or.inr (Or.inr ⟨Nat.le_of_ble_eq_true rfl, mt_158, Or.inr (Or.inl ⟨rfl, p_wi (p_t6 (List.mem_of_getElem? (i := 103) rfl)) rfl, ms_158⟩)⟩)))
theorem mo_161 : p_mlP ("HutAnswersModel", 156, 159, 1) := Or.inr (Or.inr (Or.inr (Or.inr ⟨Nat.le_of_ble_eq_true rfl, mt_159, Or.inr (Or.inl ⟨rfl, p_wi (p_t6 (List.mem_of_getElem? (i := 106) rfl)) rfl, ms_159⟩)⟩)))
theorem mo_162 : p_mlP ("HutAnswersModel", 159, 160, 0) := Or.inr (Or.inr (Or.inr (Or.inr ⟨Nat.le_of_ble_eq_true rfl, mt_160, Or.inl ⟨rfl, p_wi (p_t6 (List.mem_of_getElem? (i := 109) rfl)) rfl, mi_160, mz_160⟩⟩)))
theorem mo_163 : p_mlP ("HutAnswersModel", 166, 162, 0) := Or.inr (Or.inr (Or.inr (Or.inr ⟨Nat.le_of_ble_eq_true rfl, mt_162, Or.inl ⟨rfl, p_wi (p_t6 (List.mem_of_getElem? (i := 126) rfl)) rfl, mi_162, mz_162⟩⟩)))
theorem mo_164 : p_mlP ("HutAnswersModel", 173, 164, 0) := Or.inr (Or.inr (Or.inr (Or.inr ⟨Nat.le_of_ble_eq_true rfl, mt_164, Or.inl ⟨rfl, p_wi (p_t6 (List.mem_of_getElem? (i := 122) rfl)) rfl, mi_164, mz_164⟩⟩)))
theorem mo_165 : p_mlP ("HutAnswersModel", 176, 163, 0) := Or.inr (Or.inr (Or.inr (Or.inr ⟨Nat.le_of_ble_eq_true rfl, mt_163, Or.inl ⟨rfl, p_wi (p_t6 (List.mem_of_getElem? (i := 142) rfl)) rfl, mi_163, mz_163⟩⟩)))
theorem mo_166 : p_mlP ("HutAnswersModel", 182, 175, 0) := Or.inr (Or.inr (Or.inr (Or.inr ⟨Nat.le_of_ble_eq_true rfl, mt_175, Or.inl ⟨rfl, p_wi (p_t6 (List.mem_of_getElem? (i := 130) rfl)) rfl, mi_175, mz_175⟩⟩)))
theorem mo_167 : p_mlP ("HutAnswersModel", 186, 165, 0) := Or.inr (Or.inr (Or.inr (Or.inr ⟨Nat.le_of_ble_eq_true rfl, mt_165, Or.inl ⟨rfl, p_wi (p_t6 (List.mem_of_getElem? (i := 146) rfl)) rfl, mi_165, mz_165⟩⟩)))
theorem mo_168 : p_mlP ("HutAnswersModel", 189, 172, 0) := Or.inr (Or.inr (Or.inr (Or.inr ⟨Nat.le_of_ble_eq_true rfl, mt_172, Or.inl ⟨rfl, p_wi (p_t6 (List.mem_of_getElem? (i := 158) rfl)) rfl, mi_172, mz_172⟩⟩)))
theorem mo_169 : p_mlP ("HutAnswersModel", 192, 168, 0) := Or.inr (Or.inr (Or.inr (Or.inr ⟨Nat.le_of_ble_eq_true rfl, mt_168, Or.inl ⟨rfl, p_wi (p_t6 (List.mem_of_getElem? (i := 154) rfl)) rfl, mi_168, mz_168⟩⟩)))
theorem mo_170 : p_mlP ("HutAnswersModel", 200, 170, 0) := Or.inr (Or.inr (Or.inr (Or.inr ⟨Nat.le_of_ble_eq_true rfl, mt_170, Or.inl ⟨rfl, p_wi (p_t6 (List.mem_of_getElem? (i := 118) rfl)) rfl, mi_170, mz_170⟩⟩)))
theorem mo_171 : p_mlP ("HutAnswersModel", 203, 169, 0) := Or.inr (Or.inr (Or.inr (Or.inr ⟨Nat.le_of_ble_eq_true rfl, mt_169, Or.inl ⟨rfl, p_wi (p_t6 (List.mem_of_getElem? (i := 170) rfl)) rfl, mi_169, mz_169⟩⟩)))
theorem mo_172 : p_mlP ("HutAnswersModel", 206, 173, 0) := Or.inr (Or.inr (Or.inr (Or.inr ⟨Nat.le_of_ble_eq_true rfl, mt_173, Or.inl ⟨rfl, p_wi (p_t6 (List.mem_of_getElem? (i := 162) rfl)) rfl, mi_173, mz_173⟩⟩)))
theorem mo_173 : p_mlP ("HutAnswersModel", 209, 174, 0) := Or.inr (Or.inr (Or.inr (Or.inr ⟨Nat.le_of_ble_eq_true rfl, mt_174, Or.inl ⟨rfl, p_wi (p_t6 (List.mem_of_getElem? (i := 166) rfl)) rfl, mi_174, mz_174⟩⟩)))
theorem mo_174 : p_mlP ("HutAnswersModel", 212, 167, 1) := Or.inr (Or.inr (Or.inr (Or.inr ⟨Nat.le_of_ble_eq_true rfl, mt_167, Or.inr (Or.inl ⟨rfl, p_wi (p_t6 (List.mem_of_getElem? (i := 3) rfl)) rfl, ms_167⟩)⟩)))
theorem mo_175 : p_mlP ("HutAnswersModel", 216, 176, 0) := Or.inr (Or.inr (Or.inr (Or.inr ⟨Nat.le_of_ble_eq_true rfl, mt_176, Or.inl ⟨rfl, p_wi (p_t6 (List.mem_of_getElem? (i := 134) rfl)) rfl, mi_176, mz_176⟩⟩)))
theorem mo_176 : p_mlP ("HutAnswersModel", 219, 177, 0) := Or.inr (Or.inr (Or.inr (Or.inr ⟨Nat.le_of_ble_eq_true rfl, mt_177, Or.inl ⟨rfl, p_wi (p_t6 (List.mem_of_getElem? (i := 138) rfl)) rfl, mi_177, mz_177⟩⟩)))
theorem mo_177 : p_mlP ("HutAnswersModel", 228, 166, 0) := Or.inr (Or.inr (Or.inr (Or.inr ⟨Nat.le_of_ble_eq_true rfl, mt_166, Or.inl ⟨rfl, p_wi (p_t6 (List.mem_of_getElem? (i := 150) rfl)) rfl, mi_166, mz_166⟩⟩)))
theorem mo_178 : p_mlP ("HutAnswersModel", 231, 161, 0) := Or.inr (Or.inr (Or.inr (Or.inr ⟨Nat.le_of_ble_eq_true rfl, mt_161, Or.inl ⟨rfl, p_wi (p_t6 (List.mem_of_getElem? (i := 99) rfl)) rfl, mi_161, mz_161⟩⟩)))
theorem mo_179 : p_mlP ("HutAnswersModel", 234, 171, 0) := Or.inr (Or.inr (Or.inr (Or.inr ⟨Nat.le_of_ble_eq_true rfl, mt_171, Or.inl ⟨rfl, p_wi (p_t6 (List.mem_of_getElem? (i := 114) rfl)) rfl, mi_171, mz_171⟩⟩)))
theorem mo_180 : p_mlP ("HutAnswersModel", 237, 178, 0) := Or.inr (Or.inr (Or.inr (Or.inr ⟨Nat.le_of_ble_eq_true rfl, mt_178, Or.inl ⟨rfl, p_wi (p_t6 (List.mem_of_getElem? (i := 95) rfl)) rfl, mi_178, mz_178⟩⟩)))
theorem mo_181 : p_mlP ("HutAnswersModel", 240, 179, 0) := Or.inr (Or.inr (Or.inr (Or.inr ⟨Nat.le_of_ble_eq_true rfl, mt_179, Or.inl ⟨rfl, p_wi (p_t6 (List.mem_of_getElem? (i := 91) rfl)) rfl, mi_179, mz_179⟩⟩)))
theorem mo_182 : p_mlP ("HutAnswersModel", 244, 180, 0) := Or.inr (Or.inr (Or.inr (Or.inr ⟨Nat.le_of_ble_eq_true rfl, mt_180, Or.inl ⟨rfl, p_wi (p_t6 (List.mem_of_getElem? (i := 174) rfl)) rfl, mi_180, mz_180⟩⟩)))
theorem mo_183 : p_mlP ("HutAnswersModel", 247, 183, 0) := Or.inr (Or.inr (Or.inr (Or.inr ⟨Nat.le_of_ble_eq_true rfl, mt_183, Or.inl ⟨rfl, p_wi (p_t6 (List.mem_of_getElem? (i := 186) rfl)) rfl, mi_183, mz_183⟩⟩)))
theorem mo_184 : p_mlP ("HutAnswersModel", 256, 185, 0) := Or.inr (Or.inr (Or.inr (Or.inr ⟨Nat.le_of_ble_eq_true rfl, mt_185, Or.inl ⟨rfl, p_wi (p_t5 (List.mem_of_getElem? (i := 227) rfl)) rfl, mi_185, mz_185⟩⟩)))
theorem mo_185 : p_mlP ("HutAnswersModel", 266, 189, 0) := Or.inr (Or.inr (Or.inr (Or.inr ⟨Nat.le_of_ble_eq_true rfl, mt_189, Or.inl ⟨rfl, p_wi (p_t5 (List.mem_of_getElem? (i := 235) rfl)) rfl, mi_189, mz_189⟩⟩)))
theorem mo_186 : p_mlP ("HutAnswersModel", 270, 187, 0) := Or.inr (Or.inr (Or.inr (Or.inr ⟨Nat.le_of_ble_eq_true rfl, mt_187, Or.inl ⟨rfl, p_wi (p_t6 (List.mem_of_getElem? (i := 14) rfl)) rfl, mi_187, mz_187⟩⟩)))
theorem mo_187 : p_mlP ("HutAnswersModel", 274, 190, 0) := Or.inr (Or.inr (Or.inr (Or.inr ⟨Nat.le_of_ble_eq_true rfl, mt_190, Or.inl ⟨rfl, p_wi (p_t5 (List.mem_of_getElem? (i := 239) rfl)) rfl, mi_190, mz_190⟩⟩)))
theorem mo_188 : p_mlP ("HutAnswersModel", 277, 186, 0) := Or.inr (Or.inr (Or.inr (Or.inr ⟨Nat.le_of_ble_eq_true rfl, mt_186, Or.inl ⟨rfl, p_wi (p_t6 (List.mem_of_getElem? (i := 6) rfl)) rfl, mi_186, mz_186⟩⟩)))
theorem mo_189 : p_mlP ("HutAnswersModel", 280, 188, 0) := Or.inr (Or.inr (Or.inr (Or.inr ⟨Nat.le_of_ble_eq_true rfl, mt_188, Or.inl ⟨rfl, p_wi (p_t5 (List.mem_of_getElem? (i := 231) rfl)) rfl, mi_188, mz_188⟩⟩)))
theorem mo_190 : p_mlP ("HutAnswersModel", 286, 191, 0) := Or.inr (Or.inr (Or.inr (Or.inr ⟨Nat.le_of_ble_eq_true rfl, mt_191, Or.inl ⟨rfl, p_wi (p_t6 (List.mem_of_getElem? (i := 10) rfl)) rfl, mi_191, mz_191⟩⟩)))
theorem mo_191 : p_mlP ("HutAnswersModel", 295, 193, 0) := Or.inr (Or.inr (Or.inr (Or.inr ⟨Nat.le_of_ble_eq_true rfl, mt_193, Or.inl ⟨rfl, p_wi (p_t6 (List.mem_of_getElem? (i := 24) rfl)) rfl, mi_193, mz_193⟩⟩)))
theorem mo_192 : p_mlP ("HutAnswersModel", 298, 194, 0) := Or.inr (Or.inr (Or.inr (Or.inr ⟨Nat.le_of_ble_eq_true rfl, mt_194, Or.inl ⟨rfl, p_wi (p_t6 (List.mem_of_getElem? (i := 28) rfl)) rfl, mi_194, mz_194⟩⟩)))
theorem mo_193 : p_mlP ("HutAnswersModel", 301, 195, 0) := Or.inr (Or.inr (Or.inr (Or.inr ⟨Nat.le_of_ble_eq_true rfl, mt_195, Or.inl ⟨rfl, p_wi (p_t6 (List.mem_of_getElem? (i := 32) rfl)) rfl, mi_195, mz_195⟩⟩)))
theorem mo_194 : p_mlP ("HutAnswersModel", 304, 192, 0) := Or.inr (Or.inr (Or.inr (Or.inr ⟨Nat.le_of_ble_eq_true rfl, mt_192, Or.inl ⟨rfl, p_wi (p_t6 (List.mem_of_getElem? (i := 20) rfl)) rfl, mi_192, mz_192⟩⟩)))
theorem mo_195 : p_mlP ("HutAnswersModel", 307, 132, 1) := Or.inr (Or.inr (Or.inr (Or.inr ⟨Nat.le_of_ble_eq_true rfl, mt_132, Or.inr (Or.inl ⟨rfl, p_wi (p_t5 (List.mem_of_getElem? (i := 212) rfl)) rfl, ms_132⟩)⟩)))
theorem mo_196 : p_mlP ("HutAnswersModel", 310, 197, 0) := Or.inr (Or.inr (Or.inr (Or.inr ⟨Nat.le_of_ble_eq_true rfl, mt_197, Or.inl ⟨rfl, p_wi (p_t5 (List.mem_of_getElem? (i := 223) rfl)) rfl, mi_197, mz_197⟩⟩)))
theorem mo_197 : p_mlP ("HutAnswersModel", 315, 198, 0) := Or.inr (Or.inr (Or.inr (Or.inr ⟨Nat.le_of_ble_eq_true rfl, mt_198, Or.inl ⟨rfl, p_wi (p_t5 (List.mem_of_getElem? (i := 219) rfl)) rfl, mi_198, mz_198⟩⟩)))
theorem mo_198 : p_mlP ("HutAnswersModel", 319, 203, 0) := Or.inr (Or.inr (Or.inr (Or.inr ⟨Nat.le_of_ble_eq_true rfl, mt_203, Or.inl ⟨rfl, p_wi (p_t6 (List.mem_of_getElem? (i := 206) rfl)) rfl, mi_203, mz_203⟩⟩)))
theorem mo_199 : p_mlP ("HutAnswersModel", 322, 126, 1) := Or.inr (Or.inr (Or.inr (Or.inr ⟨Nat.le_of_ble_eq_true rfl, mt_126, Or.inr (Or.inl ⟨rfl, p_wi (p_t6 (List.mem_of_getElem? (i := 233) rfl)) rfl, ms_126⟩)⟩)))
theorem mo_200 : p_mlP ("HutAnswersModel", 325, 202, 0) := Or.inr (Or.inr (Or.inr (Or.inr ⟨Nat.le_of_ble_eq_true rfl, mt_202, Or.inl ⟨rfl, p_wi (p_t6 (List.mem_of_getElem? (i := 222) rfl)) rfl, mi_202, mz_202⟩⟩)))
theorem mo_201 : p_mlP ("HutAnswersModel", 329, 205, 0) := Or.inr (Or.inr (Or.inr (Or.inr ⟨Nat.le_of_ble_eq_true rfl, mt_205, Or.inl ⟨rfl, p_wi (p_t6 (List.mem_of_getElem? (i := 229) rfl)) rfl, mi_205, mz_205⟩⟩)))
theorem mo_202 : p_mlP ("HutAnswersModel", 332, 127, 1) := Or.inr (Or.inr (Or.inr (Or.inr ⟨Nat.le_of_ble_eq_true rfl, mt_127, Or.inr (Or.inl ⟨rfl, p_wi (p_t7 (List.mem_of_getElem? (i := 20) rfl)) rfl, ms_127⟩)⟩)))
theorem mo_203 : p_mlP ("HutAnswersModel", 335, 209, 0) := Or.inr (Or.inr (Or.inr (Or.inr ⟨Nat.le_of_ble_eq_true rfl, mt_209, Or.inl ⟨rfl, p_wi (p_t6 (List.mem_of_getElem? (i := 214) rfl)) rfl, mi_209, mz_209⟩⟩)))
theorem mo_204 : p_mlP ("HutAnswersModel", 338, 204, 0) := Or.inr (Or.inr (Or.inr (Or.inr ⟨Nat.le_of_ble_eq_true rfl, mt_204, Or.inl ⟨rfl, p_wi (p_t6 (List.mem_of_getElem? (i := 202) rfl)) rfl, mi_204, mz_204⟩⟩)))
theorem mo_205 : p_mlP ("HutAnswersModel", 341, 210, 0) := Or.inr (Or.inr (Or.inr (Or.inr ⟨Nat.le_of_ble_eq_true rfl, mt_210, Or.inl ⟨rfl, p_wi (p_t6 (List.mem_of_getElem? (i := 210) rfl)) rfl, mi_210, mz_210⟩⟩)))
theorem mo_206 : p_mlP ("HutAnswersModel", 344, 206, 0) := Or.inr (Or.inr (Or.inr (Or.inr ⟨Nat.le_of_ble_eq_true rfl, mt_206, Or.inl ⟨rfl, p_wi (p_t6 (List.mem_of_getElem? (i := 218) rfl)) rfl, mi_206, mz_206⟩⟩)))
theorem mo_207 : p_mlP ("HutAnswersModel", 347, 207, 0) := Or.inr (Or.inr (Or.inr (Or.inr ⟨Nat.le_of_ble_eq_true rfl, mt_207, Or.inl ⟨rfl, p_wi (p_t7 (List.mem_of_getElem? (i := 16) rfl)) rfl, mi_207, mz_207⟩⟩)))
theorem mo_208 : p_mlP ("HutAnswersModel", 350, 208, 0) := Or.inr (Or.inr (Or.inr (Or.inr ⟨Nat.le_of_ble_eq_true rfl, mt_208, Or.inl ⟨rfl, p_wi (p_t7 (List.mem_of_getElem? (i := 31) rfl)) rfl, mi_208, mz_208⟩⟩)))
theorem mo_209 : p_mlP ("HutAnswersModel", 353, 213, 0) := Or.inr (Or.inr (Or.inr (Or.inr ⟨Nat.le_of_ble_eq_true rfl, mt_213, Or.inl ⟨rfl, p_wi (p_t6 (List.mem_of_getElem? (i := 198) rfl)) rfl, mi_213, mz_213⟩⟩)))
theorem mo_210 : p_mlP ("HutAnswersModel", 356, 212, 0) := Or.inr (Or.inr (Or.inr (Or.inr ⟨Nat.le_of_ble_eq_true rfl, mt_212, Or.inl ⟨rfl, p_wi (p_t6 (List.mem_of_getElem? (i := 236) rfl)) rfl, mi_212, mz_212⟩⟩)))
theorem mo_211 : p_mlP ("HutAnswersModel", 359, 214, 0) := Or.inr (Or.inr (Or.inr (Or.inr ⟨Nat.le_of_ble_eq_true rfl, mt_214, Or.inl ⟨rfl, p_wi (p_t7 (List.mem_of_getElem? (i := 4) rfl)) rfl, mi_214, mz_214⟩⟩)))
theorem mo_212 : p_mlP ("HutAnswersModel", 362, 215, 0) := Or.inr (Or.inr (Or.inr (Or.inr ⟨Nat.le_of_ble_eq_true rfl, mt_215, Or.inl ⟨rfl, p_wi (p_t7 (List.mem_of_getElem? (i := 12) rfl)) rfl, mi_215, mz_215⟩⟩)))
theorem mo_213 : p_mlP ("HutAnswersModel", 365, 216, 0) := Or.inr (Or.inr (Or.inr (Or.inr ⟨Nat.le_of_ble_eq_true rfl, mt_216, Or.inl ⟨rfl, p_wi (p_t7 (List.mem_of_getElem? (i := 27) rfl)) rfl, mi_216, mz_216⟩⟩)))
theorem mo_214 : p_mlP ("HutAnswersModel", 368, 143, 0) := Or.inr (Or.inr (Or.inr (Or.inr ⟨Nat.le_of_ble_eq_true rfl, mt_143, Or.inl ⟨rfl, p_wi (p_t7 (List.mem_of_getElem? (i := 39) rfl)) rfl, mi_143, mz_143⟩⟩)))
theorem mo_215 : p_mlP ("HutAnswersModel", 371, 221, 1) := Or.inr (Or.inr (Or.inr (Or.inr ⟨Nat.le_of_ble_eq_true rfl, mt_221, Or.inr (Or.inl ⟨rfl, p_wi (p_t7 (List.mem_of_getElem? (i := 43) rfl)) rfl, ms_221⟩)⟩)))
theorem mo_216 : p_mlP ("HutAnswersModel", 374, 225, 0) := Or.inr (Or.inr (Or.inr (Or.inr ⟨Nat.le_of_ble_eq_true rfl, mt_225, Or.inl ⟨rfl, p_wi (p_t7 (List.mem_of_getElem? (i := 69) rfl)) rfl, mi_225, mz_225⟩⟩)))
theorem mo_217 : p_mlP ("HutAnswersModel", 380, 224, 1) := Or.inr (Or.inr (Or.inr (Or.inr ⟨Nat.le_of_ble_eq_true rfl, mt_224, Or.inr (Or.inl ⟨rfl, p_wi (p_t7 (List.mem_of_getElem? (i := 62) rfl)) rfl, ms_224⟩)⟩)))
theorem mo_218 : p_mlP ("HutAnswersModel", 383, 228, 0) := Or.inr (Or.inr (Or.inr (Or.inr ⟨Nat.le_of_ble_eq_true rfl, mt_228, Or.inl ⟨rfl, p_wi (p_t7 (List.mem_of_getElem? (i := 65) rfl)) rfl, mi_228, mz_228⟩⟩)))
theorem mo_219 : p_mlP ("HutAnswersModel", 386, 226, 0) := Or.inr (Or.inr (Or.inr (Or.inr ⟨Nat.le_of_ble_eq_true rfl, mt_226, Or.inl ⟨rfl, p_wi (p_t7 (List.mem_of_getElem? (i := 73) rfl)) rfl, mi_226, mz_226⟩⟩)))
theorem mo_220 : p_mlP ("HutAnswersModel", 389, 227, 0) := Or.inr (Or.inr (Or.inr (Or.inr ⟨Nat.le_of_ble_eq_true rfl, mt_227, Or.inl ⟨rfl, p_wi (p_t7 (List.mem_of_getElem? (i := 77) rfl)) rfl, mi_227, mz_227⟩⟩)))
theorem mo_221 : p_mlP ("HutAnswersModel", 392, 229, 0) := Or.inr (Or.inr (Or.inr (Or.inr ⟨Nat.le_of_ble_eq_true rfl, mt_229, Or.inl ⟨rfl, p_wi (p_t7 (List.mem_of_getElem? (i := 58) rfl)) rfl, mi_229, mz_229⟩⟩)))
theorem mo_222 : p_mlP ("HutAnswersModel", 396, 230, 0) := Or.inr (Or.inr (Or.inr (Or.inr ⟨Nat.le_of_ble_eq_true rfl, mt_230, Or.inl ⟨rfl, p_wi (p_t7 (List.mem_of_getElem? (i := 54) rfl)) rfl, mi_230, mz_230⟩⟩)))
theorem mo_223 : p_mlP ("HutAnswersModel", 400, 234, 0) := Or.inr (Or.inr (Or.inr (Or.inr ⟨Nat.le_of_ble_eq_true rfl, mt_234, Or.inl ⟨rfl, p_wi (p_t7 (List.mem_of_getElem? (i := 101) rfl)) rfl, mi_234, mz_234⟩⟩)))
theorem mo_224 : p_mlP ("HutAnswersModel", 403, 235, 0) := Or.inr (Or.inr (Or.inr (Or.inr ⟨Nat.le_of_ble_eq_true rfl, mt_235, Or.inl ⟨rfl, p_wi (p_t7 (List.mem_of_getElem? (i := 93) rfl)) rfl, mi_235, mz_235⟩⟩)))
theorem mo_225 : p_mlP ("HutAnswersModel", 406, 236, 0) := Or.inr (Or.inr (Or.inr (Or.inr ⟨Nat.le_of_ble_eq_true rfl, mt_236, Or.inl ⟨rfl, p_wi (p_t7 (List.mem_of_getElem? (i := 97) rfl)) rfl, mi_236, mz_236⟩⟩)))
theorem mo_226 : p_mlP ("HutAnswersModel", 409, 237, 0) := Or.inr (Or.inr (Or.inr (Or.inr ⟨Nat.le_of_ble_eq_true rfl, mt_237, Or.inl ⟨rfl, p_wi (p_t7 (List.mem_of_getElem? (i := 105) rfl)) rfl, mi_237, mz_237⟩⟩)))
theorem mo_227 : p_mlP ("HutAnswersModel", 415, 240, 0) := Or.inr (Or.inr (Or.inr (Or.inr ⟨Nat.le_of_ble_eq_true rfl, mt_240, Or.inl ⟨rfl, p_wi (p_t7 (List.mem_of_getElem? (i := 125) rfl)) rfl, mi_240, mz_240⟩⟩)))
theorem mo_228 : p_mlP ("HutAnswersModel", 418, 241, 0) := Or.inr (Or.inr (Or.inr (Or.inr ⟨Nat.le_of_ble_eq_true rfl, mt_241, Or.inl ⟨rfl, p_wi (p_t7 (List.mem_of_getElem? (i := 121) rfl)) rfl, mi_241, mz_241⟩⟩)))
theorem mo_229 : p_mlP ("HutAnswersModel", 421, 242, 0) := Or.inr (Or.inr (Or.inr (Or.inr ⟨Nat.le_of_ble_eq_true rfl, mt_242, Or.inl ⟨rfl, p_wi (p_t7 (List.mem_of_getElem? (i := 117) rfl)) rfl, mi_242, mz_242⟩⟩)))
theorem mo_230 : p_mlP ("HutAnswersModel", 424, 135, 0) := Or.inr (Or.inr (Or.inr (Or.inr ⟨Nat.le_of_ble_eq_true rfl, mt_135, Or.inl ⟨rfl, p_wi (p_t7 (List.mem_of_getElem? (i := 149) rfl)) rfl, mi_135, mz_135⟩⟩)))
theorem mo_231 : p_mlP ("HutAnswersModel", 427, 134, 0) := Or.inr (Or.inr (Or.inr (Or.inr ⟨Nat.le_of_ble_eq_true rfl, mt_134, Or.inl ⟨rfl, p_wi (p_t7 (List.mem_of_getElem? (i := 133) rfl)) rfl, mi_134, mz_134⟩⟩)))
theorem mo_232 : p_mlP ("HutAnswersModel", 430, 246, 0) := Or.inr (Or.inr (Or.inr (Or.inr ⟨Nat.le_of_ble_eq_true rfl, mt_246, Or.inl ⟨rfl, p_wi (p_t7 (List.mem_of_getElem? (i := 137) rfl)) rfl, mi_246, mz_246⟩⟩)))
theorem mo_233 : p_mlP ("HutAnswersModel", 433, 244, 0) := Or.inr (Or.inr (Or.inr (Or.inr ⟨Nat.le_of_ble_eq_true rfl, mt_244, Or.inl ⟨rfl, p_wi (p_t7 (List.mem_of_getElem? (i := 141) rfl)) rfl, mi_244, mz_244⟩⟩)))
theorem mo_234 : p_mlP ("HutAnswersModel", 436, 245, 0) := Or.inr (Or.inr (Or.inr (Or.inr ⟨Nat.le_of_ble_eq_true rfl, mt_245, Or.inl ⟨rfl, p_wi (p_t7 (List.mem_of_getElem? (i := 145) rfl)) rfl, mi_245, mz_245⟩⟩)))
theorem mo_235 : p_mlP ("HutAnswersModel", 439, 140, 0) := Or.inr (Or.inr (Or.inr (Or.inr ⟨Nat.le_of_ble_eq_true rfl, mt_140, Or.inl ⟨rfl, p_wi (p_t7 (List.mem_of_getElem? (i := 157) rfl)) rfl, mi_140, mz_140⟩⟩)))
theorem mo_236 : p_mlP ("HutAnswersModel", 442, 248, 0) := Or.inr (Or.inr (Or.inr (Or.inr ⟨Nat.le_of_ble_eq_true rfl, mt_248, Or.inl ⟨rfl, p_wi (p_t7 (List.mem_of_getElem? (i := 161) rfl)) rfl, mi_248, mz_248⟩⟩)))
theorem mo_237 : p_mlP ("HutAnswersModel", 448, 251, 0) := Or.inr (Or.inr (Or.inr (Or.inr ⟨Nat.le_of_ble_eq_true rfl, mt_251, Or.inl ⟨rfl, p_wi (p_t7 (List.mem_of_getElem? (i := 173) rfl)) rfl, mi_251, mz_251⟩⟩)))
theorem mo_238 : p_mlP ("HutAnswersModel", 454, 257, 0) := Or.inr (Or.inr (Or.inr (Or.inr ⟨Nat.le_of_ble_eq_true rfl, mt_257, Or.inl ⟨rfl, p_wi (p_t7 (List.mem_of_getElem? (i := 177) rfl)) rfl, mi_257, mz_257⟩⟩)))
theorem mo_239 : p_mlP ("HutAnswersModel", 457, 252, 0) := Or.inr (Or.inr (Or.inr (Or.inr ⟨Nat.le_of_ble_eq_true rfl, mt_252, Or.inl ⟨rfl, p_wi (p_t7 (List.mem_of_getElem? (i := 194) rfl)) rfl, mi_252, mz_252⟩⟩)))
theorem mo_240 : p_mlP ("HutAnswersModel", 480, 255, 1) := Or.inr (Or.inr (Or.inr (Or.inr ⟨Nat.le_of_ble_eq_true rfl, mt_255, Or.inr (Or.inl ⟨rfl, p_wi (p_t7 (List.mem_of_getElem? (i := 189) rfl)) rfl, ms_255⟩)⟩)))
theorem mo_241 : p_mlP ("HutAnswersModel", 484, 254, 0) := Or.inr (Or.inr (Or.inr (Or.inr ⟨Nat.le_of_ble_eq_true rfl, mt_254, Or.inl ⟨rfl, p_wi (p_t7 (List.mem_of_getElem? (i := 181) rfl)) rfl, mi_254, mz_254⟩⟩)))
theorem mo_242 : p_mlP ("HutAnswersModel", 488, 256, 0) := Or.inr (Or.inr (Or.inr (Or.inr ⟨Nat.le_of_ble_eq_true rfl, mt_256, Or.inl ⟨rfl, p_wi (p_t7 (List.mem_of_getElem? (i := 185) rfl)) rfl, mi_256, mz_256⟩⟩)))
theorem mo_243 : p_mlP ("HutAnswersModel", 500, 258, 0) := Or.inr (Or.inr (Or.inr (Or.inr ⟨Nat.le_of_ble_eq_true rfl, mt_258, Or.inl ⟨rfl, p_wi (p_t7 (List.mem_of_getElem? (i := 206) rfl)) rfl, mi_258, mz_258⟩⟩)))
theorem mo_244 : p_mlP ("HutAnswersModel", 503, 259, 0) := Or.inr (Or.inr (Or.inr (Or.inr ⟨Nat.le_of_ble_eq_true rfl, mt_259, Or.inl ⟨rfl, p_wi (p_t7 (List.mem_of_getElem? (i := 213) rfl)) rfl, mi_259, mz_259⟩⟩)))
theorem mo_245 : p_mlP ("HutAnswersModel", 506, 260, 0) := Or.inr (Or.inr (Or.inr (Or.inr ⟨Nat.le_of_ble_eq_true rfl, mt_260, Or.inl ⟨rfl, p_wi (p_t7 (List.mem_of_getElem? (i := 202) rfl)) rfl, mi_260, mz_260⟩⟩)))
theorem mo_246 : p_mlP ("HutAnswersModel", 509, 261, 0) := Or.inr (Or.inr (Or.inr (Or.inr ⟨Nat.le_of_ble_eq_true rfl, mt_261, Or.inl ⟨rfl, p_wi (p_t7 (List.mem_of_getElem? (i := 217) rfl)) rfl, mi_261, mz_261⟩⟩)))
theorem mo_247 : p_mlP ("java/lang/String", 335, 271, 0) := Or.inr (Or.inr (Or.inr (Or.inr ⟨Nat.le_of_ble_eq_true rfl, mt_271, Or.inl ⟨rfl, p_wi (p_t3 (List.mem_of_getElem? (i := 50) rfl)) rfl, mi_271, mz_271⟩⟩)))
theorem mo_248 : p_mlP ("java/lang/String", 492, 272, 0) := Or.inr (Or.inr (Or.inr (Or.inr ⟨Nat.le_of_ble_eq_true rfl, mt_272, Or.inl ⟨rfl, p_wi (p_t3 (List.mem_of_getElem? (i := 60) rfl)) rfl, mi_272, mz_272⟩⟩)))
theorem mo_249 : p_mlP ("java/lang/String", 495, 274, 1) := Or.inr (Or.inr (Or.inr (Or.inr ⟨Nat.le_of_ble_eq_true rfl, mt_274, Or.inr (Or.inl ⟨rfl, p_wi (p_t3 (List.mem_of_getElem? (i := 64) rfl)) rfl, ms_274⟩)⟩)))
theorem mo_250 : p_mlP ("java/lang/String", 498, 277, 1) := Or.inr (Or.inr (Or.inr (Or.inr ⟨Nat.le_of_ble_eq_true rfl, mt_277, Or.inr (Or.inl ⟨rfl, p_wi (p_t3 (List.mem_of_getElem? (i := 75) rfl)) rfl, ms_277⟩)⟩)))
theorem mo_251 : p_mlP ("java/lang/String", 1059, 282, 1) := Or.inr (Or.inr (Or.inr (Or.inr ⟨Nat.le_of_ble_eq_true rfl, mt_282, Or.inr (Or.inl ⟨rfl, p_wi (p_t3 (List.mem_of_getElem? (i := 72) rfl)) rfl, ms_282⟩)⟩)))
theorem mo_252 : p_mlP ("java/lang/StringLatin1", 9, 273, 1) := Or.inr (Or.inr (Or.inr (Or.inr ⟨Nat.le_of_ble_eq_true rfl, mt_273, Or.inr (Or.inl ⟨rfl, p_wi (p_t3 (List.mem_of_getElem? (i := 67) rfl)) rfl, ms_273⟩)⟩)))
theorem mo_253 : p_mlP ("java/lang/StringUTF16", 67, 278, 1) := Or.inr (Or.inr (Or.inr (Or.inr ⟨Nat.le_of_ble_eq_true rfl, mt_278, Or.inr (Or.inl ⟨rfl, p_wi (p_t3 (List.mem_of_getElem? (i := 78) rfl)) rfl, ms_278⟩)⟩)))
theorem mo_254 : p_mlP ("java/lang/StringUTF16", 71, 275, 1) := Or.inr (Or.inr (Or.inr (Or.inr ⟨Nat.le_of_ble_eq_true rfl, mt_275, Or.inr (Or.inl ⟨rfl, p_wi (p_t3 (List.mem_of_getElem? (i := 85) rfl)) rfl, ms_275⟩)⟩)))
theorem mo_255 : p_mlP ("java/lang/StringUTF16", 48, 276, 1) := Or.inr (Or.inr (Or.inr (Or.inr ⟨Nat.le_of_ble_eq_true rfl, mt_276, Or.inr (Or.inl ⟨rfl, p_wi (p_t3 (List.mem_of_getElem? (i := 81) rfl)) rfl, ms_276⟩)⟩)))
theorem mo_256 : p_mlP ("java/lang/StringUTF16", 414, 273, 1) := Or.inr (Or.inr (Or.inr (Or.inr ⟨Nat.le_of_ble_eq_true rfl, mt_273, Or.inr (Or.inl ⟨rfl, p_wi (p_t3 (List.mem_of_getElem? (i := 84) rfl)) rfl, ms_273⟩)⟩)))
theorem mo_257 : p_mlP ("HutAnswersLaw", 9, 80, 2) := Or.inr (Or.inr (Or.inr (Or.inr ⟨Nat.le_of_ble_eq_true rfl, mt_80, Or.inr (Or.inr (Or.inl ⟨rfl, p_wi (p_t1 (List.mem_of_getElem? (i := 21) rfl)) rfl, mi_80, by decide +kernel, by decide +kernel⟩))⟩)))
theorem mo_258 : p_mlP ("HutAnswersLaw", 12, 133, 2) := Or.inr (Or.inr (Or.inr (Or.inr ⟨Nat.le_of_ble_eq_true rfl, mt_133, Or.inr (Or.inr (Or.inl ⟨rfl, p_wi (p_t5 (List.mem_of_getElem? (i := 8) rfl)) rfl, mi_133, by decide +kernel, by decide +kernel⟩))⟩)))
theorem mo_259 : p_mlP ("HutAnswersLaw", 13, 81, 0) := Or.inr (Or.inr (Or.inr (Or.inr ⟨Nat.le_of_ble_eq_true rfl, mt_81, Or.inl ⟨rfl, p_wi (p_t2 (List.mem_of_getElem? (i := 138) rfl)) rfl, mi_81, mz_81⟩⟩)))
theorem mo_260 : p_mlP ("HutAnswersLaw", 17, 144, 0) := Or.inr (Or.inr (Or.inr (Or.inr ⟨Nat.le_of_ble_eq_true rfl, mt_144, Or.inl ⟨rfl, p_wi (p_t5 (List.mem_of_getElem? (i := 180) rfl)) rfl, mi_144, mz_144⟩⟩)))
theorem mo_261 : p_mlP ("HutAnswersLaw", 18, 82, 0) := Or.inr (Or.inr (Or.inr (Or.inr ⟨Nat.le_of_ble_eq_true rfl, mt_82, Or.inl ⟨rfl, p_wi (p_t2 (List.mem_of_getElem? (i := 162) rfl)) rfl, mi_82, mz_82⟩⟩)))
theorem mo_262 : p_mlP ("HutAnswersLaw", 22, 147, 0) := Or.inr (Or.inr (Or.inr (Or.inr ⟨Nat.le_of_ble_eq_true rfl, mt_147, Or.inl ⟨rfl, p_wi (p_t5 (List.mem_of_getElem? (i := 188) rfl)) rfl, mi_147, mz_147⟩⟩)))
theorem mo_263 : p_mlP ("HutAnswersLaw", 23, 83, 0) := Or.inr (Or.inr (Or.inr (Or.inr ⟨Nat.le_of_ble_eq_true rfl, mt_83, Or.inl ⟨rfl, p_wi (p_t2 (List.mem_of_getElem? (i := 174) rfl)) rfl, mi_83, mz_83⟩⟩)))
theorem mo_264 : p_mlP ("HutAnswersLaw", 27, 148, 0) := Or.inr (Or.inr (Or.inr (Or.inr ⟨Nat.le_of_ble_eq_true rfl, mt_148, Or.inl ⟨rfl, p_wi (p_t5 (List.mem_of_getElem? (i := 200) rfl)) rfl, mi_148, mz_148⟩⟩)))
theorem mo_265 : p_mlP ("HutAnswersLaw", 28, 84, 0) := Or.inr (Or.inr (Or.inr (Or.inr ⟨Nat.le_of_ble_eq_true rfl, mt_84, Or.inl ⟨rfl, p_wi (p_t2 (List.mem_of_getElem? (i := 230) rfl)) rfl, mi_84, mz_84⟩⟩)))
theorem mo_266 : p_mlP ("HutAnswersLaw", 31, 149, 0) := Or.inr (Or.inr (Or.inr (Or.inr ⟨Nat.le_of_ble_eq_true rfl, mt_149, Or.inl ⟨rfl, p_wi (p_t6 (List.mem_of_getElem? (i := 53) rfl)) rfl, mi_149, mz_149⟩⟩)))
theorem mo_267 : p_mlP ("HutAnswersLaw", 32, 85, 0) := Or.inr (Or.inr (Or.inr (Or.inr ⟨Nat.le_of_ble_eq_true rfl, mt_85, Or.inl ⟨rfl, p_wi (p_t2 (List.mem_of_getElem? (i := 234) rfl)) rfl, mi_85, mz_85⟩⟩)))
theorem mo_268 : p_mlP ("HutAnswersLaw", 35, 152, 0) := Or.inr (Or.inr (Or.inr (Or.inr ⟨Nat.le_of_ble_eq_true rfl, mt_152, Or.inl ⟨rfl, p_wi (p_t6 (List.mem_of_getElem? (i := 57) rfl)) rfl, mi_152, mz_152⟩⟩)))
theorem mo_269 : p_mlP ("HutAnswersLaw", 36, 86, 0) := Or.inr (Or.inr (Or.inr (Or.inr ⟨Nat.le_of_ble_eq_true rfl, mt_86, Or.inl ⟨rfl, p_wi (p_t3 (List.mem_of_getElem? (i := 0) rfl)) rfl, mi_86, mz_86⟩⟩)))
theorem mo_270 : p_mlP ("HutAnswersLaw", 40, 156, 0) := Or.inr (Or.inr (Or.inr (Or.inr ⟨Nat.le_of_ble_eq_true rfl, mt_156, Or.inl ⟨rfl, p_wi (p_t6 (List.mem_of_getElem? (i := 79) rfl)) rfl, mi_156, mz_156⟩⟩)))
theorem mo_271 : p_mlP ("HutAnswersLaw", 41, 87, 0) := Or.inr (Or.inr (Or.inr (Or.inr ⟨Nat.le_of_ble_eq_true rfl, mt_87, Or.inl ⟨rfl, p_wi (p_t3 (List.mem_of_getElem? (i := 8) rfl)) rfl, mi_87, mz_87⟩⟩)))
theorem mo_272 : p_mlP ("HutAnswersLaw", 44, 157, 0) := Or.inr (Or.inr (Or.inr (Or.inr ⟨Nat.le_of_ble_eq_true rfl, mt_157, Or.inl ⟨rfl, p_wi (p_t6 (List.mem_of_getElem? (i := 83) rfl)) rfl, mi_157, mz_157⟩⟩)))
theorem mo_273 : p_mlP ("HutAnswersLaw", 45, 88, 0) := Or.inr (Or.inr (Or.inr (Or.inr ⟨Nat.le_of_ble_eq_true rfl, mt_88, Or.inl ⟨rfl, p_wi (p_t3 (List.mem_of_getElem? (i := 12) rfl)) rfl, mi_88, mz_88⟩⟩)))
theorem mo_274 : p_mlP ("HutAnswersLaw", 49, 154, 0) := Or.inr (Or.inr (Or.inr (Or.inr ⟨Nat.le_of_ble_eq_true rfl, mt_154, Or.inl ⟨rfl, p_wi (p_t6 (List.mem_of_getElem? (i := 67) rfl)) rfl, mi_154, mz_154⟩⟩)))
theorem mo_275 : p_mlP ("HutAnswersLaw", 50, 89, 0) := Or.inr (Or.inr (Or.inr (Or.inr ⟨Nat.le_of_ble_eq_true rfl, mt_89, Or.inl ⟨rfl, p_wi (p_t3 (List.mem_of_getElem? (i := 20) rfl)) rfl, mi_89, mz_89⟩⟩)))
theorem mo_276 : p_mlP ("HutAnswersLaw", 53, 155, 0) := Or.inr (Or.inr (Or.inr (Or.inr ⟨Nat.le_of_ble_eq_true rfl, mt_155, Or.inl ⟨rfl, p_wi (p_t6 (List.mem_of_getElem? (i := 75) rfl)) rfl, mi_155, mz_155⟩⟩)))
theorem mo_277 : p_mlP ("HutAnswersLaw", 54, 90, 0) := Or.inr (Or.inr (Or.inr (Or.inr ⟨Nat.le_of_ble_eq_true rfl, mt_90, Or.inl ⟨rfl, p_wi (p_t3 (List.mem_of_getElem? (i := 24) rfl)) rfl, mi_90, mz_90⟩⟩)))
theorem mo_278 : p_mlP ("HutAnswersLaw", 57, 181, 0) := Or.inr (Or.inr (Or.inr (Or.inr ⟨Nat.le_of_ble_eq_true rfl, mt_181, Or.inl ⟨rfl, p_wi (p_t6 (List.mem_of_getElem? (i := 87) rfl)) rfl, mi_181, mz_181⟩⟩)))
theorem mo_279 : p_mlP ("HutAnswersLaw", 58, 91, 0) := Or.inr (Or.inr (Or.inr (Or.inr ⟨Nat.le_of_ble_eq_true rfl, mt_91, Or.inl ⟨rfl, p_wi (p_t3 (List.mem_of_getElem? (i := 166) rfl)) rfl, mi_91, mz_91⟩⟩)))
theorem mo_280 : p_mlP ("HutAnswersLaw", 61, 253, 0) := Or.inr (Or.inr (Or.inr (Or.inr ⟨Nat.le_of_ble_eq_true rfl, mt_253, Or.inl ⟨rfl, p_wi (p_t7 (List.mem_of_getElem? (i := 169) rfl)) rfl, mi_253, mz_253⟩⟩)))
theorem mo_281 : p_mlP ("HutAnswersLaw", 62, 92, 0) := Or.inr (Or.inr (Or.inr (Or.inr ⟨Nat.le_of_ble_eq_true rfl, mt_92, Or.inl ⟨rfl, p_wi (p_t4 (List.mem_of_getElem? (i := 17) rfl)) rfl, mi_92, mz_92⟩⟩)))
theorem mo_282 : p_mlP ("HutAnswersLaw", 65, 182, 0) := Or.inr (Or.inr (Or.inr (Or.inr ⟨Nat.le_of_ble_eq_true rfl, mt_182, Or.inl ⟨rfl, p_wi (p_t6 (List.mem_of_getElem? (i := 178) rfl)) rfl, mi_182, mz_182⟩⟩)))
theorem mo_283 : p_mlP ("HutAnswersLaw", 66, 93, 0) := Or.inr (Or.inr (Or.inr (Or.inr ⟨Nat.le_of_ble_eq_true rfl, mt_93, Or.inl ⟨rfl, p_wi (p_t4 (List.mem_of_getElem? (i := 21) rfl)) rfl, mi_93, mz_93⟩⟩)))
theorem mo_284 : p_mlP ("HutAnswersLaw", 69, 250, 0) := Or.inr (Or.inr (Or.inr (Or.inr ⟨Nat.le_of_ble_eq_true rfl, mt_250, Or.inl ⟨rfl, p_wi (p_t7 (List.mem_of_getElem? (i := 165) rfl)) rfl, mi_250, mz_250⟩⟩)))
theorem mo_285 : p_mlP ("HutAnswersLaw", 70, 94, 0) := Or.inr (Or.inr (Or.inr (Or.inr ⟨Nat.le_of_ble_eq_true rfl, mt_94, Or.inl ⟨rfl, p_wi (p_t4 (List.mem_of_getElem? (i := 25) rfl)) rfl, mi_94, mz_94⟩⟩)))
theorem mo_286 : p_mlP ("HutAnswersLaw", 73, 184, 0) := Or.inr (Or.inr (Or.inr (Or.inr ⟨Nat.le_of_ble_eq_true rfl, mt_184, Or.inl ⟨rfl, p_wi (p_t6 (List.mem_of_getElem? (i := 182) rfl)) rfl, mi_184, mz_184⟩⟩)))
theorem mo_287 : p_mlP ("HutAnswersLaw", 74, 95, 0) := Or.inr (Or.inr (Or.inr (Or.inr ⟨Nat.le_of_ble_eq_true rfl, mt_95, Or.inl ⟨rfl, p_wi (p_t4 (List.mem_of_getElem? (i := 30) rfl)) rfl, mi_95, mz_95⟩⟩)))
theorem mo_288 : p_mlP ("HutAnswersLaw", 77, 217, 0) := Or.inr (Or.inr (Or.inr (Or.inr ⟨Nat.le_of_ble_eq_true rfl, mt_217, Or.inl ⟨rfl, p_wi (p_t6 (List.mem_of_getElem? (i := 194) rfl)) rfl, mi_217, mz_217⟩⟩)))
theorem mo_289 : p_mlP ("HutAnswersLaw", 78, 96, 0) := Or.inr (Or.inr (Or.inr (Or.inr ⟨Nat.le_of_ble_eq_true rfl, mt_96, Or.inl ⟨rfl, p_wi (p_t4 (List.mem_of_getElem? (i := 38) rfl)) rfl, mi_96, mz_96⟩⟩)))
theorem mo_290 : p_mlP ("HutAnswersLaw", 81, 218, 0) := Or.inr (Or.inr (Or.inr (Or.inr ⟨Nat.le_of_ble_eq_true rfl, mt_218, Or.inl ⟨rfl, p_wi (p_t7 (List.mem_of_getElem? (i := 0) rfl)) rfl, mi_218, mz_218⟩⟩)))
theorem mo_291 : p_mlP ("HutAnswersLaw", 82, 97, 0) := Or.inr (Or.inr (Or.inr (Or.inr ⟨Nat.le_of_ble_eq_true rfl, mt_97, Or.inl ⟨rfl, p_wi (p_t4 (List.mem_of_getElem? (i := 42) rfl)) rfl, mi_97, mz_97⟩⟩)))
theorem mo_292 : p_mlP ("HutAnswersLaw", 85, 219, 0) := Or.inr (Or.inr (Or.inr (Or.inr ⟨Nat.le_of_ble_eq_true rfl, mt_219, Or.inl ⟨rfl, p_wi (p_t7 (List.mem_of_getElem? (i := 8) rfl)) rfl, mi_219, mz_219⟩⟩)))
theorem mo_293 : p_mlP ("HutAnswersLaw", 86, 98, 0) := Or.inr (Or.inr (Or.inr (Or.inr ⟨Nat.le_of_ble_eq_true rfl, mt_98, Or.inl ⟨rfl, p_wi (p_t4 (List.mem_of_getElem? (i := 46) rfl)) rfl, mi_98, mz_98⟩⟩)))
theorem mo_294 : p_mlP ("HutAnswersLaw", 89, 220, 0) := Or.inr (Or.inr (Or.inr (Or.inr ⟨Nat.le_of_ble_eq_true rfl, mt_220, Or.inl ⟨rfl, p_wi (p_t7 (List.mem_of_getElem? (i := 23) rfl)) rfl, mi_220, mz_220⟩⟩)))
theorem mo_295 : p_mlP ("HutAnswersLaw", 90, 99, 0) := Or.inr (Or.inr (Or.inr (Or.inr ⟨Nat.le_of_ble_eq_true rfl, mt_99, Or.inl ⟨rfl, p_wi (p_t4 (List.mem_of_getElem? (i := 50) rfl)) rfl, mi_99, mz_99⟩⟩)))
theorem mo_296 : p_mlP ("HutAnswersLaw", 93, 211, 0) := Or.inr (Or.inr (Or.inr (Or.inr ⟨Nat.le_of_ble_eq_true rfl, mt_211, Or.inl ⟨rfl, p_wi (p_t6 (List.mem_of_getElem? (i := 190) rfl)) rfl, mi_211, mz_211⟩⟩)))
theorem mo_297 : p_mlP ("HutAnswersLaw", 94, 100, 0) := Or.inr (Or.inr (Or.inr (Or.inr ⟨Nat.le_of_ble_eq_true rfl, mt_100, Or.inl ⟨rfl, p_wi (p_t4 (List.mem_of_getElem? (i := 58) rfl)) rfl, mi_100, mz_100⟩⟩)))
theorem mo_298 : p_mlP ("HutAnswersLaw", 97, 222, 0) := Or.inr (Or.inr (Or.inr (Or.inr ⟨Nat.le_of_ble_eq_true rfl, mt_222, Or.inl ⟨rfl, p_wi (p_t7 (List.mem_of_getElem? (i := 35) rfl)) rfl, mi_222, mz_222⟩⟩)))
theorem mo_299 : p_mlP ("HutAnswersLaw", 98, 101, 0) := Or.inr (Or.inr (Or.inr (Or.inr ⟨Nat.le_of_ble_eq_true rfl, mt_101, Or.inl ⟨rfl, p_wi (p_t4 (List.mem_of_getElem? (i := 70) rfl)) rfl, mi_101, mz_101⟩⟩)))
theorem mo_300 : p_mlP ("HutAnswersLaw", 101, 223, 0) := Or.inr (Or.inr (Or.inr (Or.inr ⟨Nat.le_of_ble_eq_true rfl, mt_223, Or.inl ⟨rfl, p_wi (p_t7 (List.mem_of_getElem? (i := 46) rfl)) rfl, mi_223, mz_223⟩⟩)))
theorem mo_301 : p_mlP ("HutAnswersLaw", 102, 102, 0) := Or.inr (Or.inr (Or.inr (Or.inr ⟨Nat.le_of_ble_eq_true rfl, mt_102, Or.inl ⟨rfl, p_wi (p_t4 (List.mem_of_getElem? (i := 75) rfl)) rfl, mi_102, mz_102⟩⟩)))
theorem mo_302 : p_mlP ("HutAnswersLaw", 105, 231, 0) := Or.inr (Or.inr (Or.inr (Or.inr ⟨Nat.le_of_ble_eq_true rfl, mt_231, Or.inl ⟨rfl, p_wi (p_t7 (List.mem_of_getElem? (i := 50) rfl)) rfl, mi_231, mz_231⟩⟩)))
theorem mo_303 : p_mlP ("HutAnswersLaw", 106, 103, 0) := Or.inr (Or.inr (Or.inr (Or.inr ⟨Nat.le_of_ble_eq_true rfl, mt_103, Or.inl ⟨rfl, p_wi (p_t4 (List.mem_of_getElem? (i := 119) rfl)) rfl, mi_103, mz_103⟩⟩)))
theorem mo_304 : p_mlP ("HutAnswersLaw", 109, 232, 0) := Or.inr (Or.inr (Or.inr (Or.inr ⟨Nat.le_of_ble_eq_true rfl, mt_232, Or.inl ⟨rfl, p_wi (p_t7 (List.mem_of_getElem? (i := 81) rfl)) rfl, mi_232, mz_232⟩⟩)))
theorem mo_305 : p_mlP ("HutAnswersLaw", 110, 104, 0) := Or.inr (Or.inr (Or.inr (Or.inr ⟨Nat.le_of_ble_eq_true rfl, mt_104, Or.inl ⟨rfl, p_wi (p_t4 (List.mem_of_getElem? (i := 123) rfl)) rfl, mi_104, mz_104⟩⟩)))
theorem mo_306 : p_mlP ("HutAnswersLaw", 113, 238, 0) := Or.inr (Or.inr (Or.inr (Or.inr ⟨Nat.le_of_ble_eq_true rfl, mt_238, Or.inl ⟨rfl, p_wi (p_t7 (List.mem_of_getElem? (i := 89) rfl)) rfl, mi_238, mz_238⟩⟩)))
theorem mo_307 : p_mlP ("HutAnswersLaw", 114, 105, 0) := Or.inr (Or.inr (Or.inr (Or.inr ⟨Nat.le_of_ble_eq_true rfl, mt_105, Or.inl ⟨rfl, p_wi (p_t4 (List.mem_of_getElem? (i := 146) rfl)) rfl, mi_105, mz_105⟩⟩)))
theorem mo_308 : p_mlP ("HutAnswersLaw", 117, 239, 0) := Or.inr (Or.inr (Or.inr (Or.inr ⟨Nat.le_of_ble_eq_true rfl, mt_239, Or.inl ⟨rfl, p_wi (p_t7 (List.mem_of_getElem? (i := 109) rfl)) rfl, mi_239, mz_239⟩⟩)))
theorem mo_309 : p_mlP ("HutAnswersLaw", 118, 106, 0) := Or.inr (Or.inr (Or.inr (Or.inr ⟨Nat.le_of_ble_eq_true rfl, mt_106, Or.inl ⟨rfl, p_wi (p_t4 (List.mem_of_getElem? (i := 154) rfl)) rfl, mi_106, mz_106⟩⟩)))
theorem mo_310 : p_mlP ("HutAnswersLaw", 121, 243, 0) := Or.inr (Or.inr (Or.inr (Or.inr ⟨Nat.le_of_ble_eq_true rfl, mt_243, Or.inl ⟨rfl, p_wi (p_t7 (List.mem_of_getElem? (i := 113) rfl)) rfl, mi_243, mz_243⟩⟩)))
theorem mo_311 : p_mlP ("HutAnswersLaw", 122, 107, 0) := Or.inr (Or.inr (Or.inr (Or.inr ⟨Nat.le_of_ble_eq_true rfl, mt_107, Or.inl ⟨rfl, p_wi (p_t4 (List.mem_of_getElem? (i := 183) rfl)) rfl, mi_107, mz_107⟩⟩)))
theorem mo_312 : p_mlP ("HutAnswersLaw", 126, 247, 0) := Or.inr (Or.inr (Or.inr (Or.inr ⟨Nat.le_of_ble_eq_true rfl, mt_247, Or.inl ⟨rfl, p_wi (p_t7 (List.mem_of_getElem? (i := 129) rfl)) rfl, mi_247, mz_247⟩⟩)))
theorem mo_313 : p_mlP ("HutAnswersLaw", 127, 108, 0) := Or.inr (Or.inr (Or.inr (Or.inr ⟨Nat.le_of_ble_eq_true rfl, mt_108, Or.inl ⟨rfl, p_wi (p_t4 (List.mem_of_getElem? (i := 197) rfl)) rfl, mi_108, mz_108⟩⟩)))
theorem mo_314 : p_mlP ("HutAnswersLaw", 130, 249, 0) := Or.inr (Or.inr (Or.inr (Or.inr ⟨Nat.le_of_ble_eq_true rfl, mt_249, Or.inl ⟨rfl, p_wi (p_t7 (List.mem_of_getElem? (i := 153) rfl)) rfl, mi_249, mz_249⟩⟩)))
theorem mo_315 : p_mlP ("HutAnswersLaw", 131, 109, 0) := Or.inr (Or.inr (Or.inr (Or.inr ⟨Nat.le_of_ble_eq_true rfl, mt_109, Or.inl ⟨rfl, p_wi (p_t4 (List.mem_of_getElem? (i := 205) rfl)) rfl, mi_109, mz_109⟩⟩)))
theorem mo_316 : p_mlP ("HutAnswersLaw", 134, 233, 0) := Or.inr (Or.inr (Or.inr (Or.inr ⟨Nat.le_of_ble_eq_true rfl, mt_233, Or.inl ⟨rfl, p_wi (p_t7 (List.mem_of_getElem? (i := 85) rfl)) rfl, mi_233, mz_233⟩⟩)))
theorem mo_317 : p_mlP ("HutAnswersLaw", 135, 110, 0) := Or.inr (Or.inr (Or.inr (Or.inr ⟨Nat.le_of_ble_eq_true rfl, mt_110, Or.inl ⟨rfl, p_wi (p_t4 (List.mem_of_getElem? (i := 209) rfl)) rfl, mi_110, mz_110⟩⟩)))
theorem mo_318 : p_mlP ("HutAnswersLaw", 138, 262, 0) := Or.inr (Or.inr (Or.inr (Or.inr ⟨Nat.le_of_ble_eq_true rfl, mt_262, Or.inl ⟨rfl, p_wi (p_t7 (List.mem_of_getElem? (i := 198) rfl)) rfl, mi_262, mz_262⟩⟩)))
theorem mo_319 : p_mlP ("HutAnswersLaw", 139, 111, 0) := Or.inr (Or.inr (Or.inr (Or.inr ⟨Nat.le_of_ble_eq_true rfl, mt_111, Or.inl ⟨rfl, p_wi (p_t4 (List.mem_of_getElem? (i := 224) rfl)) rfl, mi_111, mz_111⟩⟩)))
theorem mo_320 : p_mlP ("HutAnswersLaw", 142, 263, 0) := Or.inr (Or.inr (Or.inr (Or.inr ⟨Nat.le_of_ble_eq_true rfl, mt_263, Or.inl ⟨rfl, p_wi (p_t7 (List.mem_of_getElem? (i := 221) rfl)) rfl, mi_263, mz_263⟩⟩)))
theorem mo_321 : p_mlP ("HutAnswersLaw", 143, 112, 0) := Or.inr (Or.inr (Or.inr (Or.inr ⟨Nat.le_of_ble_eq_true rfl, mt_112, Or.inl ⟨rfl, p_wi (p_t4 (List.mem_of_getElem? (i := 228) rfl)) rfl, mi_112, mz_112⟩⟩)))
theorem mo_322 : p_mlP ("HutAnswersLaw", 146, 136, 0) := Or.inr (Or.inr (Or.inr (Or.inr ⟨Nat.le_of_ble_eq_true rfl, mt_136, Or.inl ⟨rfl, p_wi (p_t5 (List.mem_of_getElem? (i := 157) rfl)) rfl, mi_136, mz_136⟩⟩)))
theorem mo_323 : p_mlP ("HutAnswersLaw", 147, 113, 0) := Or.inr (Or.inr (Or.inr (Or.inr ⟨Nat.le_of_ble_eq_true rfl, mt_113, Or.inl ⟨rfl, p_wi (p_t4 (List.mem_of_getElem? (i := 232) rfl)) rfl, mi_113, mz_113⟩⟩)))
theorem mo_324 : p_mlP ("HutAnswersLaw", 150, 137, 0) := Or.inr (Or.inr (Or.inr (Or.inr ⟨Nat.le_of_ble_eq_true rfl, mt_137, Or.inl ⟨rfl, p_wi (p_t5 (List.mem_of_getElem? (i := 172) rfl)) rfl, mi_137, mz_137⟩⟩)))
theorem mo_325 : p_mlP ("HutAnswersLaw", 151, 114, 0) := Or.inr (Or.inr (Or.inr (Or.inr ⟨Nat.le_of_ble_eq_true rfl, mt_114, Or.inl ⟨rfl, p_wi (p_t4 (List.mem_of_getElem? (i := 236) rfl)) rfl, mi_114, mz_114⟩⟩)))
theorem mo_326 : p_mlP ("HutAnswersLaw", 154, 264, 0) := Or.inr (Or.inr (Or.inr (Or.inr ⟨Nat.le_of_ble_eq_true rfl, mt_264, Or.inl ⟨rfl, p_wi (p_t7 (List.mem_of_getElem? (i := 225) rfl)) rfl, mi_264, mz_264⟩⟩)))
theorem mo_327 : p_mlP ("HutAnswersLaw", 155, 115, 0) := Or.inr (Or.inr (Or.inr (Or.inr ⟨Nat.le_of_ble_eq_true rfl, mt_115, Or.inl ⟨rfl, p_wi (p_t5 (List.mem_of_getElem? (i := 2) rfl)) rfl, mi_115, mz_115⟩⟩)))
theorem mo_328 : p_mlP ("HutAnswersLaw", 158, 265, 0) := Or.inr (Or.inr (Or.inr (Or.inr ⟨Nat.le_of_ble_eq_true rfl, mt_265, Or.inl ⟨rfl, p_wi (p_t7 (List.mem_of_getElem? (i := 229) rfl)) rfl, mi_265, mz_265⟩⟩)))
theorem p_fl_ok0 : ∀ q ∈ p_fl_0, p_flP q := List.forall_mem_cons.mpr ⟨fo_0, List.forall_mem_cons.mpr ⟨fo_1, List.forall_mem_cons.mpr ⟨fo_2, List.forall_mem_cons.mpr ⟨fo_3, List.forall_mem_cons.mpr ⟨fo_4, List.forall_mem_cons.mpr ⟨fo_5, List.forall_mem_cons.mpr ⟨fo_6, List.forall_mem_cons.mpr ⟨fo_7, List.forall_mem_cons.mpr ⟨fo_8, List.forall_mem_cons.mpr ⟨fo_9, List.forall_mem_cons.mpr ⟨fo_10, List.forall_mem_cons.mpr ⟨fo_11, List.forall_mem_cons.mpr ⟨fo_12, List.forall_mem_cons.mpr ⟨fo_13, List.forall_mem_cons.mpr ⟨fo_14, List.forall_mem_cons.mpr ⟨fo_15, List.forall_mem_cons.mpr ⟨fo_16, List.forall_mem_cons.mpr ⟨fo_17, List.forall_mem_cons.mpr ⟨fo_18, List.forall_mem_cons.mpr ⟨fo_19, List.forall_mem_cons.mpr ⟨fo_20, List.forall_mem_cons.mpr ⟨fo_21, List.forall_mem_cons.mpr ⟨fo_22, List.forall_mem_cons.mpr ⟨fo_23, List.forall_mem_cons.mpr ⟨fo_24, List.forall_mem_cons.mpr ⟨fo_25, List.forall_mem_cons.mpr ⟨fo_26, List.forall_mem_cons.mpr ⟨fo_27, List.forall_mem_cons.mpr ⟨fo_28, List.forall_mem_cons.mpr ⟨fo_29, List.forall_mem_cons.mpr ⟨fo_30, List.forall_mem_cons.mpr ⟨fo_31, List.forall_mem_cons.mpr ⟨fo_32, List.forall_mem_cons.mpr ⟨fo_33, List.forall_mem_cons.mpr ⟨fo_34, List.forall_mem_cons.mpr ⟨fo_35, List.forall_mem_cons.mpr ⟨fo_36, List.forall_mem_cons.mpr ⟨fo_37, List.forall_mem_cons.mpr ⟨fo_38, List.forall_mem_cons.mpr ⟨fo_39, fun _ h => absurd h List.not_mem_nil⟩⟩⟩⟩⟩⟩⟩⟩⟩⟩⟩⟩⟩⟩⟩⟩⟩⟩⟩⟩⟩⟩⟩⟩⟩⟩⟩⟩⟩⟩⟩⟩⟩⟩⟩⟩⟩⟩⟩⟩
theorem p_fl_ok1 : ∀ q ∈ p_fl_1, p_flP q := List.forall_mem_cons.mpr ⟨fo_40, List.forall_mem_cons.mpr ⟨fo_41, List.forall_mem_cons.mpr ⟨fo_42, List.forall_mem_cons.mpr ⟨fo_43, List.forall_mem_cons.mpr ⟨fo_44, List.forall_mem_cons.mpr ⟨fo_45, List.forall_mem_cons.mpr ⟨fo_46, List.forall_mem_cons.mpr ⟨fo_47, List.forall_mem_cons.mpr ⟨fo_48, List.forall_mem_cons.mpr ⟨fo_49, List.forall_mem_cons.mpr ⟨fo_50, List.forall_mem_cons.mpr ⟨fo_51, List.forall_mem_cons.mpr ⟨fo_52, List.forall_mem_cons.mpr ⟨fo_53, List.forall_mem_cons.mpr ⟨fo_54, List.forall_mem_cons.mpr ⟨fo_55, List.forall_mem_cons.mpr ⟨fo_56, List.forall_mem_cons.mpr ⟨fo_57, List.forall_mem_cons.mpr ⟨fo_58, List.forall_mem_cons.mpr ⟨fo_59, List.forall_mem_cons.mpr ⟨fo_60, List.forall_mem_cons.mpr ⟨fo_61, List.forall_mem_cons.mpr ⟨fo_62, List.forall_mem_cons.mpr ⟨fo_63, List.forall_mem_cons.mpr ⟨fo_64, List.forall_mem_cons.mpr ⟨fo_65, List.forall_mem_cons.mpr ⟨fo_66, List.forall_mem_cons.mpr ⟨fo_67, List.forall_mem_cons.mpr ⟨fo_68, List.forall_mem_cons.mpr ⟨fo_69, List.forall_mem_cons.mpr ⟨fo_70, List.forall_mem_cons.mpr ⟨fo_71, List.forall_mem_cons.mpr ⟨fo_72, List.forall_mem_cons.mpr ⟨fo_73, List.forall_mem_cons.mpr ⟨fo_74, List.forall_mem_cons.mpr ⟨fo_75, List.forall_mem_cons.mpr ⟨fo_76, List.forall_mem_cons.mpr ⟨fo_77, List.forall_mem_cons.mpr ⟨fo_78, List.forall_mem_cons.mpr ⟨fo_79, fun _ h => absurd h List.not_mem_nil⟩⟩⟩⟩⟩⟩⟩⟩⟩⟩⟩⟩⟩⟩⟩⟩⟩⟩⟩⟩⟩⟩⟩⟩⟩⟩⟩⟩⟩⟩⟩⟩⟩⟩⟩⟩⟩⟩⟩⟩
theorem p_fl_ok2 : ∀ q ∈ p_fl_2, p_flP q := List.forall_mem_cons.mpr ⟨fo_80, List.forall_mem_cons.mpr ⟨fo_81, List.forall_mem_cons.mpr ⟨fo_82, List.forall_mem_cons.mpr ⟨fo_83, List.forall_mem_cons.mpr ⟨fo_84, List.forall_mem_cons.mpr ⟨fo_85, List.forall_mem_cons.mpr ⟨fo_86, List.forall_mem_cons.mpr ⟨fo_87, List.forall_mem_cons.mpr ⟨fo_88, List.forall_mem_cons.mpr ⟨fo_89, List.forall_mem_cons.mpr ⟨fo_90, List.forall_mem_cons.mpr ⟨fo_91, List.forall_mem_cons.mpr ⟨fo_92, List.forall_mem_cons.mpr ⟨fo_93, List.forall_mem_cons.mpr ⟨fo_94, List.forall_mem_cons.mpr ⟨fo_95, List.forall_mem_cons.mpr ⟨fo_96, List.forall_mem_cons.mpr ⟨fo_97, List.forall_mem_cons.mpr ⟨fo_98, List.forall_mem_cons.mpr ⟨fo_99, List.forall_mem_cons.mpr ⟨fo_100, List.forall_mem_cons.mpr ⟨fo_101, List.forall_mem_cons.mpr ⟨fo_102, List.forall_mem_cons.mpr ⟨fo_103, List.forall_mem_cons.mpr ⟨fo_104, List.forall_mem_cons.mpr ⟨fo_105, List.forall_mem_cons.mpr ⟨fo_106, List.forall_mem_cons.mpr ⟨fo_107, List.forall_mem_cons.mpr ⟨fo_108, List.forall_mem_cons.mpr ⟨fo_109, List.forall_mem_cons.mpr ⟨fo_110, List.forall_mem_cons.mpr ⟨fo_111, List.forall_mem_cons.mpr ⟨fo_112, List.forall_mem_cons.mpr ⟨fo_113, List.forall_mem_cons.mpr ⟨fo_114, List.forall_mem_cons.mpr ⟨fo_115, List.forall_mem_cons.mpr ⟨fo_116, List.forall_mem_cons.mpr ⟨fo_117, List.forall_mem_cons.mpr ⟨fo_118, List.forall_mem_cons.mpr ⟨fo_119, fun _ h => absurd h List.not_mem_nil⟩⟩⟩⟩⟩⟩⟩⟩⟩⟩⟩⟩⟩⟩⟩⟩⟩⟩⟩⟩⟩⟩⟩⟩⟩⟩⟩⟩⟩⟩⟩⟩⟩⟩⟩⟩⟩⟩⟩⟩
theorem p_fl_ok3 : ∀ q ∈ p_fl_3, p_flP q := List.forall_mem_cons.mpr ⟨fo_120, List.forall_mem_cons.mpr ⟨fo_121, List.forall_mem_cons.mpr ⟨fo_122, List.forall_mem_cons.mpr ⟨fo_123, List.forall_mem_cons.mpr ⟨fo_124, List.forall_mem_cons.mpr ⟨fo_125, List.forall_mem_cons.mpr ⟨fo_126, List.forall_mem_cons.mpr ⟨fo_127, List.forall_mem_cons.mpr ⟨fo_128, List.forall_mem_cons.mpr ⟨fo_129, List.forall_mem_cons.mpr ⟨fo_130, List.forall_mem_cons.mpr ⟨fo_131, List.forall_mem_cons.mpr ⟨fo_132, List.forall_mem_cons.mpr ⟨fo_133, List.forall_mem_cons.mpr ⟨fo_134, List.forall_mem_cons.mpr ⟨fo_135, List.forall_mem_cons.mpr ⟨fo_136, List.forall_mem_cons.mpr ⟨fo_137, List.forall_mem_cons.mpr ⟨fo_138, List.forall_mem_cons.mpr ⟨fo_139, List.forall_mem_cons.mpr ⟨fo_140, List.forall_mem_cons.mpr ⟨fo_141, List.forall_mem_cons.mpr ⟨fo_142, List.forall_mem_cons.mpr ⟨fo_143, List.forall_mem_cons.mpr ⟨fo_144, List.forall_mem_cons.mpr ⟨fo_145, List.forall_mem_cons.mpr ⟨fo_146, List.forall_mem_cons.mpr ⟨fo_147, List.forall_mem_cons.mpr ⟨fo_148, List.forall_mem_cons.mpr ⟨fo_149, List.forall_mem_cons.mpr ⟨fo_150, List.forall_mem_cons.mpr ⟨fo_151, List.forall_mem_cons.mpr ⟨fo_152, List.forall_mem_cons.mpr ⟨fo_153, List.forall_mem_cons.mpr ⟨fo_154, List.forall_mem_cons.mpr ⟨fo_155, List.forall_mem_cons.mpr ⟨fo_156, List.forall_mem_cons.mpr ⟨fo_157, List.forall_mem_cons.mpr ⟨fo_158, List.forall_mem_cons.mpr ⟨fo_159, fun _ h => absurd h List.not_mem_nil⟩⟩⟩⟩⟩⟩⟩⟩⟩⟩⟩⟩⟩⟩⟩⟩⟩⟩⟩⟩⟩⟩⟩⟩⟩⟩⟩⟩⟩⟩⟩⟩⟩⟩⟩⟩⟩⟩⟩⟩
theorem p_fl_ok4 : ∀ q ∈ p_fl_4, p_flP q := List.forall_mem_cons.mpr ⟨fo_160, List.forall_mem_cons.mpr ⟨fo_161, List.forall_mem_cons.mpr ⟨fo_162, List.forall_mem_cons.mpr ⟨fo_163, List.forall_mem_cons.mpr ⟨fo_164, List.forall_mem_cons.mpr ⟨fo_165, List.forall_mem_cons.mpr ⟨fo_166, List.forall_mem_cons.mpr ⟨fo_167, List.forall_mem_cons.mpr ⟨fo_168, List.forall_mem_cons.mpr ⟨fo_169, List.forall_mem_cons.mpr ⟨fo_170, List.forall_mem_cons.mpr ⟨fo_171, List.forall_mem_cons.mpr ⟨fo_172, List.forall_mem_cons.mpr ⟨fo_173, List.forall_mem_cons.mpr ⟨fo_174, List.forall_mem_cons.mpr ⟨fo_175, List.forall_mem_cons.mpr ⟨fo_176, List.forall_mem_cons.mpr ⟨fo_177, List.forall_mem_cons.mpr ⟨fo_178, List.forall_mem_cons.mpr ⟨fo_179, List.forall_mem_cons.mpr ⟨fo_180, fun _ h => absurd h List.not_mem_nil⟩⟩⟩⟩⟩⟩⟩⟩⟩⟩⟩⟩⟩⟩⟩⟩⟩⟩⟩⟩⟩
theorem p_fl_ok : ∀ q ∈ p_fl, p_flP q := List.forall_mem_append.mpr ⟨p_fl_ok0, List.forall_mem_append.mpr ⟨p_fl_ok1, List.forall_mem_append.mpr ⟨p_fl_ok2, List.forall_mem_append.mpr ⟨p_fl_ok3, p_fl_ok4⟩⟩⟩⟩
theorem p_ml_ok0 : ∀ q ∈ p_ml_0, p_mlP q := List.forall_mem_cons.mpr ⟨mo_0, List.forall_mem_cons.mpr ⟨mo_1, List.forall_mem_cons.mpr ⟨mo_2, List.forall_mem_cons.mpr ⟨mo_3, List.forall_mem_cons.mpr ⟨mo_4, List.forall_mem_cons.mpr ⟨mo_5, List.forall_mem_cons.mpr ⟨mo_6, List.forall_mem_cons.mpr ⟨mo_7, List.forall_mem_cons.mpr ⟨mo_8, List.forall_mem_cons.mpr ⟨mo_9, List.forall_mem_cons.mpr ⟨mo_10, List.forall_mem_cons.mpr ⟨mo_11, List.forall_mem_cons.mpr ⟨mo_12, List.forall_mem_cons.mpr ⟨mo_13, List.forall_mem_cons.mpr ⟨mo_14, List.forall_mem_cons.mpr ⟨mo_15, List.forall_mem_cons.mpr ⟨mo_16, List.forall_mem_cons.mpr ⟨mo_17, List.forall_mem_cons.mpr ⟨mo_18, List.forall_mem_cons.mpr ⟨mo_19, List.forall_mem_cons.mpr ⟨mo_20, List.forall_mem_cons.mpr ⟨mo_21, List.forall_mem_cons.mpr ⟨mo_22, List.forall_mem_cons.mpr ⟨mo_23, List.forall_mem_cons.mpr ⟨mo_24, List.forall_mem_cons.mpr ⟨mo_25, List.forall_mem_cons.mpr ⟨mo_26, List.forall_mem_cons.mpr ⟨mo_27, List.forall_mem_cons.mpr ⟨mo_28, List.forall_mem_cons.mpr ⟨mo_29, List.forall_mem_cons.mpr ⟨mo_30, List.forall_mem_cons.mpr ⟨mo_31, List.forall_mem_cons.mpr ⟨mo_32, List.forall_mem_cons.mpr ⟨mo_33, List.forall_mem_cons.mpr ⟨mo_34, List.forall_mem_cons.mpr ⟨mo_35, List.forall_mem_cons.mpr ⟨mo_36, List.forall_mem_cons.mpr ⟨mo_37, List.forall_mem_cons.mpr ⟨mo_38, List.forall_mem_cons.mpr ⟨mo_39, fun _ h => absurd h List.not_mem_nil⟩⟩⟩⟩⟩⟩⟩⟩⟩⟩⟩⟩⟩⟩⟩⟩⟩⟩⟩⟩⟩⟩⟩⟩⟩⟩⟩⟩⟩⟩⟩⟩⟩⟩⟩⟩⟩⟩⟩⟩
theorem p_ml_ok1 : ∀ q ∈ p_ml_1, p_mlP q := List.forall_mem_cons.mpr ⟨mo_40, List.forall_mem_cons.mpr ⟨mo_41, List.forall_mem_cons.mpr ⟨mo_42, List.forall_mem_cons.mpr ⟨mo_43, List.forall_mem_cons.mpr ⟨mo_44, List.forall_mem_cons.mpr ⟨mo_45, List.forall_mem_cons.mpr ⟨mo_46, List.forall_mem_cons.mpr ⟨mo_47, List.forall_mem_cons.mpr ⟨mo_48, List.forall_mem_cons.mpr ⟨mo_49, List.forall_mem_cons.mpr ⟨mo_50, List.forall_mem_cons.mpr ⟨mo_51, List.forall_mem_cons.mpr ⟨mo_52, List.forall_mem_cons.mpr ⟨mo_53, List.forall_mem_cons.mpr ⟨mo_54, List.forall_mem_cons.mpr ⟨mo_55, List.forall_mem_cons.mpr ⟨mo_56, List.forall_mem_cons.mpr ⟨mo_57, List.forall_mem_cons.mpr ⟨mo_58, List.forall_mem_cons.mpr ⟨mo_59, List.forall_mem_cons.mpr ⟨mo_60, List.forall_mem_cons.mpr ⟨mo_61, List.forall_mem_cons.mpr ⟨mo_62, List.forall_mem_cons.mpr ⟨mo_63, List.forall_mem_cons.mpr ⟨mo_64, List.forall_mem_cons.mpr ⟨mo_65, List.forall_mem_cons.mpr ⟨mo_66, List.forall_mem_cons.mpr ⟨mo_67, List.forall_mem_cons.mpr ⟨mo_68, List.forall_mem_cons.mpr ⟨mo_69, List.forall_mem_cons.mpr ⟨mo_70, List.forall_mem_cons.mpr ⟨mo_71, List.forall_mem_cons.mpr ⟨mo_72, List.forall_mem_cons.mpr ⟨mo_73, List.forall_mem_cons.mpr ⟨mo_74, List.forall_mem_cons.mpr ⟨mo_75, List.forall_mem_cons.mpr ⟨mo_76, List.forall_mem_cons.mpr ⟨mo_77, List.forall_mem_cons.mpr ⟨mo_78, List.forall_mem_cons.mpr ⟨mo_79, fun _ h => absurd h List.not_mem_nil⟩⟩⟩⟩⟩⟩⟩⟩⟩⟩⟩⟩⟩⟩⟩⟩⟩⟩⟩⟩⟩⟩⟩⟩⟩⟩⟩⟩⟩⟩⟩⟩⟩⟩⟩⟩⟩⟩⟩⟩
theorem p_ml_ok2 : ∀ q ∈ p_ml_2, p_mlP q := List.forall_mem_cons.mpr ⟨mo_80, List.forall_mem_cons.mpr ⟨mo_81, List.forall_mem_cons.mpr ⟨mo_82, List.forall_mem_cons.mpr ⟨mo_83, List.forall_mem_cons.mpr ⟨mo_84, List.forall_mem_cons.mpr ⟨mo_85, List.forall_mem_cons.mpr ⟨mo_86, List.forall_mem_cons.mpr ⟨mo_87, List.forall_mem_cons.mpr ⟨mo_88, List.forall_mem_cons.mpr ⟨mo_89, List.forall_mem_cons.mpr ⟨mo_90, List.forall_mem_cons.mpr ⟨mo_91, List.forall_mem_cons.mpr ⟨mo_92, List.forall_mem_cons.mpr ⟨mo_93, List.forall_mem_cons.mpr ⟨mo_94, List.forall_mem_cons.mpr ⟨mo_95, List.forall_mem_cons.mpr ⟨mo_96, List.forall_mem_cons.mpr ⟨mo_97, List.forall_mem_cons.mpr ⟨mo_98, List.forall_mem_cons.mpr ⟨mo_99, List.forall_mem_cons.mpr ⟨mo_100, List.forall_mem_cons.mpr ⟨mo_101, List.forall_mem_cons.mpr ⟨mo_102, List.forall_mem_cons.mpr ⟨mo_103, List.forall_mem_cons.mpr ⟨mo_104, List.forall_mem_cons.mpr ⟨mo_105, List.forall_mem_cons.mpr ⟨mo_106, List.forall_mem_cons.mpr ⟨mo_107, List.forall_mem_cons.mpr ⟨mo_108, List.forall_mem_cons.mpr ⟨mo_109, List.forall_mem_cons.mpr ⟨mo_110, List.forall_mem_cons.mpr ⟨mo_111, List.forall_mem_cons.mpr ⟨mo_112, List.forall_mem_cons.mpr ⟨mo_113, List.forall_mem_cons.mpr ⟨mo_114, List.forall_mem_cons.mpr ⟨mo_115, List.forall_mem_cons.mpr ⟨mo_116, List.forall_mem_cons.mpr ⟨mo_117, List.forall_mem_cons.mpr ⟨mo_118, List.forall_mem_cons.mpr ⟨mo_119, fun _ h => absurd h List.not_mem_nil⟩⟩⟩⟩⟩⟩⟩⟩⟩⟩⟩⟩⟩⟩⟩⟩⟩⟩⟩⟩⟩⟩⟩⟩⟩⟩⟩⟩⟩⟩⟩⟩⟩⟩⟩⟩⟩⟩⟩⟩
theorem p_ml_ok3 : ∀ q ∈ p_ml_3, p_mlP q := List.forall_mem_cons.mpr ⟨mo_120, List.forall_mem_cons.mpr ⟨mo_121, List.forall_mem_cons.mpr ⟨mo_122, List.forall_mem_cons.mpr ⟨mo_123, List.forall_mem_cons.mpr ⟨mo_124, List.forall_mem_cons.mpr ⟨mo_125, List.forall_mem_cons.mpr ⟨mo_126, List.forall_mem_cons.mpr ⟨mo_127, List.forall_mem_cons.mpr ⟨mo_128, List.forall_mem_cons.mpr ⟨mo_129, List.forall_mem_cons.mpr ⟨mo_130, List.forall_mem_cons.mpr ⟨mo_131, List.forall_mem_cons.mpr ⟨mo_132, List.forall_mem_cons.mpr ⟨mo_133, List.forall_mem_cons.mpr ⟨mo_134, List.forall_mem_cons.mpr ⟨mo_135, List.forall_mem_cons.mpr ⟨mo_136, List.forall_mem_cons.mpr ⟨mo_137, List.forall_mem_cons.mpr ⟨mo_138, List.forall_mem_cons.mpr ⟨mo_139, List.forall_mem_cons.mpr ⟨mo_140, List.forall_mem_cons.mpr ⟨mo_141, List.forall_mem_cons.mpr ⟨mo_142, List.forall_mem_cons.mpr ⟨mo_143, List.forall_mem_cons.mpr ⟨mo_144, List.forall_mem_cons.mpr ⟨mo_145, List.forall_mem_cons.mpr ⟨mo_146, List.forall_mem_cons.mpr ⟨mo_147, List.forall_mem_cons.mpr ⟨mo_148, List.forall_mem_cons.mpr ⟨mo_149, List.forall_mem_cons.mpr ⟨mo_150, List.forall_mem_cons.mpr ⟨mo_151, List.forall_mem_cons.mpr ⟨mo_152, List.forall_mem_cons.mpr ⟨mo_153, List.forall_mem_cons.mpr ⟨mo_154, List.forall_mem_cons.mpr ⟨mo_155, List.forall_mem_cons.mpr ⟨mo_156, List.forall_mem_cons.mpr ⟨mo_157, List.forall_mem_cons.mpr ⟨mo_158, List.forall_mem_cons.mpr ⟨mo_159, fun _ h => absurd h List.not_mem_nil⟩⟩⟩⟩⟩⟩⟩⟩⟩⟩⟩⟩⟩⟩⟩⟩⟩⟩⟩⟩⟩⟩⟩⟩⟩⟩⟩⟩⟩⟩⟩⟩⟩⟩⟩⟩⟩⟩⟩⟩
theorem p_ml_ok4 : ∀ q ∈ p_ml_4, p_mlP q := List.forall_mem_cons.mpr ⟨mo_160, List.forall_mem_cons.mpr ⟨mo_161, List.forall_mem_cons.mpr ⟨mo_162, List.forall_mem_cons.mpr ⟨mo_163, List.forall_mem_cons.mpr ⟨mo_164, List.forall_mem_cons.mpr ⟨mo_165, List.forall_mem_cons.mpr ⟨mo_166, List.forall_mem_cons.mpr ⟨mo_167, List.forall_mem_cons.mpr ⟨mo_168, List.forall_mem_cons.mpr ⟨mo_169, List.forall_mem_cons.mpr ⟨mo_170, List.forall_mem_cons.mpr ⟨mo_171, List.forall_mem_cons.mpr ⟨mo_172, List.forall_mem_cons.mpr ⟨mo_173, List.forall_mem_cons.mpr ⟨mo_174, List.forall_mem_cons.mpr ⟨mo_175, List.forall_mem_cons.mpr ⟨mo_176, List.forall_mem_cons.mpr ⟨mo_177, List.forall_mem_cons.mpr ⟨mo_178, List.forall_mem_cons.mpr ⟨mo_179, List.forall_mem_cons.mpr ⟨mo_180, List.forall_mem_cons.mpr ⟨mo_181, List.forall_mem_cons.mpr ⟨mo_182, List.forall_mem_cons.mpr ⟨mo_183, List.forall_mem_cons.mpr ⟨mo_184, List.forall_mem_cons.mpr ⟨mo_185, List.forall_mem_cons.mpr ⟨mo_186, List.forall_mem_cons.mpr ⟨mo_187, List.forall_mem_cons.mpr ⟨mo_188, List.forall_mem_cons.mpr ⟨mo_189, List.forall_mem_cons.mpr ⟨mo_190, List.forall_mem_cons.mpr ⟨mo_191, List.forall_mem_cons.mpr ⟨mo_192, List.forall_mem_cons.mpr ⟨mo_193, List.forall_mem_cons.mpr ⟨mo_194, List.forall_mem_cons.mpr ⟨mo_195, List.forall_mem_cons.mpr ⟨mo_196, List.forall_mem_cons.mpr ⟨mo_197, List.forall_mem_cons.mpr ⟨mo_198, List.forall_mem_cons.mpr ⟨mo_199, fun _ h => absurd h List.not_mem_nil⟩⟩⟩⟩⟩⟩⟩⟩⟩⟩⟩⟩⟩⟩⟩⟩⟩⟩⟩⟩⟩⟩⟩⟩⟩⟩⟩⟩⟩⟩⟩⟩⟩⟩⟩⟩⟩⟩⟩⟩
theorem p_ml_ok5 : ∀ q ∈ p_ml_5, p_mlP q := List.forall_mem_cons.mpr ⟨mo_200, List.forall_mem_cons.mpr ⟨mo_201, List.forall_mem_cons.mpr ⟨mo_202, List.forall_mem_cons.mpr ⟨mo_203, List.forall_mem_cons.mpr ⟨mo_204, List.forall_mem_cons.mpr ⟨mo_205, List.forall_mem_cons.mpr ⟨mo_206, List.forall_mem_cons.mpr ⟨mo_207, List.forall_mem_cons.mpr ⟨mo_208, List.forall_mem_cons.mpr ⟨mo_209, List.forall_mem_cons.mpr ⟨mo_210, List.forall_mem_cons.mpr ⟨mo_211, List.forall_mem_cons.mpr ⟨mo_212, List.forall_mem_cons.mpr ⟨mo_213, List.forall_mem_cons.mpr ⟨mo_214, List.forall_mem_cons.mpr ⟨mo_215, List.forall_mem_cons.mpr ⟨mo_216, List.forall_mem_cons.mpr ⟨mo_217, List.forall_mem_cons.mpr ⟨mo_218, List.forall_mem_cons.mpr ⟨mo_219, List.forall_mem_cons.mpr ⟨mo_220, List.forall_mem_cons.mpr ⟨mo_221, List.forall_mem_cons.mpr ⟨mo_222, List.forall_mem_cons.mpr ⟨mo_223, List.forall_mem_cons.mpr ⟨mo_224, List.forall_mem_cons.mpr ⟨mo_225, List.forall_mem_cons.mpr ⟨mo_226, List.forall_mem_cons.mpr ⟨mo_227, List.forall_mem_cons.mpr ⟨mo_228, List.forall_mem_cons.mpr ⟨mo_229, List.forall_mem_cons.mpr ⟨mo_230, List.forall_mem_cons.mpr ⟨mo_231, List.forall_mem_cons.mpr ⟨mo_232, List.forall_mem_cons.mpr ⟨mo_233, List.forall_mem_cons.mpr ⟨mo_234, List.forall_mem_cons.mpr ⟨mo_235, List.forall_mem_cons.mpr ⟨mo_236, List.forall_mem_cons.mpr ⟨mo_237, List.forall_mem_cons.mpr ⟨mo_238, List.forall_mem_cons.mpr ⟨mo_239, fun _ h => absurd h List.not_mem_nil⟩⟩⟩⟩⟩⟩⟩⟩⟩⟩⟩⟩⟩⟩⟩⟩⟩⟩⟩⟩⟩⟩⟩⟩⟩⟩⟩⟩⟩⟩⟩⟩⟩⟩⟩⟩⟩⟩⟩⟩
theorem p_ml_ok6 : ∀ q ∈ p_ml_6, p_mlP q := List.forall_mem_cons.mpr ⟨mo_240, List.forall_mem_cons.mpr ⟨mo_241, List.forall_mem_cons.mpr ⟨mo_242, List.forall_mem_cons.mpr ⟨mo_243, List.forall_mem_cons.mpr ⟨mo_244, List.forall_mem_cons.mpr ⟨mo_245, List.forall_mem_cons.mpr ⟨mo_246, List.forall_mem_cons.mpr ⟨mo_247, List.forall_mem_cons.mpr ⟨mo_248, List.forall_mem_cons.mpr ⟨mo_249, List.forall_mem_cons.mpr ⟨mo_250, List.forall_mem_cons.mpr ⟨mo_251, List.forall_mem_cons.mpr ⟨mo_252, List.forall_mem_cons.mpr ⟨mo_253, List.forall_mem_cons.mpr ⟨mo_254, List.forall_mem_cons.mpr ⟨mo_255, List.forall_mem_cons.mpr ⟨mo_256, List.forall_mem_cons.mpr ⟨mo_257, List.forall_mem_cons.mpr ⟨mo_258, List.forall_mem_cons.mpr ⟨mo_259, List.forall_mem_cons.mpr ⟨mo_260, List.forall_mem_cons.mpr ⟨mo_261, List.forall_mem_cons.mpr ⟨mo_262, List.forall_mem_cons.mpr ⟨mo_263, List.forall_mem_cons.mpr ⟨mo_264, List.forall_mem_cons.mpr ⟨mo_265, List.forall_mem_cons.mpr ⟨mo_266, List.forall_mem_cons.mpr ⟨mo_267, List.forall_mem_cons.mpr ⟨mo_268, List.forall_mem_cons.mpr ⟨mo_269, List.forall_mem_cons.mpr ⟨mo_270, List.forall_mem_cons.mpr ⟨mo_271, List.forall_mem_cons.mpr ⟨mo_272, List.forall_mem_cons.mpr ⟨mo_273, List.forall_mem_cons.mpr ⟨mo_274, List.forall_mem_cons.mpr ⟨mo_275, List.forall_mem_cons.mpr ⟨mo_276, List.forall_mem_cons.mpr ⟨mo_277, List.forall_mem_cons.mpr ⟨mo_278, List.forall_mem_cons.mpr ⟨mo_279, fun _ h => absurd h List.not_mem_nil⟩⟩⟩⟩⟩⟩⟩⟩⟩⟩⟩⟩⟩⟩⟩⟩⟩⟩⟩⟩⟩⟩⟩⟩⟩⟩⟩⟩⟩⟩⟩⟩⟩⟩⟩⟩⟩⟩⟩⟩
theorem p_ml_ok7 : ∀ q ∈ p_ml_7, p_mlP q := List.forall_mem_cons.mpr ⟨mo_280, List.forall_mem_cons.mpr ⟨mo_281, List.forall_mem_cons.mpr ⟨mo_282, List.forall_mem_cons.mpr ⟨mo_283, List.forall_mem_cons.mpr ⟨mo_284, List.forall_mem_cons.mpr ⟨mo_285, List.forall_mem_cons.mpr ⟨mo_286, List.forall_mem_cons.mpr ⟨mo_287, List.forall_mem_cons.mpr ⟨mo_288, List.forall_mem_cons.mpr ⟨mo_289, List.forall_mem_cons.mpr ⟨mo_290, List.forall_mem_cons.mpr ⟨mo_291, List.forall_mem_cons.mpr ⟨mo_292, List.forall_mem_cons.mpr ⟨mo_293, List.forall_mem_cons.mpr ⟨mo_294, List.forall_mem_cons.mpr ⟨mo_295, List.forall_mem_cons.mpr ⟨mo_296, List.forall_mem_cons.mpr ⟨mo_297, List.forall_mem_cons.mpr ⟨mo_298, List.forall_mem_cons.mpr ⟨mo_299, List.forall_mem_cons.mpr ⟨mo_300, List.forall_mem_cons.mpr ⟨mo_301, List.forall_mem_cons.mpr ⟨mo_302, List.forall_mem_cons.mpr ⟨mo_303, List.forall_mem_cons.mpr ⟨mo_304, List.forall_mem_cons.mpr ⟨mo_305, List.forall_mem_cons.mpr ⟨mo_306, List.forall_mem_cons.mpr ⟨mo_307, List.forall_mem_cons.mpr ⟨mo_308, List.forall_mem_cons.mpr ⟨mo_309, List.forall_mem_cons.mpr ⟨mo_310, List.forall_mem_cons.mpr ⟨mo_311, List.forall_mem_cons.mpr ⟨mo_312, List.forall_mem_cons.mpr ⟨mo_313, List.forall_mem_cons.mpr ⟨mo_314, List.forall_mem_cons.mpr ⟨mo_315, List.forall_mem_cons.mpr ⟨mo_316, List.forall_mem_cons.mpr ⟨mo_317, List.forall_mem_cons.mpr ⟨mo_318, List.forall_mem_cons.mpr ⟨mo_319, fun _ h => absurd h List.not_mem_nil⟩⟩⟩⟩⟩⟩⟩⟩⟩⟩⟩⟩⟩⟩⟩⟩⟩⟩⟩⟩⟩⟩⟩⟩⟩⟩⟩⟩⟩⟩⟩⟩⟩⟩⟩⟩⟩⟩⟩⟩
theorem p_ml_ok8 : ∀ q ∈ p_ml_8, p_mlP q := List.forall_mem_cons.mpr ⟨mo_320, List.forall_mem_cons.mpr ⟨mo_321, List.forall_mem_cons.mpr ⟨mo_322, List.forall_mem_cons.mpr ⟨mo_323, List.forall_mem_cons.mpr ⟨mo_324, List.forall_mem_cons.mpr ⟨mo_325, List.forall_mem_cons.mpr ⟨mo_326, List.forall_mem_cons.mpr ⟨mo_327, List.forall_mem_cons.mpr ⟨mo_328, fun _ h => absurd h List.not_mem_nil⟩⟩⟩⟩⟩⟩⟩⟩⟩
theorem p_ml_ok : ∀ q ∈ p_ml, p_mlP q := List.forall_mem_append.mpr ⟨p_ml_ok0, List.forall_mem_append.mpr ⟨p_ml_ok1, List.forall_mem_append.mpr ⟨p_ml_ok2, List.forall_mem_append.mpr ⟨p_ml_ok3, List.forall_mem_append.mpr ⟨p_ml_ok4, List.forall_mem_append.mpr ⟨p_ml_ok5, List.forall_mem_append.mpr ⟨p_ml_ok6, List.forall_mem_append.mpr ⟨p_ml_ok7, p_ml_ok8⟩⟩⟩⟩⟩⟩⟩⟩
theorem p_sl_ok : ∀ q ∈ p_sl, p_slP q := List.forall_mem_cons.mpr ⟨⟨_, rfl, Or.inr ⟨rfl, (p_t3 (List.mem_of_getElem? (i := 220) rfl))⟩⟩, List.forall_mem_cons.mpr ⟨⟨_, rfl, Or.inr ⟨rfl, (p_t4 (List.mem_of_getElem? (i := 182) rfl))⟩⟩, List.forall_mem_cons.mpr ⟨⟨_, rfl, Or.inl ⟨rfl, p_wi (p_t2 (List.mem_of_getElem? (i := 238) rfl)) rfl⟩⟩, List.forall_mem_cons.mpr ⟨⟨_, rfl, Or.inl ⟨rfl, p_wi (p_t5 (List.mem_of_getElem? (i := 0) rfl)) rfl⟩⟩, List.forall_mem_cons.mpr ⟨⟨_, rfl, Or.inl ⟨rfl, p_wi (p_t3 (List.mem_of_getElem? (i := 54) rfl)) rfl⟩⟩, List.forall_mem_cons.mpr ⟨⟨_, rfl, Or.inl ⟨rfl, p_wi (p_t3 (List.mem_of_getElem? (i := 70) rfl)) rfl⟩⟩, fun _ h => absurd h List.not_mem_nil⟩⟩⟩⟩⟩⟩
theorem p_nl_ok : ∀ q ∈ p_nl, p_nlP q := List.forall_mem_cons.mpr ⟨⟨_, rfl, p_wi (p_t1 (List.mem_of_getElem? (i := 140) rfl)) rfl, p_wi (p_t1 (List.mem_of_getElem? (i := 121) rfl)) rfl, p_wi (p_t1 (List.mem_of_getElem? (i := 5) rfl)) rfl⟩, List.forall_mem_cons.mpr ⟨⟨_, rfl, p_wi (p_t1 (List.mem_of_getElem? (i := 142) rfl)) rfl, p_wi (p_t1 (List.mem_of_getElem? (i := 143) rfl)) rfl, p_wi (p_t1 (List.mem_of_getElem? (i := 7) rfl)) rfl⟩, List.forall_mem_cons.mpr ⟨⟨_, rfl, p_wi (p_t1 (List.mem_of_getElem? (i := 51) rfl)) rfl, p_wi (p_t1 (List.mem_of_getElem? (i := 52) rfl)) rfl, p_wi (p_t1 (List.mem_of_getElem? (i := 4) rfl)) rfl⟩, List.forall_mem_cons.mpr ⟨⟨_, rfl, p_wi (p_t3 (List.mem_of_getElem? (i := 161) rfl)) rfl, p_wi (p_t1 (List.mem_of_getElem? (i := 52) rfl)) rfl, p_wi (p_t1 (List.mem_of_getElem? (i := 4) rfl)) rfl⟩, List.forall_mem_cons.mpr ⟨⟨_, rfl, p_wi (p_t1 (List.mem_of_getElem? (i := 27) rfl)) rfl, p_wi (p_t1 (List.mem_of_getElem? (i := 28) rfl)) rfl, p_wi (p_t1 (List.mem_of_getElem? (i := 2) rfl)) rfl⟩, List.forall_mem_cons.mpr ⟨⟨_, rfl, p_wi (p_t1 (List.mem_of_getElem? (i := 45) rfl)) rfl, p_wi (p_t1 (List.mem_of_getElem? (i := 46) rfl)) rfl, p_wi (p_t1 (List.mem_of_getElem? (i := 3) rfl)) rfl⟩, List.forall_mem_cons.mpr ⟨⟨_, rfl, p_wi (p_t1 (List.mem_of_getElem? (i := 120) rfl)) rfl, p_wi (p_t1 (List.mem_of_getElem? (i := 121) rfl)) rfl, p_wi (p_t1 (List.mem_of_getElem? (i := 5) rfl)) rfl⟩, List.forall_mem_cons.mpr ⟨⟨_, rfl, p_wi (p_t1 (List.mem_of_getElem? (i := 134) rfl)) rfl, p_wi (p_t1 (List.mem_of_getElem? (i := 135) rfl)) rfl, p_wi (p_t1 (List.mem_of_getElem? (i := 6) rfl)) rfl⟩, List.forall_mem_cons.mpr ⟨⟨_, rfl, p_wi (p_t2 (List.mem_of_getElem? (i := 51) rfl)) rfl, p_wi (p_t2 (List.mem_of_getElem? (i := 52) rfl)) rfl, p_wi (p_t1 (List.mem_of_getElem? (i := 8) rfl)) rfl⟩, List.forall_mem_cons.mpr ⟨⟨_, rfl, p_wi (p_t2 (List.mem_of_getElem? (i := 62) rfl)) rfl, p_wi (p_t1 (List.mem_of_getElem? (i := 143) rfl)) rfl, p_wi (p_t1 (List.mem_of_getElem? (i := 7) rfl)) rfl⟩, List.forall_mem_cons.mpr ⟨⟨_, rfl, p_wi (p_t2 (List.mem_of_getElem? (i := 64) rfl)) rfl, p_wi (p_t2 (List.mem_of_getElem? (i := 65) rfl)) rfl, p_wi (p_t1 (List.mem_of_getElem? (i := 9) rfl)) rfl⟩, List.forall_mem_cons.mpr ⟨⟨_, rfl, p_wi (p_t1 (List.mem_of_getElem? (i := 19) rfl)) rfl, p_wi (p_t1 (List.mem_of_getElem? (i := 20) rfl)) rfl, p_wi (p_t1 (List.mem_of_getElem? (i := 1) rfl)) rfl⟩, List.forall_mem_cons.mpr ⟨⟨_, rfl, p_wi (p_t5 (List.mem_of_getElem? (i := 6) rfl)) rfl, p_wi (p_t5 (List.mem_of_getElem? (i := 7) rfl)) rfl, p_wi (p_t1 (List.mem_of_getElem? (i := 10) rfl)) rfl⟩, fun _ h => absurd h List.not_mem_nil⟩⟩⟩⟩⟩⟩⟩⟩⟩⟩⟩⟩⟩
theorem p_aq_ok : ∀ q ∈ p_aq, p_aqP q := List.forall_mem_cons.mpr ⟨⟨p_wi (p_t1 (List.mem_of_getElem? (i := 148) rfl)) rfl, (p_t1 (List.mem_of_getElem? (i := 149) rfl))⟩, List.forall_mem_cons.mpr ⟨⟨p_wi (p_t2 (List.mem_of_getElem? (i := 62) rfl)) rfl, (p_t2 (List.mem_of_getElem? (i := 81) rfl))⟩, fun _ h => absurd h List.not_mem_nil⟩⟩
def p_cnP (e : Nat) (q : String × Nat) : Prop := Cond.constant q.1 q.2 (p_cn e) ∈ p_tb
theorem cq_0 : p_cnP 0 ("HutAnswers$Draws", 13) := p_wi (p_t4 (List.mem_of_getElem? (i := 222) rfl)) rfl
theorem cq_1 : p_cnP 1 ("HutAnswers$Hut", 70) := p_wi (p_t2 (List.mem_of_getElem? (i := 169) rfl)) rfl
theorem cq_2 : p_cnP 2 ("HutAnswers$Judge", 74) := p_wi (p_t2 (List.mem_of_getElem? (i := 212) rfl)) rfl
theorem cq_3 : p_cnP 3 ("HutAnswers", 280) := p_wi (p_t4 (List.mem_of_getElem? (i := 213) rfl)) rfl
theorem cq_4 : p_cnP 4 ("HutAnswers", 319) := p_wi (p_t3 (List.mem_of_getElem? (i := 197) rfl)) rfl
theorem cq_5 : p_cnP 5 ("HutAnswersModel", 104) := p_wi (p_t5 (List.mem_of_getElem? (i := 195) rfl)) rfl
theorem cq_6 : p_cnP 6 ("HutAnswersModel", 162) := p_wi (p_t6 (List.mem_of_getElem? (i := 113) rfl)) rfl
theorem cq_7 : p_cnP 7 ("java/lang/Integer", 265) := p_wi (p_t2 (List.mem_of_getElem? (i := 193) rfl)) rfl
theorem cq_8 : p_cnP 8 ("java/lang/Integer", 266) := p_wi (p_t2 (List.mem_of_getElem? (i := 194) rfl)) rfl
theorem cq_9 : p_cnP 9 ("java/lang/Integer", 267) := p_wi (p_t2 (List.mem_of_getElem? (i := 195) rfl)) rfl
def p_clP (e : Nat) (q : String × Nat) : Prop := Cond.constantLong q.1 q.2 (p_clc e) ∈ p_tb
theorem cw_0 : p_clP 0 ("HutAnswers$Judge", 85) := p_wi (p_t2 (List.mem_of_getElem? (i := 216) rfl)) rfl
theorem cw_1 : p_clP 1 ("HutAnswers$Judge", 87) := p_wi (p_t2 (List.mem_of_getElem? (i := 217) rfl)) rfl
theorem cw_2 : p_clP 2 ("HutAnswersModel", 259) := p_wi (p_t6 (List.mem_of_getElem? (i := 18) rfl)) rfl
theorem cw_3 : p_clP 3 ("HutAnswersModel", 261) := p_wi (p_t6 (List.mem_of_getElem? (i := 19) rfl)) rfl
theorem cw_4 : p_clP 4 ("HutAnswersModel", 313) := p_wi (p_t6 (List.mem_of_getElem? (i := 36) rfl)) rfl
theorem cw_5 : p_clP 5 ("HutAnswersModel", 476) := p_wi (p_t7 (List.mem_of_getElem? (i := 192) rfl)) rfl
theorem cw_6 : p_clP 6 ("HutAnswersModel", 478) := p_wi (p_t7 (List.mem_of_getElem? (i := 193) rfl)) rfl
theorem cw_7 : p_clP 7 ("HutAnswersModel", 491) := p_wi (p_t7 (List.mem_of_getElem? (i := 210) rfl)) rfl
theorem cw_8 : p_clP 8 ("HutAnswersModel", 496) := p_wi (p_t7 (List.mem_of_getElem? (i := 211) rfl)) rfl
theorem cw_9 : p_clP 9 ("HutAnswersModel", 498) := p_wi (p_t7 (List.mem_of_getElem? (i := 212) rfl)) rfl
theorem p_cc_ok : ∀ (e : Nat) (q : String × Nat), p_cc[e]? = some q → p_cnP e q
  | 0, _, h => by cases h; exact cq_0
  | 1, _, h => by cases h; exact cq_1
  | 2, _, h => by cases h; exact cq_2
  | 3, _, h => by cases h; exact cq_3
  | 4, _, h => by cases h; exact cq_4
  | 5, _, h => by cases h; exact cq_5
  | 6, _, h => by cases h; exact cq_6
  | 7, _, h => by cases h; exact cq_7
  | 8, _, h => by cases h; exact cq_8
  | 9, _, h => by cases h; exact cq_9
  | n + 10, _, h => by simp [p_cc] at h
theorem p_cc2_ok : ∀ (e : Nat) (q : String × Nat), p_cc2[e]? = some q → p_clP e q
  | 0, _, h => by cases h; exact cw_0
  | 1, _, h => by cases h; exact cw_1
  | 2, _, h => by cases h; exact cw_2
  | 3, _, h => by cases h; exact cw_3
  | 4, _, h => by cases h; exact cw_4
  | 5, _, h => by cases h; exact cw_5
  | 6, _, h => by cases h; exact cw_6
  | 7, _, h => by cases h; exact cw_7
  | 8, _, h => by cases h; exact cw_8
  | 9, _, h => by cases h; exact cw_9
  | n + 10, _, h => by simp [p_cc2] at h
theorem ac_1 : Cond.arrayClass .int ∈ p_tb := p_wi (p_t1 (List.mem_of_getElem? (i := 44) rfl)) rfl
theorem ac_2 : Cond.arrayClass .byte ∈ p_tb := p_wi (p_t2 (List.mem_of_getElem? (i := 50) rfl)) rfl
theorem ac_3 : Cond.arrayClass .boolean ∈ p_tb := p_wi (p_t2 (List.mem_of_getElem? (i := 137) rfl)) rfl
theorem ac_4 : Cond.arrayClass .long ∈ p_tb := p_wi (p_t2 (List.mem_of_getElem? (i := 49) rfl)) rfl
theorem ob_i : Cond.instanceMethod objectInit ∈ p_tb := p_wi (p_t1 (List.mem_of_getElem? (i := 25) rfl)) rfl
theorem ob_c : Cond.code objectInit ⟨#[0xb1]⟩ 1 none ∈ p_tb := p_wi (p_t1 (List.mem_of_getElem? (i := 26) rfl)) rfl
theorem ma_max : Cond.static Lib.Math.max.name ∈ p_tb := p_wi (p_t3 (List.mem_of_getElem? (i := 238) rfl)) rfl
theorem mb_max : Cond.code Lib.Math.max.name Lib.Math.max.code 2 (some .int) ∈ p_tb := p_wi (p_t3 (List.mem_of_getElem? (i := 239) rfl)) rfl
theorem ma_min : Cond.static Lib.Math.min.name ∈ p_tb := p_wi (p_t3 (List.mem_of_getElem? (i := 227) rfl)) rfl
theorem mb_min : Cond.code Lib.Math.min.name Lib.Math.min.code 2 (some .int) ∈ p_tb := p_wi (p_t3 (List.mem_of_getElem? (i := 228) rfl)) rfl
theorem mc_i : Cond.initialized "java/lang/Math" ∈ p_tb := p_wi (p_t1 (List.mem_of_getElem? (i := 17) rfl)) rfl
theorem ay_n : Cond.native arraycopyName ∈ p_tb := p_wi (p_t3 (List.mem_of_getElem? (i := 165) rfl)) rfl
theorem ay_s : Cond.static arraycopyName ∈ p_tb := p_wi (p_t3 (List.mem_of_getElem? (i := 164) rfl)) rfl
theorem ay_i : Cond.initialized "java/lang/System" ∈ p_tb := p_wi (p_t1 (List.mem_of_getElem? (i := 16) rfl)) rfl
theorem ig_X0 : ∀ w ∈ wsX00, w ∈ p_tb := fun w h => p_wi (inX0 w h) (by revert w; decide +kernel)
theorem ig_X1 : ∀ w ∈ wsX10, w ∈ p_tb := fun w h => p_wi (inX1 w h) (by revert w; decide +kernel)
theorem ig_X2 : ∀ w ∈ wsX20, w ∈ p_tb := fun w h => p_wi (inX2 w h) (by revert w; decide +kernel)
theorem ig_X3 : ∀ w ∈ wsX30, w ∈ p_tb := fun w h => p_wi (inX3 w h) (by revert w; decide +kernel)
theorem ig_X4 : ∀ w ∈ wsX40, w ∈ p_tb := fun w h => p_wi (inX4 w h) (by revert w; decide +kernel)
theorem ig_X5 : ∀ w ∈ wsX50, w ∈ p_tb := fun w h => p_wi (inX5 w h) (by revert w; decide +kernel)
theorem ig_X6 : ∀ w ∈ wsX60, w ∈ p_tb := fun w h => p_wi (inX6 w h) (by revert w; decide +kernel)
theorem ig_X7 : ∀ w ∈ wsX70, w ∈ p_tb := fun w h => p_wi (inX7 w h) (by revert w; decide +kernel)
theorem ig_X8 : ∀ w ∈ wsX80, w ∈ p_tb := fun w h => p_wi (inX8 w h) (by revert w; decide +kernel)
theorem ig_X9 : ∀ w ∈ wsX90, w ∈ p_tb := fun w h => p_wi (inX9 w h) (by revert w; decide +kernel)
