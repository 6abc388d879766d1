def zJInt : String := "java/lang/Integer"
def zJLong : String := "java/lang/Long"
def zJMath : String := "java/lang/Math"
def zJArr : String := "java/util/Arrays"
def zJLaw : String := "StateFramesLaw"
theorem oi_i : Cond.instanceMethod objectInit ∈ zB := (zi1 _ (List.mem_of_getElem? (i := 25) rfl) rfl)
theorem oi_c : Cond.code objectInit ⟨#[0xb1]⟩ 1 none ∈ zB := (zi1 _ (List.mem_of_getElem? (i := 26) rfl) rfl)
theorem ac_n : Cond.native arraycopyName ∈ zB := (zi3 _ (List.mem_of_getElem? (i := 140) rfl) rfl)
theorem ac_s : Cond.static arraycopyName ∈ zB := (zi3 _ (List.mem_of_getElem? (i := 139) rfl) rfl)
theorem ac_i : Cond.initialized "java/lang/System" ∈ zB := (zi1 _ (List.mem_of_getElem? (i := 17) rfl) rfl)
theorem ac_0 : Cond.arrayClass (zat 0) ∈ zB := (zi1 _ (List.mem_of_getElem? (i := 127) rfl) rfl)
theorem ac_1 : Cond.arrayClass (zat 1) ∈ zB := (zi1 _ (List.mem_of_getElem? (i := 48) rfl) rfl)
theorem ac_2 : Cond.arrayClass (zat 2) ∈ zB := (zi2 _ (List.mem_of_getElem? (i := 176) rfl) rfl)
theorem ac_3 : Cond.arrayClass (zat 3) ∈ zB := (zi5 _ (List.mem_of_getElem? (i := 116) rfl) rfl)
theorem ini_0 : Cond.initialized zR0 ∈ zB := (zi1 _ (List.mem_of_getElem? (i := 1) rfl) rfl)
theorem ins_0 : Cond.instantiable zR0 6 ∈ zB := (zi1 _ (List.mem_of_getElem? (i := 20) rfl) rfl)
theorem ini_1 : Cond.initialized zR1 ∈ zB := (zi1 _ (List.mem_of_getElem? (i := 5) rfl) rfl)
theorem ins_1 : Cond.instantiable zR1 7 ∈ zB := (zi1 _ (List.mem_of_getElem? (i := 80) rfl) rfl)
theorem ini_2 : Cond.initialized zR2 ∈ zB := (zi1 _ (List.mem_of_getElem? (i := 9) rfl) rfl)
theorem ins_2 : Cond.instantiable zR2 6 ∈ zB := (zi2 _ (List.mem_of_getElem? (i := 6) rfl) rfl)
theorem ini_3 : Cond.initialized zR3 ∈ zB := (zi1 _ (List.mem_of_getElem? (i := 3) rfl) rfl)
theorem ins_3 : Cond.instantiable zR3 8 ∈ zB := (zi1 _ (List.mem_of_getElem? (i := 51) rfl) rfl)
theorem ini_4 : Cond.initialized zR4 ∈ zB := (zi1 _ (List.mem_of_getElem? (i := 10) rfl) rfl)
theorem ins_4 : Cond.instantiable zR4 12 ∈ zB := (zi2 _ (List.mem_of_getElem? (i := 38) rfl) rfl)
theorem ini_5 : Cond.initialized zR5 ∈ zB := (zi1 _ (List.mem_of_getElem? (i := 4) rfl) rfl)
theorem ins_5 : Cond.instantiable zR5 3 ∈ zB := (zi1 _ (List.mem_of_getElem? (i := 59) rfl) rfl)
theorem ini_6 : Cond.initialized zR6 ∈ zB := (zi1 _ (List.mem_of_getElem? (i := 11) rfl) rfl)
theorem ins_6 : Cond.instantiable zR6 13 ∈ zB := (zi2 _ (List.mem_of_getElem? (i := 44) rfl) rfl)
theorem ini_7 : Cond.initialized zR7 ∈ zB := (zi1 _ (List.mem_of_getElem? (i := 8) rfl) rfl)
theorem ins_7 : Cond.instantiable zR7 6 ∈ zB := (zi1 _ (List.mem_of_getElem? (i := 210) rfl) rfl)
theorem ini_8 : Cond.initialized zR8 ∈ zB := (zi1 _ (List.mem_of_getElem? (i := 2) rfl) rfl)
theorem ins_8 : Cond.instantiable zR8 2 ∈ zB := (zi1 _ (List.mem_of_getElem? (i := 28) rfl) rfl)
theorem ini_9 : Cond.initialized zR9 ∈ zB := (zi1 _ (List.mem_of_getElem? (i := 12) rfl) rfl)
theorem ins_9 : Cond.instantiable zR9 11 ∈ zB := (zi2 _ (List.mem_of_getElem? (i := 98) rfl) rfl)
theorem ini_10 : Cond.initialized zR10 ∈ zB := (zi1 _ (List.mem_of_getElem? (i := 6) rfl) rfl)
theorem ins_10 : Cond.instantiable zR10 11 ∈ zB := (zi1 _ (List.mem_of_getElem? (i := 86) rfl) rfl)
theorem ini_11 : Cond.initialized zR11 ∈ zB := (zi1 _ (List.mem_of_getElem? (i := 7) rfl) rfl)
theorem ins_11 : Cond.instantiable zR11 3 ∈ zB := (zi1 _ (List.mem_of_getElem? (i := 129) rfl) rfl)
theorem ini_12 : Cond.initialized zR12 ∈ zB := (zi1 _ (List.mem_of_getElem? (i := 15) rfl) rfl)
theorem ins_12 : Cond.instantiable zR12 50 ∈ zB := (zi4 _ (List.mem_of_getElem? (i := 198) rfl) rfl)
theorem lk_SF_14 : zLk zR0 14 0 0 := ⟨_, rfl, Nat.le_of_ble_eq_true rfl, Or.inl (zi2 _ (List.mem_of_getElem? (i := 215) rfl) rfl)⟩
theorem lf_SF_14 : zLf zR0 14 0 0 := ⟨_, rfl, Nat.le_of_ble_eq_true rfl, (zi2 _ (List.mem_of_getElem? (i := 215) rfl) rfl), rfl, rfl⟩
theorem lk_SF_19 : zLk zR0 19 0 1 := ⟨_, rfl, Nat.le_of_ble_eq_true rfl, Or.inl (zi2 _ (List.mem_of_getElem? (i := 216) rfl) rfl)⟩
theorem lf_SF_19 : zLf zR0 19 0 1 := ⟨_, rfl, Nat.le_of_ble_eq_true rfl, (zi2 _ (List.mem_of_getElem? (i := 216) rfl) rfl), rfl, rfl⟩
theorem lk_SF_25 : zLk zR0 25 0 2 := ⟨_, rfl, Nat.le_of_ble_eq_true rfl, Or.inl (zi2 _ (List.mem_of_getElem? (i := 217) rfl) rfl)⟩
theorem lf_SF_25 : zLf zR0 25 0 2 := ⟨_, rfl, Nat.le_of_ble_eq_true rfl, (zi2 _ (List.mem_of_getElem? (i := 217) rfl) rfl), rfl, rfl⟩
theorem lk_SF_32 : zLk zR0 32 0 3 := ⟨_, rfl, Nat.le_of_ble_eq_true rfl, Or.inl (zi2 _ (List.mem_of_getElem? (i := 218) rfl) rfl)⟩
theorem lf_SF_32 : zLf zR0 32 0 3 := ⟨_, rfl, Nat.le_of_ble_eq_true rfl, (zi2 _ (List.mem_of_getElem? (i := 218) rfl) rfl), rfl, rfl⟩
theorem lk_SF_38 : zLk zR0 38 3 0 := ⟨_, rfl, Nat.le_of_ble_eq_true rfl, Or.inr ⟨_, List.mem_of_getElem? (i := 18) rfl⟩⟩
theorem lk_SF_44 : zLk zR0 44 0 4 := ⟨_, rfl, Nat.le_of_ble_eq_true rfl, Or.inl (zi2 _ (List.mem_of_getElem? (i := 219) rfl) rfl)⟩
theorem lf_SF_44 : zLf zR0 44 0 4 := ⟨_, rfl, Nat.le_of_ble_eq_true rfl, (zi2 _ (List.mem_of_getElem? (i := 219) rfl) rfl), rfl, rfl⟩
theorem lk_SF_52 : zLk zR0 52 0 5 := ⟨_, rfl, Nat.le_of_ble_eq_true rfl, Or.inl (zi2 _ (List.mem_of_getElem? (i := 220) rfl) rfl)⟩
theorem lf_SF_52 : zLf zR0 52 0 5 := ⟨_, rfl, Nat.le_of_ble_eq_true rfl, (zi2 _ (List.mem_of_getElem? (i := 220) rfl) rfl), rfl, rfl⟩
theorem lk_SF_63 : zLk zR0 63 8 1 := ⟨_, rfl, Nat.le_of_ble_eq_true rfl, Or.inr ⟨_, List.mem_of_getElem? (i := 5) rfl⟩⟩
theorem lk_SF_88 : zLk zR0 88 4 7 := ⟨_, rfl, Nat.le_of_ble_eq_true rfl, Or.inr ⟨_, List.mem_of_getElem? (i := 48) rfl⟩⟩
theorem lk_SF_98 : zLk zR0 98 7 0 := ⟨_, rfl, Nat.le_of_ble_eq_true rfl, Or.inr ⟨_, List.mem_of_getElem? (i := 27) rfl⟩⟩
theorem lk_SF_101 : zLk zR0 101 7 1 := ⟨_, rfl, Nat.le_of_ble_eq_true rfl, Or.inr ⟨_, List.mem_of_getElem? (i := 28) rfl⟩⟩
theorem lp_SF_101 : zLp zR0 101 7 1 := ⟨lk_SF_101, fun r h => by cases h; rfl⟩
theorem lk_SF_104 : zLk zR0 104 2 0 := ⟨_, rfl, Nat.le_of_ble_eq_true rfl, Or.inr ⟨_, List.mem_of_getElem? (i := 38) rfl⟩⟩
theorem lk_SF_111 : zLk zR0 111 7 2 := ⟨_, rfl, Nat.le_of_ble_eq_true rfl, Or.inr ⟨_, List.mem_of_getElem? (i := 30) rfl⟩⟩
theorem lk_SF_114 : zLk zR0 114 7 3 := ⟨_, rfl, Nat.le_of_ble_eq_true rfl, Or.inr ⟨_, List.mem_of_getElem? (i := 31) rfl⟩⟩
theorem lk_SF_117 : zLk zR0 117 7 4 := ⟨_, rfl, Nat.le_of_ble_eq_true rfl, Or.inr ⟨_, List.mem_of_getElem? (i := 34) rfl⟩⟩
theorem lk_SF_120 : zLk zR0 120 7 5 := ⟨_, rfl, Nat.le_of_ble_eq_true rfl, Or.inr ⟨_, List.mem_of_getElem? (i := 35) rfl⟩⟩
theorem lk_SF_123 : zLk zR0 123 3 2 := ⟨_, rfl, Nat.le_of_ble_eq_true rfl, Or.inr ⟨_, List.mem_of_getElem? (i := 20) rfl⟩⟩
theorem lk_Codes_9 : zLk zR1 9 1 0 := ⟨_, rfl, Nat.le_of_ble_eq_true rfl, Or.inl (zi1 _ (List.mem_of_getElem? (i := 147) rfl) rfl)⟩
theorem lf_Codes_9 : zLf zR1 9 1 0 := ⟨_, rfl, Nat.le_of_ble_eq_true rfl, (zi1 _ (List.mem_of_getElem? (i := 147) rfl) rfl), rfl, rfl⟩
theorem lk_Codes_15 : zLk zR1 15 1 1 := ⟨_, rfl, Nat.le_of_ble_eq_true rfl, Or.inl (zi1 _ (List.mem_of_getElem? (i := 148) rfl) rfl)⟩
theorem lf_Codes_15 : zLf zR1 15 1 1 := ⟨_, rfl, Nat.le_of_ble_eq_true rfl, (zi1 _ (List.mem_of_getElem? (i := 148) rfl) rfl), rfl, rfl⟩
theorem lk_Codes_18 : zLk zR1 18 1 2 := ⟨_, rfl, Nat.le_of_ble_eq_true rfl, Or.inl (zi1 _ (List.mem_of_getElem? (i := 149) rfl) rfl)⟩
theorem lf_Codes_18 : zLf zR1 18 1 2 := ⟨_, rfl, Nat.le_of_ble_eq_true rfl, (zi1 _ (List.mem_of_getElem? (i := 149) rfl) rfl), rfl, rfl⟩
theorem lk_Codes_26 : zLk zR1 26 1 3 := ⟨_, rfl, Nat.le_of_ble_eq_true rfl, Or.inl (zi1 _ (List.mem_of_getElem? (i := 150) rfl) rfl)⟩
theorem lf_Codes_26 : zLf zR1 26 1 3 := ⟨_, rfl, Nat.le_of_ble_eq_true rfl, (zi1 _ (List.mem_of_getElem? (i := 150) rfl) rfl), rfl, rfl⟩
theorem lk_Codes_33 : zLk zR1 33 1 4 := ⟨_, rfl, Nat.le_of_ble_eq_true rfl, Or.inl (zi1 _ (List.mem_of_getElem? (i := 151) rfl) rfl)⟩
theorem lf_Codes_33 : zLf zR1 33 1 4 := ⟨_, rfl, Nat.le_of_ble_eq_true rfl, (zi1 _ (List.mem_of_getElem? (i := 151) rfl) rfl), rfl, rfl⟩
theorem lk_Codes_37 : zLk zR1 37 1 5 := ⟨_, rfl, Nat.le_of_ble_eq_true rfl, Or.inl (zi1 _ (List.mem_of_getElem? (i := 152) rfl) rfl)⟩
theorem lp_Codes_37 : zLp zR1 37 1 5 := ⟨lk_Codes_37, fun r h => by cases h; rfl⟩
theorem lk_Codes_41 : zLk zR1 41 1 6 := ⟨_, rfl, Nat.le_of_ble_eq_true rfl, Or.inl (zi1 _ (List.mem_of_getElem? (i := 153) rfl) rfl)⟩
theorem lp_Codes_41 : zLp zR1 41 1 6 := ⟨lk_Codes_41, fun r h => by cases h; rfl⟩
theorem lk_Codes_48 : zLk zR1 48 11 2 := ⟨_, rfl, Nat.le_of_ble_eq_true rfl, Or.inr ⟨_, List.mem_of_getElem? (i := 13) rfl⟩⟩
theorem lp_Codes_48 : zLp zR1 48 11 2 := ⟨lk_Codes_48, fun r h => by cases h; rfl⟩
theorem lk_Codes_83 : zLk zR1 83 10 7 := ⟨_, rfl, Nat.le_of_ble_eq_true rfl, Or.inr ⟨_, List.mem_of_getElem? (i := 11) rfl⟩⟩
theorem lk_Content_15 : zLk zR2 15 2 0 := ⟨_, rfl, Nat.le_of_ble_eq_true rfl, Or.inl (zi2 _ (List.mem_of_getElem? (i := 14) rfl) rfl)⟩
theorem lf_Content_15 : zLf zR2 15 2 0 := ⟨_, rfl, Nat.le_of_ble_eq_true rfl, (zi2 _ (List.mem_of_getElem? (i := 14) rfl) rfl), rfl, rfl⟩
theorem lk_Content_21 : zLk zR2 21 2 1 := ⟨_, rfl, Nat.le_of_ble_eq_true rfl, Or.inl (zi2 _ (List.mem_of_getElem? (i := 18) rfl) rfl)⟩
theorem lf_Content_21 : zLf zR2 21 2 1 := ⟨_, rfl, Nat.le_of_ble_eq_true rfl, (zi2 _ (List.mem_of_getElem? (i := 18) rfl) rfl), rfl, rfl⟩
theorem lk_Content_24 : zLk zR2 24 2 2 := ⟨_, rfl, Nat.le_of_ble_eq_true rfl, Or.inl (zi2 _ (List.mem_of_getElem? (i := 19) rfl) rfl)⟩
theorem lp_Content_24 : zLp zR2 24 2 2 := ⟨lk_Content_24, fun r h => by cases h; rfl⟩
theorem lk_Content_28 : zLk zR2 28 2 3 := ⟨_, rfl, Nat.le_of_ble_eq_true rfl, Or.inl (zi2 _ (List.mem_of_getElem? (i := 20) rfl) rfl)⟩
theorem lp_Content_28 : zLp zR2 28 2 3 := ⟨lk_Content_28, fun r h => by cases h; rfl⟩
theorem lk_Content_31 : zLk zR2 31 2 4 := ⟨_, rfl, Nat.le_of_ble_eq_true rfl, Or.inl (zi2 _ (List.mem_of_getElem? (i := 21) rfl) rfl)⟩
theorem lp_Content_31 : zLp zR2 31 2 4 := ⟨lk_Content_31, fun r h => by cases h; rfl⟩
theorem lk_Content_34 : zLk zR2 34 2 5 := ⟨_, rfl, Nat.le_of_ble_eq_true rfl, Or.inl (zi2 _ (List.mem_of_getElem? (i := 22) rfl) rfl)⟩
theorem lp_Content_34 : zLp zR2 34 2 5 := ⟨lk_Content_34, fun r h => by cases h; rfl⟩
theorem lk_Content_41 : zLk zR2 41 8 1 := ⟨_, rfl, Nat.le_of_ble_eq_true rfl, Or.inr ⟨_, List.mem_of_getElem? (i := 4) rfl⟩⟩
theorem lk_Dict_14 : zLk zR3 14 3 0 := ⟨_, rfl, Nat.le_of_ble_eq_true rfl, Or.inl (zi1 _ (List.mem_of_getElem? (i := 176) rfl) rfl)⟩
theorem lf_Dict_14 : zLf zR3 14 3 0 := ⟨_, rfl, Nat.le_of_ble_eq_true rfl, (zi1 _ (List.mem_of_getElem? (i := 176) rfl) rfl), rfl, rfl⟩
theorem lk_Dict_23 : zLk zR3 23 3 1 := ⟨_, rfl, Nat.le_of_ble_eq_true rfl, Or.inl (zi1 _ (List.mem_of_getElem? (i := 178) rfl) rfl)⟩
theorem lf_Dict_23 : zLf zR3 23 3 1 := ⟨_, rfl, Nat.le_of_ble_eq_true rfl, (zi1 _ (List.mem_of_getElem? (i := 178) rfl) rfl), rfl, rfl⟩
theorem lk_Dict_27 : zLk zR3 27 3 2 := ⟨_, rfl, Nat.le_of_ble_eq_true rfl, Or.inl (zi1 _ (List.mem_of_getElem? (i := 180) rfl) rfl)⟩
theorem lp_Dict_27 : zLp zR3 27 3 2 := ⟨lk_Dict_27, fun r h => by cases h; rfl⟩
theorem lk_Dict_31 : zLk zR3 31 3 3 := ⟨_, rfl, Nat.le_of_ble_eq_true rfl, Or.inl (zi1 _ (List.mem_of_getElem? (i := 183) rfl) rfl)⟩
theorem lp_Dict_31 : zLp zR3 31 3 3 := ⟨lk_Dict_31, fun r h => by cases h; rfl⟩
theorem lk_Dict_38 : zLk zR3 38 3 4 := ⟨_, rfl, Nat.le_of_ble_eq_true rfl, Or.inl (zi1 _ (List.mem_of_getElem? (i := 186) rfl) rfl)⟩
theorem lp_Dict_38 : zLp zR3 38 3 4 := ⟨lk_Dict_38, fun r h => by cases h; rfl⟩
theorem lk_Dict_42 : zLk zR3 42 3 6 := ⟨_, rfl, Nat.le_of_ble_eq_true rfl, Or.inl (zi1 _ (List.mem_of_getElem? (i := 190) rfl) rfl)⟩
theorem lp_Dict_42 : zLp zR3 42 3 6 := ⟨lk_Dict_42, fun r h => by cases h; rfl⟩
theorem lk_Dict_47 : zLk zR3 47 3 5 := ⟨_, rfl, Nat.le_of_ble_eq_true rfl, Or.inl (zi1 _ (List.mem_of_getElem? (i := 188) rfl) rfl)⟩
theorem lp_Dict_47 : zLp zR3 47 3 5 := ⟨lk_Dict_47, fun r h => by cases h; rfl⟩
theorem lk_Dict_51 : zLk zR3 51 3 7 := ⟨_, rfl, Nat.le_of_ble_eq_true rfl, Or.inl (zi1 _ (List.mem_of_getElem? (i := 191) rfl) rfl)⟩
theorem lp_Dict_51 : zLp zR3 51 3 7 := ⟨lk_Dict_51, fun r h => by cases h; rfl⟩
theorem ls_Dict_54 : Cond.fieldLink zR3 54 "StateFrames" "GREATEST_ORDERS" "[I" ∈ zB ∨ ∃ host, (zR3, 54, "StateFrames", "GREATEST_ORDERS", "[I", host) ∈ zNF := Or.inr ⟨_, List.mem_of_getElem? (i := 16) rfl⟩
theorem ls_Dict_58 : Cond.fieldLink zR3 58 "StateFrames" "LASTS" "[I" ∈ zB ∨ ∃ host, (zR3, 58, "StateFrames", "LASTS", "[I", host) ∈ zNF := Or.inr ⟨_, List.mem_of_getElem? (i := 17) rfl⟩
theorem lk_Dict_67 : zLk zR3 67 8 1 := ⟨_, rfl, Nat.le_of_ble_eq_true rfl, Or.inr ⟨_, List.mem_of_getElem? (i := 3) rfl⟩⟩
theorem lk_FR_9 : zLk zR4 9 4 0 := ⟨_, rfl, Nat.le_of_ble_eq_true rfl, Or.inl (zi2 _ (List.mem_of_getElem? (i := 177) rfl) rfl)⟩
theorem lf_FR_9 : zLf zR4 9 4 0 := ⟨_, rfl, Nat.le_of_ble_eq_true rfl, (zi2 _ (List.mem_of_getElem? (i := 177) rfl) rfl), rfl, rfl⟩
theorem lk_FR_15 : zLk zR4 15 4 1 := ⟨_, rfl, Nat.le_of_ble_eq_true rfl, Or.inl (zi2 _ (List.mem_of_getElem? (i := 178) rfl) rfl)⟩
theorem lf_FR_15 : zLf zR4 15 4 1 := ⟨_, rfl, Nat.le_of_ble_eq_true rfl, (zi2 _ (List.mem_of_getElem? (i := 178) rfl) rfl), rfl, rfl⟩
theorem lk_FR_19 : zLk zR4 19 4 2 := ⟨_, rfl, Nat.le_of_ble_eq_true rfl, Or.inl (zi2 _ (List.mem_of_getElem? (i := 179) rfl) rfl)⟩
theorem lf_FR_19 : zLf zR4 19 4 2 := ⟨_, rfl, Nat.le_of_ble_eq_true rfl, (zi2 _ (List.mem_of_getElem? (i := 179) rfl) rfl), rfl, rfl⟩
theorem lk_FR_23 : zLk zR4 23 4 3 := ⟨_, rfl, Nat.le_of_ble_eq_true rfl, Or.inl (zi2 _ (List.mem_of_getElem? (i := 180) rfl) rfl)⟩
theorem lf_FR_23 : zLf zR4 23 4 3 := ⟨_, rfl, Nat.le_of_ble_eq_true rfl, (zi2 _ (List.mem_of_getElem? (i := 180) rfl) rfl), rfl, rfl⟩
theorem lk_FR_32 : zLk zR4 32 4 4 := ⟨_, rfl, Nat.le_of_ble_eq_true rfl, Or.inl (zi2 _ (List.mem_of_getElem? (i := 181) rfl) rfl)⟩
theorem lf_FR_32 : zLf zR4 32 4 4 := ⟨_, rfl, Nat.le_of_ble_eq_true rfl, (zi2 _ (List.mem_of_getElem? (i := 181) rfl) rfl), rfl, rfl⟩
theorem lk_FR_41 : zLk zR4 41 4 5 := ⟨_, rfl, Nat.le_of_ble_eq_true rfl, Or.inl (zi2 _ (List.mem_of_getElem? (i := 182) rfl) rfl)⟩
theorem lf_FR_41 : zLf zR4 41 4 5 := ⟨_, rfl, Nat.le_of_ble_eq_true rfl, (zi2 _ (List.mem_of_getElem? (i := 182) rfl) rfl), rfl, rfl⟩
theorem lk_FR_45 : zLk zR4 45 4 6 := ⟨_, rfl, Nat.le_of_ble_eq_true rfl, Or.inl (zi2 _ (List.mem_of_getElem? (i := 183) rfl) rfl)⟩
theorem lp_FR_45 : zLp zR4 45 4 6 := ⟨lk_FR_45, fun r h => by cases h; rfl⟩
theorem lk_FR_49 : zLk zR4 49 4 7 := ⟨_, rfl, Nat.le_of_ble_eq_true rfl, Or.inl (zi2 _ (List.mem_of_getElem? (i := 184) rfl) rfl)⟩
theorem lp_FR_49 : zLp zR4 49 4 7 := ⟨lk_FR_49, fun r h => by cases h; rfl⟩
theorem lk_FR_53 : zLk zR4 53 4 8 := ⟨_, rfl, Nat.le_of_ble_eq_true rfl, Or.inl (zi2 _ (List.mem_of_getElem? (i := 186) rfl) rfl)⟩
theorem lp_FR_53 : zLp zR4 53 4 8 := ⟨lk_FR_53, fun r h => by cases h; rfl⟩
theorem lk_FR_56 : zLk zR4 56 4 9 := ⟨_, rfl, Nat.le_of_ble_eq_true rfl, Or.inl (zi2 _ (List.mem_of_getElem? (i := 187) rfl) rfl)⟩
theorem lp_FR_56 : zLp zR4 56 4 9 := ⟨lk_FR_56, fun r h => by cases h; rfl⟩
theorem lk_FR_59 : zLk zR4 59 4 10 := ⟨_, rfl, Nat.le_of_ble_eq_true rfl, Or.inl (zi2 _ (List.mem_of_getElem? (i := 188) rfl) rfl)⟩
theorem lp_FR_59 : zLp zR4 59 4 10 := ⟨lk_FR_59, fun r h => by cases h; rfl⟩
theorem lk_FR_63 : zLk zR4 63 4 11 := ⟨_, rfl, Nat.le_of_ble_eq_true rfl, Or.inl (zi2 _ (List.mem_of_getElem? (i := 189) rfl) rfl)⟩
theorem lp_FR_63 : zLp zR4 63 4 11 := ⟨lk_FR_63, fun r h => by cases h; rfl⟩
theorem lk_FR_76 : zLk zR4 76 7 0 := ⟨_, rfl, Nat.le_of_ble_eq_true rfl, Or.inr ⟨_, List.mem_of_getElem? (i := 26) rfl⟩⟩
theorem lk_FR_79 : zLk zR4 79 8 1 := ⟨_, rfl, Nat.le_of_ble_eq_true rfl, Or.inr ⟨_, List.mem_of_getElem? (i := 6) rfl⟩⟩
theorem lk_FR_118 : zLk zR4 118 7 2 := ⟨_, rfl, Nat.le_of_ble_eq_true rfl, Or.inr ⟨_, List.mem_of_getElem? (i := 29) rfl⟩⟩
theorem lp_FR_118 : zLp zR4 118 7 2 := ⟨lk_FR_118, fun r h => by cases h; rfl⟩
theorem lk_FR_143 : zLk zR4 143 2 5 := ⟨_, rfl, Nat.le_of_ble_eq_true rfl, Or.inr ⟨_, List.mem_of_getElem? (i := 40) rfl⟩⟩
theorem lp_FR_143 : zLp zR4 143 2 5 := ⟨lk_FR_143, fun r h => by cases h; rfl⟩
theorem lk_FR_148 : zLk zR4 148 7 5 := ⟨_, rfl, Nat.le_of_ble_eq_true rfl, Or.inr ⟨_, List.mem_of_getElem? (i := 36) rfl⟩⟩
theorem lp_FR_148 : zLp zR4 148 7 5 := ⟨lk_FR_148, fun r h => by cases h; rfl⟩
theorem lk_FR_150 : zLk zR4 150 3 2 := ⟨_, rfl, Nat.le_of_ble_eq_true rfl, Or.inr ⟨_, List.mem_of_getElem? (i := 21) rfl⟩⟩
theorem lk_FR_159 : zLk zR4 159 7 3 := ⟨_, rfl, Nat.le_of_ble_eq_true rfl, Or.inr ⟨_, List.mem_of_getElem? (i := 32) rfl⟩⟩
theorem lp_FR_159 : zLp zR4 159 7 3 := ⟨lk_FR_159, fun r h => by cases h; rfl⟩
theorem lk_FR_176 : zLk zR4 176 6 9 := ⟨_, rfl, Nat.le_of_ble_eq_true rfl, Or.inr ⟨_, List.mem_of_getElem? (i := 41) rfl⟩⟩
theorem lk_FR_186 : zLk zR4 186 2 0 := ⟨_, rfl, Nat.le_of_ble_eq_true rfl, Or.inr ⟨_, List.mem_of_getElem? (i := 39) rfl⟩⟩
theorem lk_Latest_7 : zLk zR5 7 5 0 := ⟨_, rfl, Nat.le_of_ble_eq_true rfl, Or.inl (zi1 _ (List.mem_of_getElem? (i := 66) rfl) rfl)⟩
theorem lp_Latest_7 : zLp zR5 7 5 0 := ⟨lk_Latest_7, fun r h => by cases h; rfl⟩
theorem lk_Latest_15 : zLk zR5 15 5 1 := ⟨_, rfl, Nat.le_of_ble_eq_true rfl, Or.inl (zi1 _ (List.mem_of_getElem? (i := 68) rfl) rfl)⟩
theorem lp_Latest_15 : zLp zR5 15 5 1 := ⟨lk_Latest_15, fun r h => by cases h; rfl⟩
theorem lk_Latest_20 : zLk zR5 20 5 2 := ⟨_, rfl, Nat.le_of_ble_eq_true rfl, Or.inl (zi1 _ (List.mem_of_getElem? (i := 70) rfl) rfl)⟩
theorem lp_Latest_20 : zLp zR5 20 5 2 := ⟨lk_Latest_20, fun r h => by cases h; rfl⟩
theorem lk_Lit_9 : zLk zR6 9 6 0 := ⟨_, rfl, Nat.le_of_ble_eq_true rfl, Or.inl (zi2 _ (List.mem_of_getElem? (i := 56) rfl) rfl)⟩
theorem lf_Lit_9 : zLf zR6 9 6 0 := ⟨_, rfl, Nat.le_of_ble_eq_true rfl, (zi2 _ (List.mem_of_getElem? (i := 56) rfl) rfl), rfl, rfl⟩
theorem lk_Lit_15 : zLk zR6 15 6 1 := ⟨_, rfl, Nat.le_of_ble_eq_true rfl, Or.inl (zi2 _ (List.mem_of_getElem? (i := 57) rfl) rfl)⟩
theorem lf_Lit_15 : zLf zR6 15 6 1 := ⟨_, rfl, Nat.le_of_ble_eq_true rfl, (zi2 _ (List.mem_of_getElem? (i := 57) rfl) rfl), rfl, rfl⟩
theorem lk_Lit_22 : zLk zR6 22 6 2 := ⟨_, rfl, Nat.le_of_ble_eq_true rfl, Or.inl (zi2 _ (List.mem_of_getElem? (i := 58) rfl) rfl)⟩
theorem lf_Lit_22 : zLf zR6 22 6 2 := ⟨_, rfl, Nat.le_of_ble_eq_true rfl, (zi2 _ (List.mem_of_getElem? (i := 58) rfl) rfl), rfl, rfl⟩
theorem lk_Lit_29 : zLk zR6 29 6 3 := ⟨_, rfl, Nat.le_of_ble_eq_true rfl, Or.inl (zi2 _ (List.mem_of_getElem? (i := 59) rfl) rfl)⟩
theorem lf_Lit_29 : zLf zR6 29 6 3 := ⟨_, rfl, Nat.le_of_ble_eq_true rfl, (zi2 _ (List.mem_of_getElem? (i := 59) rfl) rfl), rfl, rfl⟩
theorem lk_Lit_39 : zLk zR6 39 6 4 := ⟨_, rfl, Nat.le_of_ble_eq_true rfl, Or.inl (zi2 _ (List.mem_of_getElem? (i := 60) rfl) rfl)⟩
theorem lf_Lit_39 : zLf zR6 39 6 4 := ⟨_, rfl, Nat.le_of_ble_eq_true rfl, (zi2 _ (List.mem_of_getElem? (i := 60) rfl) rfl), rfl, rfl⟩
theorem lk_Lit_42 : zLk zR6 42 6 5 := ⟨_, rfl, Nat.le_of_ble_eq_true rfl, Or.inl (zi2 _ (List.mem_of_getElem? (i := 61) rfl) rfl)⟩
theorem lp_Lit_42 : zLp zR6 42 6 5 := ⟨lk_Lit_42, fun r h => by cases h; rfl⟩
theorem lk_Lit_45 : zLk zR6 45 6 6 := ⟨_, rfl, Nat.le_of_ble_eq_true rfl, Or.inl (zi2 _ (List.mem_of_getElem? (i := 62) rfl) rfl)⟩
theorem lp_Lit_45 : zLp zR6 45 6 6 := ⟨lk_Lit_45, fun r h => by cases h; rfl⟩
theorem lk_Lit_49 : zLk zR6 49 6 7 := ⟨_, rfl, Nat.le_of_ble_eq_true rfl, Or.inl (zi2 _ (List.mem_of_getElem? (i := 63) rfl) rfl)⟩
theorem lp_Lit_49 : zLp zR6 49 6 7 := ⟨lk_Lit_49, fun r h => by cases h; rfl⟩
theorem lk_Lit_53 : zLk zR6 53 6 8 := ⟨_, rfl, Nat.le_of_ble_eq_true rfl, Or.inl (zi2 _ (List.mem_of_getElem? (i := 64) rfl) rfl)⟩
theorem lp_Lit_53 : zLp zR6 53 6 8 := ⟨lk_Lit_53, fun r h => by cases h; rfl⟩
theorem lk_Lit_56 : zLk zR6 56 6 9 := ⟨_, rfl, Nat.le_of_ble_eq_true rfl, Or.inl (zi2 _ (List.mem_of_getElem? (i := 65) rfl) rfl)⟩
theorem lp_Lit_56 : zLp zR6 56 6 9 := ⟨lk_Lit_56, fun r h => by cases h; rfl⟩
theorem lk_Lit_59 : zLk zR6 59 6 10 := ⟨_, rfl, Nat.le_of_ble_eq_true rfl, Or.inl (zi2 _ (List.mem_of_getElem? (i := 67) rfl) rfl)⟩
theorem lp_Lit_59 : zLp zR6 59 6 10 := ⟨lk_Lit_59, fun r h => by cases h; rfl⟩
theorem lk_Lit_62 : zLk zR6 62 6 11 := ⟨_, rfl, Nat.le_of_ble_eq_true rfl, Or.inl (zi2 _ (List.mem_of_getElem? (i := 68) rfl) rfl)⟩
theorem lp_Lit_62 : zLp zR6 62 6 11 := ⟨lk_Lit_62, fun r h => by cases h; rfl⟩
theorem lk_Lit_65 : zLk zR6 65 6 12 := ⟨_, rfl, Nat.le_of_ble_eq_true rfl, Or.inl (zi2 _ (List.mem_of_getElem? (i := 69) rfl) rfl)⟩
theorem lp_Lit_65 : zLp zR6 65 6 12 := ⟨lk_Lit_65, fun r h => by cases h; rfl⟩
theorem lk_Lit_68 : zLk zR6 68 3 4 := ⟨_, rfl, Nat.le_of_ble_eq_true rfl, Or.inr ⟨_, List.mem_of_getElem? (i := 24) rfl⟩⟩
theorem lk_Lit_71 : zLk zR6 71 3 3 := ⟨_, rfl, Nat.le_of_ble_eq_true rfl, Or.inr ⟨_, List.mem_of_getElem? (i := 22) rfl⟩⟩
theorem lk_Lit_128 : zLk zR6 128 11 2 := ⟨_, rfl, Nat.le_of_ble_eq_true rfl, Or.inr ⟨_, List.mem_of_getElem? (i := 15) rfl⟩⟩
theorem lk_Rep_7 : zLk zR7 7 7 0 := ⟨_, rfl, Nat.le_of_ble_eq_true rfl, Or.inl (zi1 _ (List.mem_of_getElem? (i := 215) rfl) rfl)⟩
theorem lp_Rep_7 : zLp zR7 7 7 0 := ⟨lk_Rep_7, fun r h => by cases h; rfl⟩
theorem lk_Rep_13 : zLk zR7 13 7 1 := ⟨_, rfl, Nat.le_of_ble_eq_true rfl, Or.inl (zi1 _ (List.mem_of_getElem? (i := 218) rfl) rfl)⟩
theorem lp_Rep_13 : zLp zR7 13 7 1 := ⟨lk_Rep_13, fun r h => by cases h; rfl⟩
theorem lk_Rep_16 : zLk zR7 16 7 2 := ⟨_, rfl, Nat.le_of_ble_eq_true rfl, Or.inl (zi1 _ (List.mem_of_getElem? (i := 220) rfl) rfl)⟩
theorem lp_Rep_16 : zLp zR7 16 7 2 := ⟨lk_Rep_16, fun r h => by cases h; rfl⟩
theorem lk_Rep_19 : zLk zR7 19 7 3 := ⟨_, rfl, Nat.le_of_ble_eq_true rfl, Or.inl (zi1 _ (List.mem_of_getElem? (i := 223) rfl) rfl)⟩
theorem lp_Rep_19 : zLp zR7 19 7 3 := ⟨lk_Rep_19, fun r h => by cases h; rfl⟩
theorem lk_Rep_22 : zLk zR7 22 7 4 := ⟨_, rfl, Nat.le_of_ble_eq_true rfl, Or.inl (zi1 _ (List.mem_of_getElem? (i := 226) rfl) rfl)⟩
theorem lp_Rep_22 : zLp zR7 22 7 4 := ⟨lk_Rep_22, fun r h => by cases h; rfl⟩
theorem lk_Rep_25 : zLk zR7 25 7 5 := ⟨_, rfl, Nat.le_of_ble_eq_true rfl, Or.inl (zi1 _ (List.mem_of_getElem? (i := 229) rfl) rfl)⟩
theorem lp_Rep_25 : zLp zR7 25 7 5 := ⟨lk_Rep_25, fun r h => by cases h; rfl⟩
theorem lk_Row_7 : zLk zR8 7 8 0 := ⟨_, rfl, Nat.le_of_ble_eq_true rfl, Or.inl (zi1 _ (List.mem_of_getElem? (i := 33) rfl) rfl)⟩
theorem lf_Row_7 : zLf zR8 7 8 0 := ⟨_, rfl, Nat.le_of_ble_eq_true rfl, (zi1 _ (List.mem_of_getElem? (i := 33) rfl) rfl), rfl, rfl⟩
theorem lk_Row_13 : zLk zR8 13 8 1 := ⟨_, rfl, Nat.le_of_ble_eq_true rfl, Or.inl (zi1 _ (List.mem_of_getElem? (i := 36) rfl) rfl)⟩
theorem lp_Row_13 : zLp zR8 13 8 1 := ⟨lk_Row_13, fun r h => by cases h; rfl⟩
theorem lk_Seq_9 : zLk zR9 9 9 0 := ⟨_, rfl, Nat.le_of_ble_eq_true rfl, Or.inl (zi2 _ (List.mem_of_getElem? (i := 142) rfl) rfl)⟩
theorem lf_Seq_9 : zLf zR9 9 9 0 := ⟨_, rfl, Nat.le_of_ble_eq_true rfl, (zi2 _ (List.mem_of_getElem? (i := 142) rfl) rfl), rfl, rfl⟩
theorem lk_Seq_15 : zLk zR9 15 9 1 := ⟨_, rfl, Nat.le_of_ble_eq_true rfl, Or.inl (zi2 _ (List.mem_of_getElem? (i := 143) rfl) rfl)⟩
theorem lf_Seq_15 : zLf zR9 15 9 1 := ⟨_, rfl, Nat.le_of_ble_eq_true rfl, (zi2 _ (List.mem_of_getElem? (i := 143) rfl) rfl), rfl, rfl⟩
theorem lk_Seq_19 : zLk zR9 19 9 2 := ⟨_, rfl, Nat.le_of_ble_eq_true rfl, Or.inl (zi2 _ (List.mem_of_getElem? (i := 144) rfl) rfl)⟩
theorem lf_Seq_19 : zLf zR9 19 9 2 := ⟨_, rfl, Nat.le_of_ble_eq_true rfl, (zi2 _ (List.mem_of_getElem? (i := 144) rfl) rfl), rfl, rfl⟩
theorem lk_Seq_23 : zLk zR9 23 9 3 := ⟨_, rfl, Nat.le_of_ble_eq_true rfl, Or.inl (zi2 _ (List.mem_of_getElem? (i := 145) rfl) rfl)⟩
theorem lf_Seq_23 : zLf zR9 23 9 3 := ⟨_, rfl, Nat.le_of_ble_eq_true rfl, (zi2 _ (List.mem_of_getElem? (i := 145) rfl) rfl), rfl, rfl⟩
theorem lk_Seq_30 : zLk zR9 30 9 4 := ⟨_, rfl, Nat.le_of_ble_eq_true rfl, Or.inl (zi2 _ (List.mem_of_getElem? (i := 146) rfl) rfl)⟩
theorem lf_Seq_30 : zLf zR9 30 9 4 := ⟨_, rfl, Nat.le_of_ble_eq_true rfl, (zi2 _ (List.mem_of_getElem? (i := 146) rfl) rfl), rfl, rfl⟩
theorem lk_Seq_37 : zLk zR9 37 9 5 := ⟨_, rfl, Nat.le_of_ble_eq_true rfl, Or.inl (zi2 _ (List.mem_of_getElem? (i := 147) rfl) rfl)⟩
theorem lf_Seq_37 : zLf zR9 37 9 5 := ⟨_, rfl, Nat.le_of_ble_eq_true rfl, (zi2 _ (List.mem_of_getElem? (i := 147) rfl) rfl), rfl, rfl⟩
theorem lk_Seq_43 : zLk zR9 43 9 6 := ⟨_, rfl, Nat.le_of_ble_eq_true rfl, Or.inl (zi2 _ (List.mem_of_getElem? (i := 148) rfl) rfl)⟩
theorem lf_Seq_43 : zLf zR9 43 9 6 := ⟨_, rfl, Nat.le_of_ble_eq_true rfl, (zi2 _ (List.mem_of_getElem? (i := 148) rfl) rfl), rfl, rfl⟩
theorem lk_Seq_47 : zLk zR9 47 9 7 := ⟨_, rfl, Nat.le_of_ble_eq_true rfl, Or.inl (zi2 _ (List.mem_of_getElem? (i := 149) rfl) rfl)⟩
theorem lf_Seq_47 : zLf zR9 47 9 7 := ⟨_, rfl, Nat.le_of_ble_eq_true rfl, (zi2 _ (List.mem_of_getElem? (i := 149) rfl) rfl), rfl, rfl⟩
theorem lk_Seq_50 : zLk zR9 50 9 8 := ⟨_, rfl, Nat.le_of_ble_eq_true rfl, Or.inl (zi2 _ (List.mem_of_getElem? (i := 150) rfl) rfl)⟩
theorem lf_Seq_50 : zLf zR9 50 9 8 := ⟨_, rfl, Nat.le_of_ble_eq_true rfl, (zi2 _ (List.mem_of_getElem? (i := 150) rfl) rfl), rfl, rfl⟩
theorem lk_Seq_53 : zLk zR9 53 9 9 := ⟨_, rfl, Nat.le_of_ble_eq_true rfl, Or.inl (zi2 _ (List.mem_of_getElem? (i := 151) rfl) rfl)⟩
theorem lf_Seq_53 : zLf zR9 53 9 9 := ⟨_, rfl, Nat.le_of_ble_eq_true rfl, (zi2 _ (List.mem_of_getElem? (i := 151) rfl) rfl), rfl, rfl⟩
theorem lk_Seq_57 : zLk zR9 57 9 10 := ⟨_, rfl, Nat.le_of_ble_eq_true rfl, Or.inl (zi2 _ (List.mem_of_getElem? (i := 152) rfl) rfl)⟩
theorem lf_Seq_57 : zLf zR9 57 9 10 := ⟨_, rfl, Nat.le_of_ble_eq_true rfl, (zi2 _ (List.mem_of_getElem? (i := 152) rfl) rfl), rfl, rfl⟩
theorem ls_Seq_61 : Cond.fieldLink zR9 61 "StateFrames" "KNOWN_ORDERS" "[I" ∈ zB ∨ ∃ host, (zR9, 61, "StateFrames", "KNOWN_ORDERS", "[I", host) ∈ zNF := Or.inr ⟨_, List.mem_of_getElem? (i := 42) rfl⟩
theorem ls_Seq_64 : Cond.fieldLink zR9 64 "StateFrames" "LASTS" "[I" ∈ zB ∨ ∃ host, (zR9, 64, "StateFrames", "LASTS", "[I", host) ∈ zNF := Or.inr ⟨_, List.mem_of_getElem? (i := 43) rfl⟩
theorem ls_Seq_70 : Cond.fieldLink zR9 70 "StateFrames" "GREATEST_ORDERS" "[I" ∈ zB ∨ ∃ host, (zR9, 70, "StateFrames", "GREATEST_ORDERS", "[I", host) ∈ zNF := Or.inr ⟨_, List.mem_of_getElem? (i := 44) rfl⟩
theorem ls_Seq_73 : Cond.fieldLink zR9 73 "StateFrames" "KNOWN_LITERAL_LENGTHS" "[I" ∈ zB ∨ ∃ host, (zR9, 73, "StateFrames", "KNOWN_LITERAL_LENGTHS", "[I", host) ∈ zNF := Or.inr ⟨_, List.mem_of_getElem? (i := 45) rfl⟩
theorem ls_Seq_80 : Cond.fieldLink zR9 80 "StateFrames" "KNOWN_DISTANCES" "[I" ∈ zB ∨ ∃ host, (zR9, 80, "StateFrames", "KNOWN_DISTANCES", "[I", host) ∈ zNF := Or.inr ⟨_, List.mem_of_getElem? (i := 46) rfl⟩
theorem ls_Seq_83 : Cond.fieldLink zR9 83 "StateFrames" "KNOWN_MATCH_LENGTHS" "[I" ∈ zB ∨ ∃ host, (zR9, 83, "StateFrames", "KNOWN_MATCH_LENGTHS", "[I", host) ∈ zNF := Or.inr ⟨_, List.mem_of_getElem? (i := 47) rfl⟩
theorem lk_Seq_86 : zLk zR9 86 3 5 := ⟨_, rfl, Nat.le_of_ble_eq_true rfl, Or.inr ⟨_, List.mem_of_getElem? (i := 25) rfl⟩⟩
theorem lk_Seq_91 : zLk zR9 91 3 3 := ⟨_, rfl, Nat.le_of_ble_eq_true rfl, Or.inr ⟨_, List.mem_of_getElem? (i := 23) rfl⟩⟩
theorem lk_Seq_95 : zLk zR9 95 3 1 := ⟨_, rfl, Nat.le_of_ble_eq_true rfl, Or.inr ⟨_, List.mem_of_getElem? (i := 19) rfl⟩⟩
theorem lk_Seq_96 : zLk zR9 96 5 0 := ⟨_, rfl, Nat.le_of_ble_eq_true rfl, Or.inr ⟨_, List.mem_of_getElem? (i := 8) rfl⟩⟩
theorem lk_Seq_100 : zLk zR9 100 5 1 := ⟨_, rfl, Nat.le_of_ble_eq_true rfl, Or.inr ⟨_, List.mem_of_getElem? (i := 9) rfl⟩⟩
theorem lk_Seq_103 : zLk zR9 103 5 2 := ⟨_, rfl, Nat.le_of_ble_eq_true rfl, Or.inr ⟨_, List.mem_of_getElem? (i := 10) rfl⟩⟩
theorem lk_Seq_154 : zLk zR9 154 10 7 := ⟨_, rfl, Nat.le_of_ble_eq_true rfl, Or.inr ⟨_, List.mem_of_getElem? (i := 12) rfl⟩⟩
theorem lk_Seq_162 : zLk zR9 162 11 2 := ⟨_, rfl, Nat.le_of_ble_eq_true rfl, Or.inr ⟨_, List.mem_of_getElem? (i := 14) rfl⟩⟩
theorem lk_Seq_169 : zLk zR9 169 7 4 := ⟨_, rfl, Nat.le_of_ble_eq_true rfl, Or.inr ⟨_, List.mem_of_getElem? (i := 33) rfl⟩⟩
theorem lp_Seq_169 : zLp zR9 169 7 4 := ⟨lk_Seq_169, fun r h => by cases h; rfl⟩
theorem ls_Seq_175 : Cond.fieldLink zR9 175 "StateFrames" "MATCH_FROM" "[I" ∈ zB ∨ ∃ host, (zR9, 175, "StateFrames", "MATCH_FROM", "[I", host) ∈ zNF := Or.inr ⟨_, List.mem_of_getElem? (i := 49) rfl⟩
theorem ls_Seq_178 : Cond.fieldLink zR9 178 "StateFrames" "MATCH_MORE" "[I" ∈ zB ∨ ∃ host, (zR9, 178, "StateFrames", "MATCH_MORE", "[I", host) ∈ zNF := Or.inr ⟨_, List.mem_of_getElem? (i := 50) rfl⟩
theorem ls_Seq_181 : Cond.fieldLink zR9 181 "StateFrames" "LITERAL_FROM" "[I" ∈ zB ∨ ∃ host, (zR9, 181, "StateFrames", "LITERAL_FROM", "[I", host) ∈ zNF := Or.inr ⟨_, List.mem_of_getElem? (i := 51) rfl⟩
theorem ls_Seq_184 : Cond.fieldLink zR9 184 "StateFrames" "LITERAL_MORE" "[I" ∈ zB ∨ ∃ host, (zR9, 184, "StateFrames", "LITERAL_MORE", "[I", host) ∈ zNF := Or.inr ⟨_, List.mem_of_getElem? (i := 52) rfl⟩
theorem lk_Seq_211 : zLk zR9 211 2 0 := ⟨_, rfl, Nat.le_of_ble_eq_true rfl, Or.inr ⟨_, List.mem_of_getElem? (i := 37) rfl⟩⟩
theorem lk_Share_9 : zLk zR10 9 10 0 := ⟨_, rfl, Nat.le_of_ble_eq_true rfl, Or.inl (zi1 _ (List.mem_of_getElem? (i := 91) rfl) rfl)⟩
theorem lf_Share_9 : zLf zR10 9 10 0 := ⟨_, rfl, Nat.le_of_ble_eq_true rfl, (zi1 _ (List.mem_of_getElem? (i := 91) rfl) rfl), rfl, rfl⟩
theorem lk_Share_15 : zLk zR10 15 10 1 := ⟨_, rfl, Nat.le_of_ble_eq_true rfl, Or.inl (zi1 _ (List.mem_of_getElem? (i := 92) rfl) rfl)⟩
theorem lf_Share_15 : zLf zR10 15 10 1 := ⟨_, rfl, Nat.le_of_ble_eq_true rfl, (zi1 _ (List.mem_of_getElem? (i := 92) rfl) rfl), rfl, rfl⟩
theorem lk_Share_18 : zLk zR10 18 10 2 := ⟨_, rfl, Nat.le_of_ble_eq_true rfl, Or.inl (zi1 _ (List.mem_of_getElem? (i := 93) rfl) rfl)⟩
theorem lf_Share_18 : zLf zR10 18 10 2 := ⟨_, rfl, Nat.le_of_ble_eq_true rfl, (zi1 _ (List.mem_of_getElem? (i := 93) rfl) rfl), rfl, rfl⟩
theorem lk_Share_22 : zLk zR10 22 10 3 := ⟨_, rfl, Nat.le_of_ble_eq_true rfl, Or.inl (zi1 _ (List.mem_of_getElem? (i := 94) rfl) rfl)⟩
theorem lf_Share_22 : zLf zR10 22 10 3 := ⟨_, rfl, Nat.le_of_ble_eq_true rfl, (zi1 _ (List.mem_of_getElem? (i := 94) rfl) rfl), rfl, rfl⟩
theorem lk_Share_25 : zLk zR10 25 10 4 := ⟨_, rfl, Nat.le_of_ble_eq_true rfl, Or.inl (zi1 _ (List.mem_of_getElem? (i := 95) rfl) rfl)⟩
theorem lf_Share_25 : zLf zR10 25 10 4 := ⟨_, rfl, Nat.le_of_ble_eq_true rfl, (zi1 _ (List.mem_of_getElem? (i := 95) rfl) rfl), rfl, rfl⟩
theorem lk_Share_28 : zLk zR10 28 10 5 := ⟨_, rfl, Nat.le_of_ble_eq_true rfl, Or.inl (zi1 _ (List.mem_of_getElem? (i := 96) rfl) rfl)⟩
theorem lf_Share_28 : zLf zR10 28 10 5 := ⟨_, rfl, Nat.le_of_ble_eq_true rfl, (zi1 _ (List.mem_of_getElem? (i := 96) rfl) rfl), rfl, rfl⟩
theorem lk_Share_31 : zLk zR10 31 10 6 := ⟨_, rfl, Nat.le_of_ble_eq_true rfl, Or.inl (zi1 _ (List.mem_of_getElem? (i := 97) rfl) rfl)⟩
theorem lf_Share_31 : zLf zR10 31 10 6 := ⟨_, rfl, Nat.le_of_ble_eq_true rfl, (zi1 _ (List.mem_of_getElem? (i := 97) rfl) rfl), rfl, rfl⟩
theorem lk_Share_34 : zLk zR10 34 10 7 := ⟨_, rfl, Nat.le_of_ble_eq_true rfl, Or.inl (zi1 _ (List.mem_of_getElem? (i := 98) rfl) rfl)⟩
theorem lp_Share_34 : zLp zR10 34 10 7 := ⟨lk_Share_34, fun r h => by cases h; rfl⟩
theorem lk_Share_37 : zLk zR10 37 10 8 := ⟨_, rfl, Nat.le_of_ble_eq_true rfl, Or.inl (zi1 _ (List.mem_of_getElem? (i := 101) rfl) rfl)⟩
theorem lp_Share_37 : zLp zR10 37 10 8 := ⟨lk_Share_37, fun r h => by cases h; rfl⟩
theorem lk_Share_41 : zLk zR10 41 10 9 := ⟨_, rfl, Nat.le_of_ble_eq_true rfl, Or.inl (zi1 _ (List.mem_of_getElem? (i := 102) rfl) rfl)⟩
theorem lp_Share_41 : zLp zR10 41 10 9 := ⟨lk_Share_41, fun r h => by cases h; rfl⟩
theorem lk_Share_44 : zLk zR10 44 10 10 := ⟨_, rfl, Nat.le_of_ble_eq_true rfl, Or.inl (zi1 _ (List.mem_of_getElem? (i := 103) rfl) rfl)⟩
theorem lp_Share_44 : zLp zR10 44 10 10 := ⟨lk_Share_44, fun r h => by cases h; rfl⟩
theorem lk_Share_78 : zLk zR10 78 8 1 := ⟨_, rfl, Nat.le_of_ble_eq_true rfl, Or.inr ⟨_, List.mem_of_getElem? (i := 7) rfl⟩⟩
theorem lk_Share_83 : zLk zR10 83 8 0 := ⟨_, rfl, Nat.le_of_ble_eq_true rfl, Or.inr ⟨_, List.mem_of_getElem? (i := 1) rfl⟩⟩
theorem lk_Stream_7 : zLk zR11 7 11 0 := ⟨_, rfl, Nat.le_of_ble_eq_true rfl, Or.inl (zi1 _ (List.mem_of_getElem? (i := 134) rfl) rfl)⟩
theorem lp_Stream_7 : zLp zR11 7 11 0 := ⟨lk_Stream_7, fun r h => by cases h; rfl⟩
theorem lk_Stream_13 : zLk zR11 13 11 1 := ⟨_, rfl, Nat.le_of_ble_eq_true rfl, Or.inl (zi1 _ (List.mem_of_getElem? (i := 135) rfl) rfl)⟩
theorem lp_Stream_13 : zLp zR11 13 11 1 := ⟨lk_Stream_13, fun r h => by cases h; rfl⟩
theorem lk_Stream_17 : zLk zR11 17 11 2 := ⟨_, rfl, Nat.le_of_ble_eq_true rfl, Or.inl (zi1 _ (List.mem_of_getElem? (i := 136) rfl) rfl)⟩
theorem lp_Stream_17 : zLp zR11 17 11 2 := ⟨lk_Stream_17, fun r h => by cases h; rfl⟩
theorem lk_Stream_20 : zLk zR11 20 8 0 := ⟨_, rfl, Nat.le_of_ble_eq_true rfl, Or.inr ⟨_, List.mem_of_getElem? (i := 0) rfl⟩⟩
theorem lk_Stream_23 : zLk zR11 23 8 1 := ⟨_, rfl, Nat.le_of_ble_eq_true rfl, Or.inr ⟨_, List.mem_of_getElem? (i := 2) rfl⟩⟩
theorem lk_Mo_7 : zLk zR12 7 12 0 := ⟨_, rfl, Nat.le_of_ble_eq_true rfl, Or.inl (zi4 _ (List.mem_of_getElem? (i := 205) rfl) rfl)⟩
theorem lf_Mo_7 : zLf zR12 7 12 0 := ⟨_, rfl, Nat.le_of_ble_eq_true rfl, (zi4 _ (List.mem_of_getElem? (i := 205) rfl) rfl), rfl, rfl⟩
theorem lk_Mo_14 : zLk zR12 14 12 2 := ⟨_, rfl, Nat.le_of_ble_eq_true rfl, Or.inl (zi4 _ (List.mem_of_getElem? (i := 207) rfl) rfl)⟩
theorem lf_Mo_14 : zLf zR12 14 12 2 := ⟨_, rfl, Nat.le_of_ble_eq_true rfl, (zi4 _ (List.mem_of_getElem? (i := 207) rfl) rfl), rfl, rfl⟩
theorem lk_Mo_17 : zLk zR12 17 12 4 := ⟨_, rfl, Nat.le_of_ble_eq_true rfl, Or.inl (zi4 _ (List.mem_of_getElem? (i := 209) rfl) rfl)⟩
theorem lf_Mo_17 : zLf zR12 17 12 4 := ⟨_, rfl, Nat.le_of_ble_eq_true rfl, (zi4 _ (List.mem_of_getElem? (i := 209) rfl) rfl), rfl, rfl⟩
theorem lk_Mo_20 : zLk zR12 20 12 8 := ⟨_, rfl, Nat.le_of_ble_eq_true rfl, Or.inl (zi4 _ (List.mem_of_getElem? (i := 213) rfl) rfl)⟩
theorem lf_Mo_20 : zLf zR12 20 12 8 := ⟨_, rfl, Nat.le_of_ble_eq_true rfl, (zi4 _ (List.mem_of_getElem? (i := 213) rfl) rfl), rfl, rfl⟩
theorem lk_Mo_23 : zLk zR12 23 12 9 := ⟨_, rfl, Nat.le_of_ble_eq_true rfl, Or.inl (zi4 _ (List.mem_of_getElem? (i := 214) rfl) rfl)⟩
theorem lf_Mo_23 : zLf zR12 23 12 9 := ⟨_, rfl, Nat.le_of_ble_eq_true rfl, (zi4 _ (List.mem_of_getElem? (i := 214) rfl) rfl), rfl, rfl⟩
theorem lk_Mo_26 : zLk zR12 26 12 10 := ⟨_, rfl, Nat.le_of_ble_eq_true rfl, Or.inl (zi4 _ (List.mem_of_getElem? (i := 215) rfl) rfl)⟩
theorem lf_Mo_26 : zLf zR12 26 12 10 := ⟨_, rfl, Nat.le_of_ble_eq_true rfl, (zi4 _ (List.mem_of_getElem? (i := 215) rfl) rfl), rfl, rfl⟩
theorem lk_Mo_29 : zLk zR12 29 12 11 := ⟨_, rfl, Nat.le_of_ble_eq_true rfl, Or.inl (zi4 _ (List.mem_of_getElem? (i := 216) rfl) rfl)⟩
theorem lf_Mo_29 : zLf zR12 29 12 11 := ⟨_, rfl, Nat.le_of_ble_eq_true rfl, (zi4 _ (List.mem_of_getElem? (i := 216) rfl) rfl), rfl, rfl⟩
theorem lk_Mo_33 : zLk zR12 33 12 12 := ⟨_, rfl, Nat.le_of_ble_eq_true rfl, Or.inl (zi4 _ (List.mem_of_getElem? (i := 217) rfl) rfl)⟩
theorem lf_Mo_33 : zLf zR12 33 12 12 := ⟨_, rfl, Nat.le_of_ble_eq_true rfl, (zi4 _ (List.mem_of_getElem? (i := 217) rfl) rfl), rfl, rfl⟩
theorem lk_Mo_36 : zLk zR12 36 12 14 := ⟨_, rfl, Nat.le_of_ble_eq_true rfl, Or.inl (zi4 _ (List.mem_of_getElem? (i := 219) rfl) rfl)⟩
theorem lf_Mo_36 : zLf zR12 36 12 14 := ⟨_, rfl, Nat.le_of_ble_eq_true rfl, (zi4 _ (List.mem_of_getElem? (i := 219) rfl) rfl), rfl, rfl⟩
theorem lk_Mo_39 : zLk zR12 39 12 15 := ⟨_, rfl, Nat.le_of_ble_eq_true rfl, Or.inl (zi4 _ (List.mem_of_getElem? (i := 220) rfl) rfl)⟩
theorem lf_Mo_39 : zLf zR12 39 12 15 := ⟨_, rfl, Nat.le_of_ble_eq_true rfl, (zi4 _ (List.mem_of_getElem? (i := 220) rfl) rfl), rfl, rfl⟩
theorem lk_Mo_42 : zLk zR12 42 12 16 := ⟨_, rfl, Nat.le_of_ble_eq_true rfl, Or.inl (zi4 _ (List.mem_of_getElem? (i := 221) rfl) rfl)⟩
theorem lf_Mo_42 : zLf zR12 42 12 16 := ⟨_, rfl, Nat.le_of_ble_eq_true rfl, (zi4 _ (List.mem_of_getElem? (i := 221) rfl) rfl), rfl, rfl⟩
theorem lk_Mo_45 : zLk zR12 45 12 17 := ⟨_, rfl, Nat.le_of_ble_eq_true rfl, Or.inl (zi4 _ (List.mem_of_getElem? (i := 222) rfl) rfl)⟩
theorem lf_Mo_45 : zLf zR12 45 12 17 := ⟨_, rfl, Nat.le_of_ble_eq_true rfl, (zi4 _ (List.mem_of_getElem? (i := 222) rfl) rfl), rfl, rfl⟩
theorem lk_Mo_48 : zLk zR12 48 12 18 := ⟨_, rfl, Nat.le_of_ble_eq_true rfl, Or.inl (zi4 _ (List.mem_of_getElem? (i := 223) rfl) rfl)⟩
theorem lf_Mo_48 : zLf zR12 48 12 18 := ⟨_, rfl, Nat.le_of_ble_eq_true rfl, (zi4 _ (List.mem_of_getElem? (i := 223) rfl) rfl), rfl, rfl⟩
theorem lk_Mo_51 : zLk zR12 51 12 19 := ⟨_, rfl, Nat.le_of_ble_eq_true rfl, Or.inl (zi4 _ (List.mem_of_getElem? (i := 224) rfl) rfl)⟩
theorem lf_Mo_51 : zLf zR12 51 12 19 := ⟨_, rfl, Nat.le_of_ble_eq_true rfl, (zi4 _ (List.mem_of_getElem? (i := 224) rfl) rfl), rfl, rfl⟩
theorem lk_Mo_54 : zLk zR12 54 12 20 := ⟨_, rfl, Nat.le_of_ble_eq_true rfl, Or.inl (zi4 _ (List.mem_of_getElem? (i := 225) rfl) rfl)⟩
theorem lf_Mo_54 : zLf zR12 54 12 20 := ⟨_, rfl, Nat.le_of_ble_eq_true rfl, (zi4 _ (List.mem_of_getElem? (i := 225) rfl) rfl), rfl, rfl⟩
theorem lk_Mo_57 : zLk zR12 57 12 21 := ⟨_, rfl, Nat.le_of_ble_eq_true rfl, Or.inl (zi4 _ (List.mem_of_getElem? (i := 226) rfl) rfl)⟩
theorem lf_Mo_57 : zLf zR12 57 12 21 := ⟨_, rfl, Nat.le_of_ble_eq_true rfl, (zi4 _ (List.mem_of_getElem? (i := 226) rfl) rfl), rfl, rfl⟩
theorem lk_Mo_60 : zLk zR12 60 12 23 := ⟨_, rfl, Nat.le_of_ble_eq_true rfl, Or.inl (zi4 _ (List.mem_of_getElem? (i := 228) rfl) rfl)⟩
theorem lf_Mo_60 : zLf zR12 60 12 23 := ⟨_, rfl, Nat.le_of_ble_eq_true rfl, (zi4 _ (List.mem_of_getElem? (i := 228) rfl) rfl), rfl, rfl⟩
theorem lk_Mo_63 : zLk zR12 63 12 24 := ⟨_, rfl, Nat.le_of_ble_eq_true rfl, Or.inl (zi4 _ (List.mem_of_getElem? (i := 229) rfl) rfl)⟩
theorem lf_Mo_63 : zLf zR12 63 12 24 := ⟨_, rfl, Nat.le_of_ble_eq_true rfl, (zi4 _ (List.mem_of_getElem? (i := 229) rfl) rfl), rfl, rfl⟩
theorem lk_Mo_66 : zLk zR12 66 12 25 := ⟨_, rfl, Nat.le_of_ble_eq_true rfl, Or.inl (zi4 _ (List.mem_of_getElem? (i := 230) rfl) rfl)⟩
theorem lf_Mo_66 : zLf zR12 66 12 25 := ⟨_, rfl, Nat.le_of_ble_eq_true rfl, (zi4 _ (List.mem_of_getElem? (i := 230) rfl) rfl), rfl, rfl⟩
theorem lk_Mo_69 : zLk zR12 69 12 26 := ⟨_, rfl, Nat.le_of_ble_eq_true rfl, Or.inl (zi4 _ (List.mem_of_getElem? (i := 231) rfl) rfl)⟩
theorem lf_Mo_69 : zLf zR12 69 12 26 := ⟨_, rfl, Nat.le_of_ble_eq_true rfl, (zi4 _ (List.mem_of_getElem? (i := 231) rfl) rfl), rfl, rfl⟩
theorem lk_Mo_72 : zLk zR12 72 12 27 := ⟨_, rfl, Nat.le_of_ble_eq_true rfl, Or.inl (zi4 _ (List.mem_of_getElem? (i := 232) rfl) rfl)⟩
theorem lf_Mo_72 : zLf zR12 72 12 27 := ⟨_, rfl, Nat.le_of_ble_eq_true rfl, (zi4 _ (List.mem_of_getElem? (i := 232) rfl) rfl), rfl, rfl⟩
theorem lk_Mo_75 : zLk zR12 75 12 40 := ⟨_, rfl, Nat.le_of_ble_eq_true rfl, Or.inl (zi5 _ (List.mem_of_getElem? (i := 5) rfl) rfl)⟩
theorem lf_Mo_75 : zLf zR12 75 12 40 := ⟨_, rfl, Nat.le_of_ble_eq_true rfl, (zi5 _ (List.mem_of_getElem? (i := 5) rfl) rfl), rfl, rfl⟩
theorem lk_Mo_79 : zLk zR12 79 12 41 := ⟨_, rfl, Nat.le_of_ble_eq_true rfl, Or.inl (zi5 _ (List.mem_of_getElem? (i := 6) rfl) rfl)⟩
theorem lf_Mo_79 : zLf zR12 79 12 41 := ⟨_, rfl, Nat.le_of_ble_eq_true rfl, (zi5 _ (List.mem_of_getElem? (i := 6) rfl) rfl), rfl, rfl⟩
theorem lk_Mo_82 : zLk zR12 82 12 49 := ⟨_, rfl, Nat.le_of_ble_eq_true rfl, Or.inl (zi5 _ (List.mem_of_getElem? (i := 14) rfl) rfl)⟩
theorem lf_Mo_82 : zLf zR12 82 12 49 := ⟨_, rfl, Nat.le_of_ble_eq_true rfl, (zi5 _ (List.mem_of_getElem? (i := 14) rfl) rfl), rfl, rfl⟩
theorem lk_Mo_85 : zLk zR12 85 12 1 := ⟨_, rfl, Nat.le_of_ble_eq_true rfl, Or.inl (zi4 _ (List.mem_of_getElem? (i := 206) rfl) rfl)⟩
theorem lp_Mo_85 : zLp zR12 85 12 1 := ⟨lk_Mo_85, fun r h => by cases h; rfl⟩
theorem lk_Mo_95 : zLk zR12 95 12 22 := ⟨_, rfl, Nat.le_of_ble_eq_true rfl, Or.inl (zi4 _ (List.mem_of_getElem? (i := 227) rfl) rfl)⟩
theorem lp_Mo_95 : zLp zR12 95 12 22 := ⟨lk_Mo_95, fun r h => by cases h; rfl⟩
theorem lk_Mo_113 : zLk zR12 113 12 47 := ⟨_, rfl, Nat.le_of_ble_eq_true rfl, Or.inl (zi5 _ (List.mem_of_getElem? (i := 12) rfl) rfl)⟩
theorem lp_Mo_113 : zLp zR12 113 12 47 := ⟨lk_Mo_113, fun r h => by cases h; rfl⟩
theorem lk_Mo_116 : zLk zR12 116 12 48 := ⟨_, rfl, Nat.le_of_ble_eq_true rfl, Or.inl (zi5 _ (List.mem_of_getElem? (i := 13) rfl) rfl)⟩
theorem lp_Mo_116 : zLp zR12 116 12 48 := ⟨lk_Mo_116, fun r h => by cases h; rfl⟩
theorem lk_Mo_121 : zLk zR12 121 12 13 := ⟨_, rfl, Nat.le_of_ble_eq_true rfl, Or.inl (zi4 _ (List.mem_of_getElem? (i := 218) rfl) rfl)⟩
theorem lp_Mo_121 : zLp zR12 121 12 13 := ⟨lk_Mo_121, fun r h => by cases h; rfl⟩
theorem lk_Mo_146 : zLk zR12 146 12 42 := ⟨_, rfl, Nat.le_of_ble_eq_true rfl, Or.inl (zi5 _ (List.mem_of_getElem? (i := 7) rfl) rfl)⟩
theorem lp_Mo_146 : zLp zR12 146 12 42 := ⟨lk_Mo_146, fun r h => by cases h; rfl⟩
theorem lk_Mo_149 : zLk zR12 149 12 5 := ⟨_, rfl, Nat.le_of_ble_eq_true rfl, Or.inl (zi4 _ (List.mem_of_getElem? (i := 210) rfl) rfl)⟩
theorem lp_Mo_149 : zLp zR12 149 12 5 := ⟨lk_Mo_149, fun r h => by cases h; rfl⟩
theorem lk_Mo_152 : zLk zR12 152 12 6 := ⟨_, rfl, Nat.le_of_ble_eq_true rfl, Or.inl (zi4 _ (List.mem_of_getElem? (i := 211) rfl) rfl)⟩
theorem lp_Mo_152 : zLp zR12 152 12 6 := ⟨lk_Mo_152, fun r h => by cases h; rfl⟩
theorem lk_Mo_155 : zLk zR12 155 12 7 := ⟨_, rfl, Nat.le_of_ble_eq_true rfl, Or.inl (zi4 _ (List.mem_of_getElem? (i := 212) rfl) rfl)⟩
theorem lp_Mo_155 : zLp zR12 155 12 7 := ⟨lk_Mo_155, fun r h => by cases h; rfl⟩
theorem lk_Mo_198 : zLk zR12 198 12 33 := ⟨_, rfl, Nat.le_of_ble_eq_true rfl, Or.inl (zi4 _ (List.mem_of_getElem? (i := 238) rfl) rfl)⟩
theorem lp_Mo_198 : zLp zR12 198 12 33 := ⟨lk_Mo_198, fun r h => by cases h; rfl⟩
theorem lk_Mo_201 : zLk zR12 201 12 34 := ⟨_, rfl, Nat.le_of_ble_eq_true rfl, Or.inl (zi4 _ (List.mem_of_getElem? (i := 239) rfl) rfl)⟩
theorem lp_Mo_201 : zLp zR12 201 12 34 := ⟨lk_Mo_201, fun r h => by cases h; rfl⟩
theorem lk_Mo_204 : zLk zR12 204 12 28 := ⟨_, rfl, Nat.le_of_ble_eq_true rfl, Or.inl (zi4 _ (List.mem_of_getElem? (i := 233) rfl) rfl)⟩
theorem lp_Mo_204 : zLp zR12 204 12 28 := ⟨lk_Mo_204, fun r h => by cases h; rfl⟩
theorem lk_Mo_210 : zLk zR12 210 12 29 := ⟨_, rfl, Nat.le_of_ble_eq_true rfl, Or.inl (zi4 _ (List.mem_of_getElem? (i := 234) rfl) rfl)⟩
theorem lp_Mo_210 : zLp zR12 210 12 29 := ⟨lk_Mo_210, fun r h => by cases h; rfl⟩
theorem lk_Mo_213 : zLk zR12 213 12 30 := ⟨_, rfl, Nat.le_of_ble_eq_true rfl, Or.inl (zi4 _ (List.mem_of_getElem? (i := 235) rfl) rfl)⟩
theorem lp_Mo_213 : zLp zR12 213 12 30 := ⟨lk_Mo_213, fun r h => by cases h; rfl⟩
theorem lk_Mo_216 : zLk zR12 216 12 35 := ⟨_, rfl, Nat.le_of_ble_eq_true rfl, Or.inl (zi5 _ (List.mem_of_getElem? (i := 0) rfl) rfl)⟩
theorem lp_Mo_216 : zLp zR12 216 12 35 := ⟨lk_Mo_216, fun r h => by cases h; rfl⟩
theorem lk_Mo_219 : zLk zR12 219 12 36 := ⟨_, rfl, Nat.le_of_ble_eq_true rfl, Or.inl (zi5 _ (List.mem_of_getElem? (i := 1) rfl) rfl)⟩
theorem lp_Mo_219 : zLp zR12 219 12 36 := ⟨lk_Mo_219, fun r h => by cases h; rfl⟩
theorem lk_Mo_222 : zLk zR12 222 12 37 := ⟨_, rfl, Nat.le_of_ble_eq_true rfl, Or.inl (zi5 _ (List.mem_of_getElem? (i := 2) rfl) rfl)⟩
theorem lp_Mo_222 : zLp zR12 222 12 37 := ⟨lk_Mo_222, fun r h => by cases h; rfl⟩
theorem lk_Mo_225 : zLk zR12 225 12 39 := ⟨_, rfl, Nat.le_of_ble_eq_true rfl, Or.inl (zi5 _ (List.mem_of_getElem? (i := 4) rfl) rfl)⟩
theorem lp_Mo_225 : zLp zR12 225 12 39 := ⟨lk_Mo_225, fun r h => by cases h; rfl⟩
theorem lk_Mo_232 : zLk zR12 232 12 3 := ⟨_, rfl, Nat.le_of_ble_eq_true rfl, Or.inl (zi4 _ (List.mem_of_getElem? (i := 208) rfl) rfl)⟩
theorem lp_Mo_232 : zLp zR12 232 12 3 := ⟨lk_Mo_232, fun r h => by cases h; rfl⟩
theorem lk_Mo_241 : zLk zR12 241 12 38 := ⟨_, rfl, Nat.le_of_ble_eq_true rfl, Or.inl (zi5 _ (List.mem_of_getElem? (i := 3) rfl) rfl)⟩
theorem lp_Mo_241 : zLp zR12 241 12 38 := ⟨lk_Mo_241, fun r h => by cases h; rfl⟩
theorem lk_Mo_252 : zLk zR12 252 12 32 := ⟨_, rfl, Nat.le_of_ble_eq_true rfl, Or.inl (zi4 _ (List.mem_of_getElem? (i := 237) rfl) rfl)⟩
theorem lp_Mo_252 : zLp zR12 252 12 32 := ⟨lk_Mo_252, fun r h => by cases h; rfl⟩
theorem lk_Mo_258 : zLk zR12 258 12 31 := ⟨_, rfl, Nat.le_of_ble_eq_true rfl, Or.inl (zi4 _ (List.mem_of_getElem? (i := 236) rfl) rfl)⟩
theorem lp_Mo_258 : zLp zR12 258 12 31 := ⟨lk_Mo_258, fun r h => by cases h; rfl⟩
theorem lk_Mo_276 : zLk zR12 276 12 43 := ⟨_, rfl, Nat.le_of_ble_eq_true rfl, Or.inl (zi5 _ (List.mem_of_getElem? (i := 8) rfl) rfl)⟩
theorem lp_Mo_276 : zLp zR12 276 12 43 := ⟨lk_Mo_276, fun r h => by cases h; rfl⟩
theorem lk_Mo_298 : zLk zR12 298 12 44 := ⟨_, rfl, Nat.le_of_ble_eq_true rfl, Or.inl (zi5 _ (List.mem_of_getElem? (i := 9) rfl) rfl)⟩
theorem lp_Mo_298 : zLp zR12 298 12 44 := ⟨lk_Mo_298, fun r h => by cases h; rfl⟩
theorem lk_Mo_301 : zLk zR12 301 12 45 := ⟨_, rfl, Nat.le_of_ble_eq_true rfl, Or.inl (zi5 _ (List.mem_of_getElem? (i := 10) rfl) rfl)⟩
theorem lp_Mo_301 : zLp zR12 301 12 45 := ⟨lk_Mo_301, fun r h => by cases h; rfl⟩
theorem lk_Mo_304 : zLk zR12 304 12 46 := ⟨_, rfl, Nat.le_of_ble_eq_true rfl, Or.inl (zi5 _ (List.mem_of_getElem? (i := 11) rfl) rfl)⟩
theorem lp_Mo_304 : zLp zR12 304 12 46 := ⟨lk_Mo_304, fun r h => by cases h; rfl⟩
theorem ml_SF_1 : Cond.methodLink zR0 1 objectInit ∈ zB := (zi1 _ (List.mem_of_getElem? (i := 24) rfl) rfl)
theorem ml_SF_11 : Cond.methodLink zR0 11 ⟨zR8, "<init>", "(I)V"⟩ ∈ zB := (zi1 _ (List.mem_of_getElem? (i := 29) rfl) rfl)
theorem ml_SF_24 : Cond.methodLink zR0 24 ⟨zR3, "<init>", "()V"⟩ ∈ zB := (zi1 _ (List.mem_of_getElem? (i := 52) rfl) rfl)
theorem mn_SF_31 : (zR0, 31, (⟨zR7, "<init>", "()V"⟩ : MethodName), "StateFrames") ∈ zNM := List.mem_of_getElem? (i := 0) rfl
theorem ml_SF_41 : Cond.methodLink zR0 41 ⟨zR2, "<init>", "(LStateFrames$Row;)V"⟩ ∈ zB := (zi2 _ (List.mem_of_getElem? (i := 7) rfl) rfl)
theorem ml_SF_49 : Cond.methodLink zR0 49 ⟨zR4, "<init>", "(LStateFrames$Row;LStateFrames$Dictionary;LStateFrames$Report;LStateFrames$Content;)V"⟩ ∈ zB := (zi2 _ (List.mem_of_getElem? (i := 39) rfl) rfl)
theorem ml_SF_56 : Cond.methodLink zR0 56 ⟨zR8, "hasRoom", "(J)Z"⟩ ∈ zB := (zi2 _ (List.mem_of_getElem? (i := 238) rfl) rfl)
theorem ml_SF_60 : Cond.methodLink zR0 60 ⟨zR8, "put", "(I)V"⟩ ∈ zB := (zi3 _ (List.mem_of_getElem? (i := 2) rfl) rfl)
theorem ml_SF_67 : Cond.methodLink zR0 67 ⟨zR8, "putBack", "(II)V"⟩ ∈ zB := (zi3 _ (List.mem_of_getElem? (i := 10) rfl) rfl)
theorem ml_SF_71 : Cond.methodLink zR0 71 ⟨zR8, "empty", "()V"⟩ ∈ zB := (zi3 _ (List.mem_of_getElem? (i := 19) rfl) rfl)
theorem ml_SF_74 : Cond.methodLink zR0 74 ⟨zR3, "takeFrom", "(LStateFrames$Row;)I"⟩ ∈ zB := (zi3 _ (List.mem_of_getElem? (i := 27) rfl) rfl)
theorem ml_SF_78 : Cond.methodLink zR0 78 ⟨zR3, "drop", "()V"⟩ ∈ zB := (zi3 _ (List.mem_of_getElem? (i := 145) rfl) rfl)
theorem ml_SF_81 : Cond.methodLink zR0 81 ⟨zR4, "start", "(I)V"⟩ ∈ zB := (zi3 _ (List.mem_of_getElem? (i := 153) rfl) rfl)
theorem ml_SF_84 : Cond.methodLink zR0 84 ⟨zR4, "goesOn", "()Z"⟩ ∈ zB := (zi3 _ (List.mem_of_getElem? (i := 166) rfl) rfl)
theorem ml_SF_92 : Cond.methodLink zR0 92 ⟨zR4, "block", "()Z"⟩ ∈ zB := (zi3 _ (List.mem_of_getElem? (i := 170) rfl) rfl)
theorem ml_SF_95 : Cond.methodLink zR0 95 ⟨zR4, "beginning", "()Z"⟩ ∈ zB := (zi4 _ (List.mem_of_getElem? (i := 134) rfl) rfl)
theorem ml_SF_107 : Cond.methodLink zR0 107 ⟨zR8, "putPart", "(LStateFrames$Row;II)V"⟩ ∈ zB := (zi4 _ (List.mem_of_getElem? (i := 183) rfl) rfl)
theorem ml_SF_127 : Cond.methodLink zR0 127 ⟨zR8, "at", "(I)I"⟩ ∈ zB := (zi4 _ (List.mem_of_getElem? (i := 196) rfl) rfl)
theorem ml_Codes_3 : Cond.methodLink zR1 3 objectInit ∈ zB := (zi1 _ (List.mem_of_getElem? (i := 84) rfl) rfl)
theorem ml_Codes_23 : Cond.methodLink zR1 23 ⟨zR10, "<init>", "(II)V"⟩ ∈ zB := (zi1 _ (List.mem_of_getElem? (i := 87) rfl) rfl)
theorem ml_Codes_32 : Cond.methodLink zR1 32 ⟨zR11, "<init>", "()V"⟩ ∈ zB := (zi1 _ (List.mem_of_getElem? (i := 130) rfl) rfl)
theorem ml_Codes_44 : Cond.methodLink zR1 44 ⟨zR11, "take", "(I)J"⟩ ∈ zB := (zi3 _ (List.mem_of_getElem? (i := 85) rfl) rfl)
theorem ml_Codes_51 : Cond.methodLink zR1 51 ⟨zR8, "at", "(I)I"⟩ ∈ zB := (zi3 _ (List.mem_of_getElem? (i := 44) rfl) rfl)
theorem ml_Codes_57 : Cond.methodLink zR1 57 ⟨zR1, "takePlain", "(LStateFrames$Row;II)V"⟩ ∈ zB := (zi3 _ (List.mem_of_getElem? (i := 48) rfl) rfl)
theorem ml_Codes_61 : Cond.methodLink zR1 61 ⟨zR10, "tell", "(LStateFrames$Row;II)I"⟩ ∈ zB := (zi3 _ (List.mem_of_getElem? (i := 56) rfl) rfl)
theorem ml_Codes_65 : Cond.methodLink zR1 65 ⟨zR11, "open", "(LStateFrames$Row;II)Z"⟩ ∈ zB := (zi3 _ (List.mem_of_getElem? (i := 75) rfl) rfl)
theorem ml_Codes_69 : Cond.methodLink zR1 69 ⟨zR1, "takeCoded", "()Z"⟩ ∈ zB := (zi3 _ (List.mem_of_getElem? (i := 81) rfl) rfl)
theorem ml_Codes_73 : Cond.methodLink zR1 73 ⟨zR1, "complete", "()Z"⟩ ∈ zB := (zi3 _ (List.mem_of_getElem? (i := 101) rfl) rfl)
theorem ml_Codes_76 : Cond.methodLink zR1 76 ⟨zR1, "lay", "()V"⟩ ∈ zB := (zi3 _ (List.mem_of_getElem? (i := 106) rfl) rfl)
theorem ml_Codes_79 : Cond.methodLink zR1 79 ⟨zR1, "addWeight", "(I)Z"⟩ ∈ zB := (zi3 _ (List.mem_of_getElem? (i := 52) rfl) rfl)
theorem ml_Codes_84 : Cond.methodLink zR1 84 ⟨zR10, "symbolOf", "(I)I"⟩ ∈ zB := (zi3 _ (List.mem_of_getElem? (i := 89) rfl) rfl)
theorem ml_Codes_87 : Cond.methodLink zR1 87 ⟨zR10, "bitsOf", "(I)I"⟩ ∈ zB := (zi3 _ (List.mem_of_getElem? (i := 93) rfl) rfl)
theorem ml_Codes_90 : Cond.methodLink zR1 90 ⟨zR10, "baseOf", "(I)I"⟩ ∈ zB := (zi3 _ (List.mem_of_getElem? (i := 97) rfl) rfl)
theorem ml_Codes_93 : Cond.methodLink zR1 93 ⟨zJInt, "numberOfLeadingZeros", "(I)I"⟩ ∈ zB := (zi3 _ (List.mem_of_getElem? (i := 105) rfl) rfl)
theorem ml_Codes_98 : Cond.methodLink zR1 98 ⟨zJArr, "fill", "([IIII)V"⟩ ∈ zB := (zi3 _ (List.mem_of_getElem? (i := 110) rfl) rfl)
theorem ml_Content_3 : Cond.methodLink zR2 3 objectInit ∈ zB := (zi2 _ (List.mem_of_getElem? (i := 10) rfl) rfl)
theorem ml_Content_12 : Cond.methodLink zR2 12 ⟨zR8, "<init>", "(I)V"⟩ ∈ zB := (zi2 _ (List.mem_of_getElem? (i := 13) rfl) rfl)
theorem ml_Content_38 : Cond.methodLink zR2 38 ⟨zR8, "empty", "()V"⟩ ∈ zB := (zi3 _ (List.mem_of_getElem? (i := 165) rfl) rfl)
theorem ml_Content_47 : Cond.methodLink zR2 47 ⟨zR2, "mostOfBlock", "()I"⟩ ∈ zB := (zi4 _ (List.mem_of_getElem? (i := 35) rfl) rfl)
theorem ml_Content_51 : Cond.methodLink zR2 51 ⟨zR2, "ofFrame", "()I"⟩ ∈ zB := (zi4 _ (List.mem_of_getElem? (i := 93) rfl) rfl)
theorem ml_Content_54 : Cond.methodLink zR2 54 ⟨zJMath, "min", "(II)I"⟩ ∈ zB := (zi4 _ (List.mem_of_getElem? (i := 101) rfl) rfl)
theorem ml_Content_60 : Cond.methodLink zR2 60 ⟨zR8, "putPart", "(LStateFrames$Row;II)V"⟩ ∈ zB := (zi4 _ (List.mem_of_getElem? (i := 102) rfl) rfl)
theorem ml_Content_64 : Cond.methodLink zR2 64 ⟨zR8, "putBack", "(II)V"⟩ ∈ zB := (zi4 _ (List.mem_of_getElem? (i := 103) rfl) rfl)
theorem ml_Content_70 : Cond.methodLink zR2 70 ⟨zR2, "sumOfLanes", "()J"⟩ ∈ zB := (zi4 _ (List.mem_of_getElem? (i := 114) rfl) rfl)
theorem ml_Content_74 : Cond.methodLink zR2 74 ⟨zR8, "number", "(II)J"⟩ ∈ zB := (zi4 _ (List.mem_of_getElem? (i := 121) rfl) rfl)
theorem ml_Content_78 : Cond.methodLink zR2 78 ⟨zR2, "mixed", "(JJ)J"⟩ ∈ zB := (zi4 _ (List.mem_of_getElem? (i := 122) rfl) rfl)
theorem ml_Content_82 : Cond.methodLink zR2 82 ⟨zJLong, "rotateLeft", "(JI)J"⟩ ∈ zB := (zi4 _ (List.mem_of_getElem? (i := 125) rfl) rfl)
theorem ml_Content_96 : Cond.methodLink zR2 96 ⟨zR8, "at", "(I)I"⟩ ∈ zB := (zi4 _ (List.mem_of_getElem? (i := 131) rfl) rfl)
theorem ml_Dict_3 : Cond.methodLink zR3 3 objectInit ∈ zB := (zi1 _ (List.mem_of_getElem? (i := 55) rfl) rfl)
theorem ml_Dict_11 : Cond.methodLink zR3 11 ⟨zR8, "<init>", "(I)V"⟩ ∈ zB := (zi1 _ (List.mem_of_getElem? (i := 57) rfl) rfl)
theorem ml_Dict_22 : Cond.methodLink zR3 22 ⟨zR5, "<init>", "()V"⟩ ∈ zB := (zi1 _ (List.mem_of_getElem? (i := 60) rfl) rfl)
theorem ml_Dict_37 : Cond.methodLink zR3 37 ⟨zR1, "<init>", "()V"⟩ ∈ zB := (zi1 _ (List.mem_of_getElem? (i := 81) rfl) rfl)
theorem ml_Dict_61 : Cond.methodLink zR3 61 ⟨zR10, "<init>", "(II)V"⟩ ∈ zB := (zi1 _ (List.mem_of_getElem? (i := 175) rfl) rfl)
theorem ml_Dict_64 : Cond.methodLink zR3 64 ⟨zR8, "empty", "()V"⟩ ∈ zB := (zi3 _ (List.mem_of_getElem? (i := 133) rfl) rfl)
theorem ml_Dict_71 : Cond.methodLink zR3 71 ⟨zR8, "number", "(II)J"⟩ ∈ zB := (zi3 _ (List.mem_of_getElem? (i := 31) rfl) rfl)
theorem ml_Dict_77 : Cond.methodLink zR3 77 ⟨zR3, "takeTold", "(LStateFrames$Row;)I"⟩ ∈ zB := (zi3 _ (List.mem_of_getElem? (i := 36) rfl) rfl)
theorem ml_Dict_81 : Cond.methodLink zR3 81 ⟨zR3, "takeContent", "(LStateFrames$Row;I)I"⟩ ∈ zB := (zi3 _ (List.mem_of_getElem? (i := 129) rfl) rfl)
theorem ml_Dict_85 : Cond.methodLink zR3 85 ⟨zR8, "putPart", "(LStateFrames$Row;II)V"⟩ ∈ zB := (zi3 _ (List.mem_of_getElem? (i := 134) rfl) rfl)
theorem ml_Dict_89 : Cond.methodLink zR3 89 ⟨zR1, "tell", "(LStateFrames$Row;II)I"⟩ ∈ zB := (zi3 _ (List.mem_of_getElem? (i := 40) rfl) rfl)
theorem ml_Dict_93 : Cond.methodLink zR3 93 ⟨zR3, "tellShare", "(ILStateFrames$Row;I)I"⟩ ∈ zB := (zi3 _ (List.mem_of_getElem? (i := 116) rfl) rfl)
theorem ml_Dict_97 : Cond.methodLink zR3 97 ⟨zR5, "set", "(JJJ)V"⟩ ∈ zB := (zi3 _ (List.mem_of_getElem? (i := 121) rfl) rfl)
theorem ml_Dict_101 : Cond.methodLink zR3 101 ⟨zR3, "swapSpare", "()V"⟩ ∈ zB := (zi3 _ (List.mem_of_getElem? (i := 125) rfl) rfl)
theorem ml_Dict_104 : Cond.methodLink zR3 104 ⟨zR10, "tell", "(LStateFrames$Row;II)I"⟩ ∈ zB := (zi3 _ (List.mem_of_getElem? (i := 120) rfl) rfl)
theorem ml_FR_3 : Cond.methodLink zR4 3 objectInit ∈ zB := (zi2 _ (List.mem_of_getElem? (i := 42) rfl) rfl)
theorem ml_FR_29 : Cond.methodLink zR4 29 ⟨zR6, "<init>", "(LStateFrames$Row;LStateFrames$Report;)V"⟩ ∈ zB := (zi2 _ (List.mem_of_getElem? (i := 45) rfl) rfl)
theorem ml_FR_38 : Cond.methodLink zR4 38 ⟨zR9, "<init>", "(LStateFrames$Row;LStateFrames$Report;LStateFrames$Content;LStateFrames$Literals;)V"⟩ ∈ zB := (zi2 _ (List.mem_of_getElem? (i := 99) rfl) rfl)
theorem ml_FR_66 : Cond.methodLink zR4 66 ⟨zR7, "start", "()V"⟩ ∈ zB := (zi3 _ (List.mem_of_getElem? (i := 157) rfl) rfl)
theorem ml_FR_71 : Cond.methodLink zR4 71 ⟨zR2, "start", "(I)V"⟩ ∈ zB := (zi3 _ (List.mem_of_getElem? (i := 161) rfl) rfl)
theorem ml_FR_86 : Cond.methodLink zR4 86 ⟨zR4, "lacks", "(J)Z"⟩ ∈ zB := (zi3 _ (List.mem_of_getElem? (i := 175) rfl) rfl)
theorem ml_FR_90 : Cond.methodLink zR4 90 ⟨zR4, "endsWithin", "()Z"⟩ ∈ zB := (zi3 _ (List.mem_of_getElem? (i := 179) rfl) rfl)
theorem ml_FR_94 : Cond.methodLink zR4 94 ⟨zR8, "number", "(II)J"⟩ ∈ zB := (zi3 _ (List.mem_of_getElem? (i := 187) rfl) rfl)
theorem ml_FR_100 : Cond.methodLink zR4 100 ⟨zR4, "head", "()Z"⟩ ∈ zB := (zi4 _ (List.mem_of_getElem? (i := 139) rfl) rfl)
theorem ml_FR_107 : Cond.methodLink zR4 107 ⟨zR4, "spare", "()Z"⟩ ∈ zB := (zi4 _ (List.mem_of_getElem? (i := 179) rfl) rfl)
theorem ml_FR_110 : Cond.methodLink zR4 110 ⟨zR7, "fail", "(II)Z"⟩ ∈ zB := (zi3 _ (List.mem_of_getElem? (i := 183) rfl) rfl)
theorem ml_FR_114 : Cond.methodLink zR4 114 ⟨zR8, "at", "(I)I"⟩ ∈ zB := (zi3 _ (List.mem_of_getElem? (i := 207) rfl) rfl)
theorem ml_FR_121 : Cond.methodLink zR4 121 ⟨zR4, "window", "()Z"⟩ ∈ zB := (zi4 _ (List.mem_of_getElem? (i := 143) rfl) rfl)
theorem ml_FR_124 : Cond.methodLink zR4 124 ⟨zR4, "idFits", "(I)Z"⟩ ∈ zB := (zi4 _ (List.mem_of_getElem? (i := 153) rfl) rfl)
theorem ml_FR_128 : Cond.methodLink zR4 128 ⟨zR4, "sizeTold", "(IZ)Z"⟩ ∈ zB := (zi4 _ (List.mem_of_getElem? (i := 157) rfl) rfl)
theorem ml_FR_132 : Cond.methodLink zR4 132 ⟨zR2, "startFrame", "()V"⟩ ∈ zB := (zi4 _ (List.mem_of_getElem? (i := 162) rfl) rfl)
theorem ml_FR_135 : Cond.methodLink zR4 135 ⟨zR6, "startFrame", "(LStateFrames$Dictionary;)V"⟩ ∈ zB := (zi4 _ (List.mem_of_getElem? (i := 166) rfl) rfl)
theorem ml_FR_138 : Cond.methodLink zR4 138 ⟨zR9, "startFrame", "(LStateFrames$Dictionary;)V"⟩ ∈ zB := (zi4 _ (List.mem_of_getElem? (i := 170) rfl) rfl)
theorem ml_FR_139 : Cond.methodLink zR4 139 ⟨zR4, "setWindow", "(J)V"⟩ ∈ zB := (zi4 _ (List.mem_of_getElem? (i := 147) rfl) rfl)
theorem ml_FR_162 : Cond.methodLink zR4 162 ⟨zR2, "mostOfBlock", "()I"⟩ ∈ zB := (zi3 _ (List.mem_of_getElem? (i := 188) rfl) rfl)
theorem ml_FR_166 : Cond.methodLink zR4 166 ⟨zR2, "startBlock", "()V"⟩ ∈ zB := (zi3 _ (List.mem_of_getElem? (i := 194) rfl) rfl)
theorem ml_FR_169 : Cond.methodLink zR4 169 ⟨zR4, "plain", "(II)Z"⟩ ∈ zB := (zi3 _ (List.mem_of_getElem? (i := 198) rfl) rfl)
theorem ml_FR_172 : Cond.methodLink zR4 172 ⟨zR6, "take", "(III)Z"⟩ ∈ zB := (zi3 _ (List.mem_of_getElem? (i := 215) rfl) rfl)
theorem ml_FR_179 : Cond.methodLink zR4 179 ⟨zR9, "take", "(III)Z"⟩ ∈ zB := (zi4 _ (List.mem_of_getElem? (i := 16) rfl) rfl)
theorem ml_FR_180 : Cond.methodLink zR4 180 ⟨zR4, "endFrame", "()Z"⟩ ∈ zB := (zi4 _ (List.mem_of_getElem? (i := 104) rfl) rfl)
theorem ml_FR_183 : Cond.methodLink zR4 183 ⟨zR2, "overMost", "(I)Z"⟩ ∈ zB := (zi3 _ (List.mem_of_getElem? (i := 202) rfl) rfl)
theorem ml_FR_189 : Cond.methodLink zR4 189 ⟨zR8, "putPart", "(LStateFrames$Row;II)V"⟩ ∈ zB := (zi3 _ (List.mem_of_getElem? (i := 206) rfl) rfl)
theorem ml_FR_193 : Cond.methodLink zR4 193 ⟨zR8, "putTimes", "(II)V"⟩ ∈ zB := (zi3 _ (List.mem_of_getElem? (i := 208) rfl) rfl)
theorem ml_FR_197 : Cond.methodLink zR4 197 ⟨zR2, "wideSum", "()J"⟩ ∈ zB := (zi4 _ (List.mem_of_getElem? (i := 109) rfl) rfl)
theorem ml_FR_203 : Cond.methodLink zR4 203 ⟨zR2, "ofFrame", "()I"⟩ ∈ zB := (zi4 _ (List.mem_of_getElem? (i := 133) rfl) rfl)
theorem ml_Latest_1 : Cond.methodLink zR5 1 objectInit ∈ zB := (zi1 _ (List.mem_of_getElem? (i := 63) rfl) rfl)
theorem ml_Latest_25 : Cond.methodLink zR5 25 ⟨zR5, "lead", "(J)V"⟩ ∈ zB := (zi4 _ (List.mem_of_getElem? (i := 84) rfl) rfl)
theorem ml_Lit_3 : Cond.methodLink zR6 3 objectInit ∈ zB := (zi2 _ (List.mem_of_getElem? (i := 48) rfl) rfl)
theorem ml_Lit_21 : Cond.methodLink zR6 21 ⟨zR11, "<init>", "()V"⟩ ∈ zB := (zi2 _ (List.mem_of_getElem? (i := 50) rfl) rfl)
theorem ml_Lit_28 : Cond.methodLink zR6 28 ⟨zR1, "<init>", "()V"⟩ ∈ zB := (zi2 _ (List.mem_of_getElem? (i := 52) rfl) rfl)
theorem ml_Lit_36 : Cond.methodLink zR6 36 ⟨zR8, "<init>", "(I)V"⟩ ∈ zB := (zi2 _ (List.mem_of_getElem? (i := 55) rfl) rfl)
theorem ml_Lit_74 : Cond.methodLink zR6 74 ⟨zR8, "putPart", "(LStateFrames$Row;II)V"⟩ ∈ zB := (zi3 _ (List.mem_of_getElem? (i := 239) rfl) rfl)
theorem ml_Lit_78 : Cond.methodLink zR6 78 ⟨zR8, "empty", "()V"⟩ ∈ zB := (zi3 _ (List.mem_of_getElem? (i := 219) rfl) rfl)
theorem ml_Lit_81 : Cond.methodLink zR6 81 ⟨zR7, "fail", "(II)Z"⟩ ∈ zB := (zi3 _ (List.mem_of_getElem? (i := 220) rfl) rfl)
theorem ml_Lit_87 : Cond.methodLink zR6 87 ⟨zR8, "at", "(I)I"⟩ ∈ zB := (zi3 _ (List.mem_of_getElem? (i := 221) rfl) rfl)
theorem ml_Lit_91 : Cond.methodLink zR6 91 ⟨zR6, "plainHead", "(II)Z"⟩ ∈ zB := (zi3 _ (List.mem_of_getElem? (i := 222) rfl) rfl)
theorem ml_Lit_94 : Cond.methodLink zR6 94 ⟨zR6, "codedHead", "(II)Z"⟩ ∈ zB := (zi3 _ (List.mem_of_getElem? (i := 227) rfl) rfl)
theorem ml_Lit_97 : Cond.methodLink zR6 97 ⟨zR6, "quarter", "()I"⟩ ∈ zB := (zi3 _ (List.mem_of_getElem? (i := 231) rfl) rfl)
theorem ml_Lit_101 : Cond.methodLink zR6 101 ⟨zR6, "takePlain", "()V"⟩ ∈ zB := (zi3 _ (List.mem_of_getElem? (i := 235) rfl) rfl)
theorem ml_Lit_104 : Cond.methodLink zR6 104 ⟨zR1, "tell", "(LStateFrames$Row;II)I"⟩ ∈ zB := (zi4 _ (List.mem_of_getElem? (i := 1) rfl) rfl)
theorem ml_Lit_108 : Cond.methodLink zR6 108 ⟨zR6, "takeStream", "(III)Z"⟩ ∈ zB := (zi4 _ (List.mem_of_getElem? (i := 2) rfl) rfl)
theorem ml_Lit_112 : Cond.methodLink zR6 112 ⟨zR6, "takeFour", "()Z"⟩ ∈ zB := (zi4 _ (List.mem_of_getElem? (i := 12) rfl) rfl)
theorem ml_Lit_116 : Cond.methodLink zR6 116 ⟨zR8, "number", "(II)J"⟩ ∈ zB := (zi3 _ (List.mem_of_getElem? (i := 226) rfl) rfl)
theorem ml_Lit_120 : Cond.methodLink zR6 120 ⟨zR8, "putTimes", "(II)V"⟩ ∈ zB := (zi4 _ (List.mem_of_getElem? (i := 0) rfl) rfl)
theorem ml_Lit_124 : Cond.methodLink zR6 124 ⟨zR11, "open", "(LStateFrames$Row;II)Z"⟩ ∈ zB := (zi4 _ (List.mem_of_getElem? (i := 6) rfl) rfl)
theorem ml_Lit_131 : Cond.methodLink zR6 131 ⟨zR1, "next", "(LStateFrames$Stream;)I"⟩ ∈ zB := (zi4 _ (List.mem_of_getElem? (i := 7) rfl) rfl)
theorem ml_Lit_135 : Cond.methodLink zR6 135 ⟨zR8, "put", "(I)V"⟩ ∈ zB := (zi4 _ (List.mem_of_getElem? (i := 11) rfl) rfl)
theorem ml_Rep_1 : Cond.methodLink zR7 1 objectInit ∈ zB := (zi1 _ (List.mem_of_getElem? (i := 214) rfl) rfl)
theorem ml_Row_1 : Cond.methodLink zR8 1 objectInit ∈ zB := (zi1 _ (List.mem_of_getElem? (i := 32) rfl) rfl)
theorem ml_Row_17 : Cond.methodLink zR8 17 ⟨zJMath, "min", "(II)I"⟩ ∈ zB := (zi3 _ (List.mem_of_getElem? (i := 14) rfl) rfl)
theorem ml_Row_23 : Cond.methodLink zR8 23 ⟨zJArr, "fill", "([BIIB)V"⟩ ∈ zB := (zi3 _ (List.mem_of_getElem? (i := 212) rfl) rfl)
theorem ml_Row_29 : Cond.methodLink zR8 29 arraycopyName ∈ zB := (zi3 _ (List.mem_of_getElem? (i := 138) rfl) rfl)
theorem ml_Seq_3 : Cond.methodLink zR9 3 objectInit ∈ zB := (zi2 _ (List.mem_of_getElem? (i := 102) rfl) rfl)
theorem ml_Seq_29 : Cond.methodLink zR9 29 ⟨zR11, "<init>", "()V"⟩ ∈ zB := (zi2 _ (List.mem_of_getElem? (i := 104) rfl) rfl)
theorem ml_Seq_36 : Cond.methodLink zR9 36 ⟨zR5, "<init>", "()V"⟩ ∈ zB := (zi2 _ (List.mem_of_getElem? (i := 106) rfl) rfl)
theorem ml_Seq_67 : Cond.methodLink zR9 67 ⟨zR10, "<init>", "(II)V"⟩ ∈ zB := (zi2 _ (List.mem_of_getElem? (i := 111) rfl) rfl)
theorem ml_Seq_76 : Cond.methodLink zR9 76 ⟨zR10, "setPoints", "(I[I)V"⟩ ∈ zB := (zi2 _ (List.mem_of_getElem? (i := 115) rfl) rfl)
theorem ml_Seq_106 : Cond.methodLink zR9 106 ⟨zR5, "set", "(JJJ)V"⟩ ∈ zB := (zi4 _ (List.mem_of_getElem? (i := 174) rfl) rfl)
theorem ml_Seq_114 : Cond.methodLink zR9 114 ⟨zR8, "at", "(I)I"⟩ ∈ zB := (zi4 _ (List.mem_of_getElem? (i := 20) rfl) rfl)
theorem ml_Seq_120 : Cond.methodLink zR9 120 ⟨zR7, "fail", "(II)Z"⟩ ∈ zB := (zi4 _ (List.mem_of_getElem? (i := 21) rfl) rfl)
theorem ml_Seq_126 : Cond.methodLink zR9 126 ⟨zR8, "number", "(II)J"⟩ ∈ zB := (zi4 _ (List.mem_of_getElem? (i := 22) rfl) rfl)
theorem ml_Seq_130 : Cond.methodLink zR9 130 ⟨zR9, "takeRest", "(I)Z"⟩ ∈ zB := (zi4 _ (List.mem_of_getElem? (i := 23) rfl) rfl)
theorem ml_Seq_134 : Cond.methodLink zR9 134 ⟨zR9, "takeTable", "(IIII)I"⟩ ∈ zB := (zi4 _ (List.mem_of_getElem? (i := 41) rfl) rfl)
theorem ml_Seq_138 : Cond.methodLink zR9 138 ⟨zR9, "takeAll", "(III)Z"⟩ ∈ zB := (zi4 _ (List.mem_of_getElem? (i := 50) rfl) rfl)
theorem ml_Seq_142 : Cond.methodLink zR9 142 ⟨zR10, "setSingle", "(I)V"⟩ ∈ zB := (zi4 _ (List.mem_of_getElem? (i := 45) rfl) rfl)
theorem ml_Seq_146 : Cond.methodLink zR9 146 ⟨zR10, "tell", "(LStateFrames$Row;II)I"⟩ ∈ zB := (zi4 _ (List.mem_of_getElem? (i := 49) rfl) rfl)
theorem ml_Seq_150 : Cond.methodLink zR9 150 ⟨zR11, "open", "(LStateFrames$Row;II)Z"⟩ ∈ zB := (zi4 _ (List.mem_of_getElem? (i := 54) rfl) rfl)
theorem ml_Seq_158 : Cond.methodLink zR9 158 ⟨zR11, "take", "(I)J"⟩ ∈ zB := (zi4 _ (List.mem_of_getElem? (i := 55) rfl) rfl)
theorem ml_Seq_165 : Cond.methodLink zR9 165 ⟨zR9, "takeOne", "(Z)I"⟩ ∈ zB := (zi4 _ (List.mem_of_getElem? (i := 56) rfl) rfl)
theorem ml_Seq_172 : Cond.methodLink zR9 172 ⟨zR9, "symbolOf", "(I)I"⟩ ∈ zB := (zi4 _ (List.mem_of_getElem? (i := 60) rfl) rfl)
theorem ml_Seq_187 : Cond.methodLink zR9 187 ⟨zR9, "follow", "(I)V"⟩ ∈ zB := (zi4 _ (List.mem_of_getElem? (i := 73) rfl) rfl)
theorem ml_Seq_190 : Cond.methodLink zR9 190 ⟨zR6, "left", "()I"⟩ ∈ zB := (zi4 _ (List.mem_of_getElem? (i := 27) rfl) rfl)
theorem ml_Seq_195 : Cond.methodLink zR9 195 ⟨zR5, "choose", "(JI)J"⟩ ∈ zB := (zi4 _ (List.mem_of_getElem? (i := 79) rfl) rfl)
theorem ml_Seq_199 : Cond.methodLink zR9 199 ⟨zR2, "tooFar", "(JI)Z"⟩ ∈ zB := (zi4 _ (List.mem_of_getElem? (i := 89) rfl) rfl)
theorem ml_Seq_205 : Cond.methodLink zR9 205 ⟨zR2, "overBlock", "(I)Z"⟩ ∈ zB := (zi4 _ (List.mem_of_getElem? (i := 31) rfl) rfl)
theorem ml_Seq_208 : Cond.methodLink zR9 208 ⟨zR2, "overMost", "(I)Z"⟩ ∈ zB := (zi4 _ (List.mem_of_getElem? (i := 36) rfl) rfl)
theorem ml_Seq_214 : Cond.methodLink zR9 214 ⟨zR6, "moveTo", "(LStateFrames$Row;I)V"⟩ ∈ zB := (zi4 _ (List.mem_of_getElem? (i := 37) rfl) rfl)
theorem ml_Seq_218 : Cond.methodLink zR9 218 ⟨zR2, "copyBack", "(II)V"⟩ ∈ zB := (zi4 _ (List.mem_of_getElem? (i := 97) rfl) rfl)
theorem ml_Seq_221 : Cond.methodLink zR9 221 ⟨zR10, "symbolOf", "(I)I"⟩ ∈ zB := (zi4 _ (List.mem_of_getElem? (i := 64) rfl) rfl)
theorem ml_Seq_222 : Cond.methodLink zR9 222 ⟨zR10, "baseOf", "(I)I"⟩ ∈ zB := (zi4 _ (List.mem_of_getElem? (i := 77) rfl) rfl)
theorem ml_Seq_225 : Cond.methodLink zR9 225 ⟨zR10, "bitsOf", "(I)I"⟩ ∈ zB := (zi4 _ (List.mem_of_getElem? (i := 78) rfl) rfl)
theorem ml_Share_3 : Cond.methodLink zR10 3 objectInit ∈ zB := (zi1 _ (List.mem_of_getElem? (i := 90) rfl) rfl)
theorem ml_Share_47 : Cond.methodLink zR10 47 ⟨zJMath, "min", "(II)I"⟩ ∈ zB := (zi2 _ (List.mem_of_getElem? (i := 119) rfl) rfl)
theorem ml_Share_53 : Cond.methodLink zR10 53 ⟨zR10, "lay", "()V"⟩ ∈ zB := (zi2 _ (List.mem_of_getElem? (i := 122) rfl) rfl)
theorem ml_Share_56 : Cond.methodLink zR10 56 ⟨zR10, "nextBits", "(I)I"⟩ ∈ zB := (zi3 _ (List.mem_of_getElem? (i := 60) rfl) rfl)
theorem ml_Share_60 : Cond.methodLink zR10 60 ⟨zJArr, "fill", "([II)V"⟩ ∈ zB := (zi3 _ (List.mem_of_getElem? (i := 64) rfl) rfl)
theorem ml_Share_66 : Cond.methodLink zR10 66 ⟨zR10, "nextPoints", "(I)I"⟩ ∈ zB := (zi3 _ (List.mem_of_getElem? (i := 67) rfl) rfl)
theorem ml_Share_69 : Cond.methodLink zR10 69 ⟨zR10, "nextNones", "()I"⟩ ∈ zB := (zi3 _ (List.mem_of_getElem? (i := 71) rfl) rfl)
theorem ml_Share_73 : Cond.methodLink zR10 73 ⟨zJInt, "numberOfLeadingZeros", "(I)I"⟩ ∈ zB := (zi2 _ (List.mem_of_getElem? (i := 134) rfl) rfl)
theorem ml_Share_87 : Cond.methodLink zR10 87 ⟨zR10, "nextPlace", "(II)I"⟩ ∈ zB := (zi2 _ (List.mem_of_getElem? (i := 126) rfl) rfl)
theorem ml_Share_90 : Cond.methodLink zR10 90 ⟨zR10, "number", "()V"⟩ ∈ zB := (zi2 _ (List.mem_of_getElem? (i := 130) rfl) rfl)
theorem ml_Stream_1 : Cond.methodLink zR11 1 objectInit ∈ zB := (zi1 _ (List.mem_of_getElem? (i := 133) rfl) rfl)
theorem ml_Stream_26 : Cond.methodLink zR11 26 ⟨zR8, "at", "(I)I"⟩ ∈ zB := (zi3 _ (List.mem_of_getElem? (i := 79) rfl) rfl)
theorem ml_Stream_30 : Cond.methodLink zR11 30 ⟨zJInt, "numberOfLeadingZeros", "(I)I"⟩ ∈ zB := (zi3 _ (List.mem_of_getElem? (i := 80) rfl) rfl)
theorem ml_Law_9 : Cond.methodLink zJLaw 9 ⟨zR0, "<init>", "()V"⟩ ∈ zB := (zi1 _ (List.mem_of_getElem? (i := 21) rfl) rfl)
theorem ml_Law_12 : Cond.methodLink zJLaw 12 ⟨zR12, "<init>", "()V"⟩ ∈ zB := (zi4 _ (List.mem_of_getElem? (i := 199) rfl) rfl)
theorem ml_Law_15 : Cond.methodLink zJLaw 15 ⟨zR0, "write", "(JI)Z"⟩ ∈ zB := (zi2 _ (List.mem_of_getElem? (i := 234) rfl) rfl)
theorem ml_Law_19 : Cond.methodLink zJLaw 19 ⟨zR12, "write", "(JI)Z"⟩ ∈ zB := (zi5 _ (List.mem_of_getElem? (i := 117) rfl) rfl)
theorem ml_Law_20 : Cond.methodLink zJLaw 20 ⟨zR0, "again", "(II)Z"⟩ ∈ zB := (zi3 _ (List.mem_of_getElem? (i := 6) rfl) rfl)
theorem ml_Law_24 : Cond.methodLink zJLaw 24 ⟨zR12, "again", "(II)Z"⟩ ∈ zB := (zi5 _ (List.mem_of_getElem? (i := 122) rfl) rfl)
theorem ml_Law_25 : Cond.methodLink zJLaw 25 ⟨zR0, "clear", "()V"⟩ ∈ zB := (zi3 _ (List.mem_of_getElem? (i := 15) rfl) rfl)
theorem ml_Law_28 : Cond.methodLink zJLaw 28 ⟨zR12, "clear", "()V"⟩ ∈ zB := (zi5 _ (List.mem_of_getElem? (i := 126) rfl) rfl)
theorem ml_Law_29 : Cond.methodLink zJLaw 29 ⟨zR0, "learn", "()I"⟩ ∈ zB := (zi3 _ (List.mem_of_getElem? (i := 23) rfl) rfl)
theorem ml_Law_33 : Cond.methodLink zJLaw 33 ⟨zR12, "learn", "()I"⟩ ∈ zB := (zi5 _ (List.mem_of_getElem? (i := 134) rfl) rfl)
theorem ml_Law_34 : Cond.methodLink zJLaw 34 ⟨zR0, "forget", "()V"⟩ ∈ zB := (zi3 _ (List.mem_of_getElem? (i := 141) rfl) rfl)
theorem ml_Law_37 : Cond.methodLink zJLaw 37 ⟨zR12, "forget", "()V"⟩ ∈ zB := (zi5 _ (List.mem_of_getElem? (i := 130) rfl) rfl)
theorem ml_Law_38 : Cond.methodLink zJLaw 38 ⟨zR0, "read", "(I)I"⟩ ∈ zB := (zi3 _ (List.mem_of_getElem? (i := 149) rfl) rfl)
theorem ml_Law_42 : Cond.methodLink zJLaw 42 ⟨zR12, "read", "(I)I"⟩ ∈ zB := (zi5 _ (List.mem_of_getElem? (i := 197) rfl) rfl)
theorem ml_Law_43 : Cond.methodLink zJLaw 43 ⟨zR0, "about", "(I)I"⟩ ∈ zB := (zi4 _ (List.mem_of_getElem? (i := 184) rfl) rfl)
theorem ml_Law_46 : Cond.methodLink zJLaw 46 ⟨zR12, "about", "(I)I"⟩ ∈ zB := (zi6 _ (List.mem_of_getElem? (i := 79) rfl) rfl)
theorem ml_Law_47 : Cond.methodLink zJLaw 47 ⟨zR0, "size", "()I"⟩ ∈ zB := (zi4 _ (List.mem_of_getElem? (i := 188) rfl) rfl)
theorem ml_Law_50 : Cond.methodLink zJLaw 50 ⟨zR12, "size", "()I"⟩ ∈ zB := (zi6 _ (List.mem_of_getElem? (i := 83) rfl) rfl)
theorem ml_Law_51 : Cond.methodLink zJLaw 51 ⟨zR0, "byteAt", "(I)I"⟩ ∈ zB := (zi4 _ (List.mem_of_getElem? (i := 192) rfl) rfl)
theorem ml_Law_54 : Cond.methodLink zJLaw 54 ⟨zR12, "byteAt", "(I)I"⟩ ∈ zB := (zi6 _ (List.mem_of_getElem? (i := 87) rfl) rfl)
theorem ml_Mo_1 : Cond.methodLink zR12 1 objectInit ∈ zB := (zi4 _ (List.mem_of_getElem? (i := 202) rfl) rfl)
theorem ml_Mo_91 : Cond.methodLink zR12 91 ⟨zR12, "bit", "(I)I"⟩ ∈ zB := (zi5 _ (List.mem_of_getElem? (i := 154) rfl) rfl)
theorem ml_Mo_98 : Cond.methodLink zR12 98 ⟨zR12, "highest", "(I)I"⟩ ∈ zB := (zi5 _ (List.mem_of_getElem? (i := 158) rfl) rfl)
theorem ml_Mo_101 : Cond.methodLink zR12 101 ⟨zR12, "lay", "([IIII[I[I[II)V"⟩ ∈ zB := (zi5 _ (List.mem_of_getElem? (i := 165) rfl) rfl)
theorem ml_Mo_105 : Cond.methodLink zR12 105 ⟨zR12, "layTable", "(I)V"⟩ ∈ zB := (zi5 _ (List.mem_of_getElem? (i := 189) rfl) rfl)
theorem ml_Mo_109 : Cond.methodLink zR12 109 ⟨zR12, "run", "(IIII)I"⟩ ∈ zB := (zi6 _ (List.mem_of_getElem? (i := 22) rfl) rfl)
theorem ml_Mo_124 : Cond.methodLink zR12 124 ⟨zR12, "weightsByStates", "(II)I"⟩ ∈ zB := (zi5 _ (List.mem_of_getElem? (i := 146) rfl) rfl)
theorem ml_Mo_128 : Cond.methodLink zR12 128 ⟨zR12, "isPower", "(I)Z"⟩ ∈ zB := (zi5 _ (List.mem_of_getElem? (i := 174) rfl) rfl)
theorem ml_Mo_132 : Cond.methodLink zR12 132 ⟨zR12, "layCells", "()V"⟩ ∈ zB := (zi5 _ (List.mem_of_getElem? (i := 178) rfl) rfl)
theorem ml_Mo_135 : Cond.methodLink zR12 135 ⟨zR12, "share", "(IIII)I"⟩ ∈ zB := (zi5 _ (List.mem_of_getElem? (i := 150) rfl) rfl)
theorem ml_Mo_138 : Cond.methodLink zR12 138 ⟨zR12, "open", "(II)Z"⟩ ∈ zB := (zi5 _ (List.mem_of_getElem? (i := 161) rfl) rfl)
theorem ml_Mo_142 : Cond.methodLink zR12 142 ⟨zR12, "take", "(I)J"⟩ ∈ zB := (zi5 _ (List.mem_of_getElem? (i := 169) rfl) rfl)
theorem ml_Mo_159 : Cond.methodLink zR12 159 ⟨zR12, "stands", "(IIIII)Z"⟩ ∈ zB := (zi5 _ (List.mem_of_getElem? (i := 138) rfl) rfl)
theorem ml_Mo_163 : Cond.methodLink zR12 163 ⟨zR12, "describe", "(II)I"⟩ ∈ zB := (zi5 _ (List.mem_of_getElem? (i := 142) rfl) rfl)
theorem ml_Mo_166 : Cond.methodLink zR12 166 ⟨zR12, "lastOf", "(I)I"⟩ ∈ zB := (zi5 _ (List.mem_of_getElem? (i := 182) rfl) rfl)
theorem ml_Mo_169 : Cond.methodLink zR12 169 ⟨zR12, "keepDraft", "(I)V"⟩ ∈ zB := (zi5 _ (List.mem_of_getElem? (i := 185) rfl) rfl)
theorem ml_Mo_172 : Cond.methodLink zR12 172 ⟨zR12, "number", "(II)J"⟩ ∈ zB := (zi5 _ (List.mem_of_getElem? (i := 193) rfl) rfl)
theorem ml_Mo_178 : Cond.methodLink zR12 178 ⟨zR12, "byteOf", "(I)J"⟩ ∈ zB := (zi6 _ (List.mem_of_getElem? (i := 72) rfl) rfl)
theorem ml_Mo_191 : Cond.methodLink zR12 191 ⟨zR12, "numberOf", "(II)J"⟩ ∈ zB := (zi6 _ (List.mem_of_getElem? (i := 68) rfl) rfl)
theorem ml_Mo_194 : Cond.methodLink zR12 194 ⟨zR12, "rotated", "(JI)J"⟩ ∈ zB := (zi6 _ (List.mem_of_getElem? (i := 76) rfl) rfl)
theorem ml_Mo_207 : Cond.methodLink zR12 207 ⟨zR12, "wrong", "(II)Z"⟩ ∈ zB := (zi5 _ (List.mem_of_getElem? (i := 209) rfl) rfl)
theorem ml_Mo_228 : Cond.methodLink zR12 228 ⟨zR12, "unit", "()Z"⟩ ∈ zB := (zi5 _ (List.mem_of_getElem? (i := 201) rfl) rfl)
theorem ml_Mo_235 : Cond.methodLink zR12 235 ⟨zR12, "has", "(I)Z"⟩ ∈ zB := (zi5 _ (List.mem_of_getElem? (i := 205) rfl) rfl)
theorem ml_Mo_238 : Cond.methodLink zR12 238 ⟨zR12, "frame", "()Z"⟩ ∈ zB := (zi5 _ (List.mem_of_getElem? (i := 213) rfl) rfl)
theorem ml_Mo_245 : Cond.methodLink zR12 245 ⟨zR12, "tell", "()V"⟩ ∈ zB := (zi5 _ (List.mem_of_getElem? (i := 217) rfl) rfl)
theorem ml_Mo_255 : Cond.methodLink zR12 255 ⟨zR12, "beginFrame", "()V"⟩ ∈ zB := (zi5 _ (List.mem_of_getElem? (i := 225) rfl) rfl)
theorem ml_Mo_261 : Cond.methodLink zR12 261 ⟨zR12, "block", "()Z"⟩ ∈ zB := (zi5 _ (List.mem_of_getElem? (i := 230) rfl) rfl)
theorem ml_Mo_264 : Cond.methodLink zR12 264 ⟨zR12, "sum", "(II)J"⟩ ∈ zB := (zi6 _ (List.mem_of_getElem? (i := 59) rfl) rfl)
theorem ml_Mo_270 : Cond.methodLink zR12 270 ⟨zR12, "packed", "(I)Z"⟩ ∈ zB := (zi5 _ (List.mem_of_getElem? (i := 234) rfl) rfl)
theorem ml_Mo_273 : Cond.methodLink zR12 273 ⟨zR12, "readLiterals", "(I)Z"⟩ ∈ zB := (zi5 _ (List.mem_of_getElem? (i := 238) rfl) rfl)
theorem ml_Mo_279 : Cond.methodLink zR12 279 ⟨zR12, "sequences", "(II)Z"⟩ ∈ zB := (zi6 _ (List.mem_of_getElem? (i := 10) rfl) rfl)
theorem ml_Mo_282 : Cond.methodLink zR12 282 ⟨zR12, "rest", "()V"⟩ ∈ zB := (zi6 _ (List.mem_of_getElem? (i := 55) rfl) rfl)
theorem ml_Mo_285 : Cond.methodLink zR12 285 ⟨zR12, "decode", "(III)Z"⟩ ∈ zB := (zi6 _ (List.mem_of_getElem? (i := 2) rfl) rfl)
theorem ml_Mo_289 : Cond.methodLink zR12 289 ⟨zR12, "fourStreams", "(III)Z"⟩ ∈ zB := (zi6 _ (List.mem_of_getElem? (i := 6) rfl) rfl)
theorem ml_Mo_292 : Cond.methodLink zR12 292 ⟨zR12, "know", "(I)V"⟩ ∈ zB := (zi6 _ (List.mem_of_getElem? (i := 18) rfl) rfl)
theorem ml_Mo_295 : Cond.methodLink zR12 295 ⟨zR12, "tables", "(I)Z"⟩ ∈ zB := (zi6 _ (List.mem_of_getElem? (i := 14) rfl) rfl)
theorem ml_Mo_307 : Cond.methodLink zR12 307 ⟨zR12, "matchBits", "(I)I"⟩ ∈ zB := (zi6 _ (List.mem_of_getElem? (i := 26) rfl) rfl)
theorem ml_Mo_310 : Cond.methodLink zR12 310 ⟨zR12, "literalBits", "(I)I"⟩ ∈ zB := (zi6 _ (List.mem_of_getElem? (i := 29) rfl) rfl)
theorem ml_Mo_313 : Cond.methodLink zR12 313 ⟨zR12, "matchBase", "(I)I"⟩ ∈ zB := (zi6 _ (List.mem_of_getElem? (i := 32) rfl) rfl)
theorem ml_Mo_316 : Cond.methodLink zR12 316 ⟨zR12, "literalBase", "(I)I"⟩ ∈ zB := (zi6 _ (List.mem_of_getElem? (i := 35) rfl) rfl)
theorem ml_Mo_319 : Cond.methodLink zR12 319 ⟨zR12, "distanceOf", "(JI)J"⟩ ∈ zB := (zi6 _ (List.mem_of_getElem? (i := 38) rfl) rfl)
theorem ml_Mo_322 : Cond.methodLink zR12 322 ⟨zR12, "isTooFar", "(JJ)Z"⟩ ∈ zB := (zi6 _ (List.mem_of_getElem? (i := 43) rfl) rfl)
theorem ml_Mo_326 : Cond.methodLink zR12 326 ⟨zR12, "copy", "(III)V"⟩ ∈ zB := (zi6 _ (List.mem_of_getElem? (i := 51) rfl) rfl)
theorem ml_Mo_332 : Cond.methodLink zR12 332 ⟨zR12, "isAbove", "(J)Z"⟩ ∈ zB := (zi6 _ (List.mem_of_getElem? (i := 47) rfl) rfl)
theorem ml_JArr_13 : Cond.methodLink zJArr 13 ⟨zJArr, "rangeCheck", "(III)V"⟩ ∈ zB := (zi3 _ (List.mem_of_getElem? (i := 113) rfl) rfl)
theorem cl_SF_7 : Cond.classLink zR0 7 zR8 ∈ zB := (zi1 _ (List.mem_of_getElem? (i := 27) rfl) rfl)
theorem cl_SF_22 : Cond.classLink zR0 22 zR3 ∈ zB := (zi1 _ (List.mem_of_getElem? (i := 50) rfl) rfl)
theorem cl_SF_29 : Cond.classLink zR0 29 zR7 ∈ zB := (zi1 _ (List.mem_of_getElem? (i := 209) rfl) rfl)
theorem cl_SF_36 : Cond.classLink zR0 36 zR2 ∈ zB := (zi2 _ (List.mem_of_getElem? (i := 5) rfl) rfl)
theorem cl_SF_47 : Cond.classLink zR0 47 zR4 ∈ zB := (zi2 _ (List.mem_of_getElem? (i := 37) rfl) rfl)
theorem cl_Codes_21 : Cond.classLink zR1 21 zR10 ∈ zB := (zi1 _ (List.mem_of_getElem? (i := 85) rfl) rfl)
theorem cl_Codes_30 : Cond.classLink zR1 30 zR11 ∈ zB := (zi1 _ (List.mem_of_getElem? (i := 128) rfl) rfl)
theorem cl_Content_9 : Cond.classLink zR2 9 zR8 ∈ zB := (zi2 _ (List.mem_of_getElem? (i := 11) rfl) rfl)
theorem cl_Dict_9 : Cond.classLink zR3 9 zR8 ∈ zB := (zi1 _ (List.mem_of_getElem? (i := 56) rfl) rfl)
theorem cl_Dict_20 : Cond.classLink zR3 20 zR5 ∈ zB := (zi1 _ (List.mem_of_getElem? (i := 58) rfl) rfl)
theorem cl_Dict_35 : Cond.classLink zR3 35 zR1 ∈ zB := (zi1 _ (List.mem_of_getElem? (i := 79) rfl) rfl)
theorem cl_Dict_45 : Cond.classLink zR3 45 zR10 ∈ zB := (zi1 _ (List.mem_of_getElem? (i := 169) rfl) rfl)
theorem cl_FR_27 : Cond.classLink zR4 27 zR6 ∈ zB := (zi2 _ (List.mem_of_getElem? (i := 43) rfl) rfl)
theorem cl_FR_36 : Cond.classLink zR4 36 zR9 ∈ zB := (zi2 _ (List.mem_of_getElem? (i := 97) rfl) rfl)
theorem cl_Lit_19 : Cond.classLink zR6 19 zR11 ∈ zB := (zi2 _ (List.mem_of_getElem? (i := 49) rfl) rfl)
theorem cl_Lit_26 : Cond.classLink zR6 26 zR1 ∈ zB := (zi2 _ (List.mem_of_getElem? (i := 51) rfl) rfl)
theorem cl_Lit_33 : Cond.classLink zR6 33 zR8 ∈ zB := (zi2 _ (List.mem_of_getElem? (i := 53) rfl) rfl)
theorem cl_Seq_27 : Cond.classLink zR9 27 zR11 ∈ zB := (zi2 _ (List.mem_of_getElem? (i := 103) rfl) rfl)
theorem cl_Seq_34 : Cond.classLink zR9 34 zR5 ∈ zB := (zi2 _ (List.mem_of_getElem? (i := 105) rfl) rfl)
theorem cl_Seq_41 : Cond.classLink zR9 41 zR10 ∈ zB := (zi2 _ (List.mem_of_getElem? (i := 107) rfl) rfl)
theorem cl_Law_7 : Cond.classLink zJLaw 7 zR0 ∈ zB := (zi1 _ (List.mem_of_getElem? (i := 19) rfl) rfl)
theorem cl_Law_10 : Cond.classLink zJLaw 10 zR12 ∈ zB := (zi4 _ (List.mem_of_getElem? (i := 197) rfl) rfl)
theorem ki_SF_18 : Cond.constant zR0 18 (32768 : Int32) ∈ zB := (zi1 _ (List.mem_of_getElem? (i := 49) rfl) rfl)
theorem ki_Content_11 : Cond.constant zR2 11 (32768 : Int32) ∈ zB := (zi2 _ (List.mem_of_getElem? (i := 12) rfl) rfl)
theorem ki_Content_46 : Cond.constant zR2 46 (131072 : Int32) ∈ zB := (zi3 _ (List.mem_of_getElem? (i := 193) rfl) rfl)
theorem ki_FR_147 : Cond.constant zR4 147 (2147483647 : Int32) ∈ zB := (zi4 _ (List.mem_of_getElem? (i := 152) rfl) rfl)
theorem ki_Lit_35 : Cond.constant zR6 35 (32768 : Int32) ∈ zB := (zi2 _ (List.mem_of_getElem? (i := 54) rfl) rfl)
theorem ki_Mo_13 : Cond.constant zR12 13 (32768 : Int32) ∈ zB := (zi4 _ (List.mem_of_getElem? (i := 203) rfl) rfl)
theorem ki_Mo_78 : Cond.constant zR12 78 (131072 : Int32) ∈ zB := (zi4 _ (List.mem_of_getElem? (i := 204) rfl) rfl)
theorem ki_Mo_269 : Cond.constant zR12 269 (2147483647 : Int32) ∈ zB := (zi5 _ (List.mem_of_getElem? (i := 222) rfl) rfl)
theorem ki_JInt_264 : Cond.constant zJInt 264 (65536 : Int32) ∈ zB := (zi2 _ (List.mem_of_getElem? (i := 137) rfl) rfl)
theorem kl_Content_44 : Cond.constantLong zR2 44 (131072 : Int64) ∈ zB := (zi3 _ (List.mem_of_getElem? (i := 192) rfl) rfl)
theorem kl_Content_68 : Cond.constantLong zR2 68 (2870177450012600261 : Int64) ∈ zB := (zi4 _ (List.mem_of_getElem? (i := 113) rfl) rfl)
theorem kl_Content_88 : Cond.constantLong zR2 88 (-7046029288634856825 : Int64) ∈ zB := (zi4 _ (List.mem_of_getElem? (i := 128) rfl) rfl)
theorem kl_Content_90 : Cond.constantLong zR2 90 (-8796714831421723037 : Int64) ∈ zB := (zi4 _ (List.mem_of_getElem? (i := 129) rfl) rfl)
theorem kl_Content_92 : Cond.constantLong zR2 92 (-4417276706812531889 : Int64) ∈ zB := (zi4 _ (List.mem_of_getElem? (i := 119) rfl) rfl)
theorem kl_Content_94 : Cond.constantLong zR2 94 (1609587929392839161 : Int64) ∈ zB := (zi4 _ (List.mem_of_getElem? (i := 130) rfl) rfl)
theorem kl_Content_100 : Cond.constantLong zR2 100 (6983438078262162902 : Int64) ∈ zB := (zi4 _ (List.mem_of_getElem? (i := 118) rfl) rfl)
theorem kl_Content_102 : Cond.constantLong zR2 102 (7046029288634856825 : Int64) ∈ zB := (zi4 _ (List.mem_of_getElem? (i := 120) rfl) rfl)
theorem kl_Dict_75 : Cond.constantLong zR3 75 (3962610743 : Int64) ∈ zB := (zi3 _ (List.mem_of_getElem? (i := 35) rfl) rfl)
theorem kl_FR_84 : Cond.constantLong zR4 84 (4 : Int64) ∈ zB := (zi4 _ (List.mem_of_getElem? (i := 108) rfl) rfl)
theorem kl_FR_98 : Cond.constantLong zR4 98 (4247762216 : Int64) ∈ zB := (zi4 _ (List.mem_of_getElem? (i := 138) rfl) rfl)
theorem kl_FR_103 : Cond.constantLong zR4 103 (4294967280 : Int64) ∈ zB := (zi4 _ (List.mem_of_getElem? (i := 177) rfl) rfl)
theorem kl_FR_105 : Cond.constantLong zR4 105 (407710288 : Int64) ∈ zB := (zi4 _ (List.mem_of_getElem? (i := 178) rfl) rfl)
theorem kl_FR_145 : Cond.constantLong zR4 145 (2147483647 : Int64) ∈ zB := (zi4 _ (List.mem_of_getElem? (i := 151) rfl) rfl)
theorem kl_FR_155 : Cond.constantLong zR4 155 (9223372036854775807 : Int64) ∈ zB := (zi4 _ (List.mem_of_getElem? (i := 161) rfl) rfl)
theorem kl_FR_157 : Cond.constantLong zR4 157 (3 : Int64) ∈ zB := (zi3 _ (List.mem_of_getElem? (i := 174) rfl) rfl)
theorem kl_FR_201 : Cond.constantLong zR4 201 (4294967295 : Int64) ∈ zB := (zi4 _ (List.mem_of_getElem? (i := 132) rfl) rfl)
theorem kl_Latest_13 : Cond.constantLong zR5 13 (4 : Int64) ∈ zB := (zi1 _ (List.mem_of_getElem? (i := 64) rfl) rfl)
theorem kl_Latest_18 : Cond.constantLong zR5 18 (8 : Int64) ∈ zB := (zi1 _ (List.mem_of_getElem? (i := 65) rfl) rfl)
theorem kl_Latest_23 : Cond.constantLong zR5 23 (3 : Int64) ∈ zB := (zi4 _ (List.mem_of_getElem? (i := 83) rfl) rfl)
theorem kl_Latest_29 : Cond.constantLong zR5 29 (2 : Int64) ∈ zB := (zi4 _ (List.mem_of_getElem? (i := 88) rfl) rfl)
theorem kl_Seq_110 : Cond.constantLong zR9 110 (4 : Int64) ∈ zB := (zi4 _ (List.mem_of_getElem? (i := 175) rfl) rfl)
theorem kl_Seq_112 : Cond.constantLong zR9 112 (8 : Int64) ∈ zB := (zi4 _ (List.mem_of_getElem? (i := 176) rfl) rfl)
theorem kl_Law_13 : Cond.constantLong zJLaw 13 (4294967295 : Int64) ∈ zB := (zi6 _ (List.mem_of_getElem? (i := 91) rfl) rfl)
theorem kl_Mo_89 : Cond.constantLong zR12 89 (255 : Int64) ∈ zB := (zi5 _ (List.mem_of_getElem? (i := 121) rfl) rfl)
theorem kl_Mo_119 : Cond.constantLong zR12 119 (2 : Int64) ∈ zB := (zi5 _ (List.mem_of_getElem? (i := 173) rfl) rfl)
theorem kl_Mo_176 : Cond.constantLong zR12 176 (4 : Int64) ∈ zB := (zi5 _ (List.mem_of_getElem? (i := 229) rfl) rfl)
theorem kl_Mo_181 : Cond.constantLong zR12 181 (-7046029288634856825 : Int64) ∈ zB := (zi6 _ (List.mem_of_getElem? (i := 63) rfl) rfl)
theorem kl_Mo_183 : Cond.constantLong zR12 183 (-4417276706812531889 : Int64) ∈ zB := (zi6 _ (List.mem_of_getElem? (i := 64) rfl) rfl)
theorem kl_Mo_185 : Cond.constantLong zR12 185 (1609587929392839161 : Int64) ∈ zB := (zi6 _ (List.mem_of_getElem? (i := 65) rfl) rfl)
theorem kl_Mo_187 : Cond.constantLong zR12 187 (-8796714831421723037 : Int64) ∈ zB := (zi6 _ (List.mem_of_getElem? (i := 66) rfl) rfl)
theorem kl_Mo_189 : Cond.constantLong zR12 189 (2870177450012600261 : Int64) ∈ zB := (zi6 _ (List.mem_of_getElem? (i := 67) rfl) rfl)
theorem kl_Mo_248 : Cond.constantLong zR12 248 (256 : Int64) ∈ zB := (zi5 _ (List.mem_of_getElem? (i := 223) rfl) rfl)
theorem kl_Mo_250 : Cond.constantLong zR12 250 (131072 : Int64) ∈ zB := (zi5 _ (List.mem_of_getElem? (i := 224) rfl) rfl)
theorem kl_Mo_267 : Cond.constantLong zR12 267 (2147483647 : Int64) ∈ zB := (zi5 _ (List.mem_of_getElem? (i := 221) rfl) rfl)
theorem kl_Mo_330 : Cond.constantLong zR12 330 (3 : Int64) ∈ zB := (zi6 _ (List.mem_of_getElem? (i := 42) rfl) rfl)
