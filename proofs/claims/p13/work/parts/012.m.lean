theorem tw_1 {w : Cond} (j : Nat) (h : tables_1_1[j]? = some w) (g : goodWord w = true) : w ∈ GW := List.mem_filter.mpr ⟨List.mem_append_right _ (tin_1 (List.mem_of_getElem? h)), g⟩
theorem tn_1 {w : Cond} (j : Nat) (h : tables_1_1[j]? = some w) (g : isNest w = true) : w ∈ NW := List.mem_filter.mpr ⟨List.mem_append_right _ (tin_1 (List.mem_of_getElem? h)), g⟩
theorem tw_2 {w : Cond} (j : Nat) (h : tables_1_2[j]? = some w) (g : goodWord w = true) : w ∈ GW := List.mem_filter.mpr ⟨List.mem_append_right _ (tin_2 (List.mem_of_getElem? h)), g⟩
theorem tn_2 {w : Cond} (j : Nat) (h : tables_1_2[j]? = some w) (g : isNest w = true) : w ∈ NW := List.mem_filter.mpr ⟨List.mem_append_right _ (tin_2 (List.mem_of_getElem? h)), g⟩
theorem tw_3 {w : Cond} (j : Nat) (h : tables_1_3[j]? = some w) (g : goodWord w = true) : w ∈ GW := List.mem_filter.mpr ⟨List.mem_append_right _ (tin_3 (List.mem_of_getElem? h)), g⟩
theorem tn_3 {w : Cond} (j : Nat) (h : tables_1_3[j]? = some w) (g : isNest w = true) : w ∈ NW := List.mem_filter.mpr ⟨List.mem_append_right _ (tin_3 (List.mem_of_getElem? h)), g⟩
theorem tw_4 {w : Cond} (j : Nat) (h : tables_1_4[j]? = some w) (g : goodWord w = true) : w ∈ GW := List.mem_filter.mpr ⟨List.mem_append_right _ (tin_4 (List.mem_of_getElem? h)), g⟩
theorem tn_4 {w : Cond} (j : Nat) (h : tables_1_4[j]? = some w) (g : isNest w = true) : w ∈ NW := List.mem_filter.mpr ⟨List.mem_append_right _ (tin_4 (List.mem_of_getElem? h)), g⟩
theorem tw_5 {w : Cond} (j : Nat) (h : tables_1_5[j]? = some w) (g : goodWord w = true) : w ∈ GW := List.mem_filter.mpr ⟨List.mem_append_right _ (tin_5 (List.mem_of_getElem? h)), g⟩
theorem tn_5 {w : Cond} (j : Nat) (h : tables_1_5[j]? = some w) (g : isNest w = true) : w ∈ NW := List.mem_filter.mpr ⟨List.mem_append_right _ (tin_5 (List.mem_of_getElem? h)), g⟩
theorem tw_6 {w : Cond} (j : Nat) (h : tables_1_6[j]? = some w) (g : goodWord w = true) : w ∈ GW := List.mem_filter.mpr ⟨List.mem_append_right _ (tin_6 (List.mem_of_getElem? h)), g⟩
theorem tn_6 {w : Cond} (j : Nat) (h : tables_1_6[j]? = some w) (g : isNest w = true) : w ∈ NW := List.mem_filter.mpr ⟨List.mem_append_right _ (tin_6 (List.mem_of_getElem? h)), g⟩
theorem tw_7 {w : Cond} (j : Nat) (h : tables_1_7[j]? = some w) (g : goodWord w = true) : w ∈ GW := List.mem_filter.mpr ⟨List.mem_append_right _ (tin_7 (List.mem_of_getElem? h)), g⟩
theorem tn_7 {w : Cond} (j : Nat) (h : tables_1_7[j]? = some w) (g : isNest w = true) : w ∈ NW := List.mem_filter.mpr ⟨List.mem_append_right _ (tin_7 (List.mem_of_getElem? h)), g⟩
theorem tw_8 {w : Cond} (j : Nat) (h : tables_1_8[j]? = some w) (g : goodWord w = true) : w ∈ GW := List.mem_filter.mpr ⟨List.mem_append_right _ (tin_8 (List.mem_of_getElem? h)), g⟩
theorem tn_8 {w : Cond} (j : Nat) (h : tables_1_8[j]? = some w) (g : isNest w = true) : w ∈ NW := List.mem_filter.mpr ⟨List.mem_append_right _ (tin_8 (List.mem_of_getElem? h)), g⟩
theorem tw_9 {w : Cond} (j : Nat) (h : tables_1_9[j]? = some w) (g : goodWord w = true) : w ∈ GW := List.mem_filter.mpr ⟨List.mem_append_right _ (tin_9 (List.mem_of_getElem? h)), g⟩
theorem tn_9 {w : Cond} (j : Nat) (h : tables_1_9[j]? = some w) (g : isNest w = true) : w ∈ NW := List.mem_filter.mpr ⟨List.mem_append_right _ (tin_9 (List.mem_of_getElem? h)), g⟩
theorem tw_10 {w : Cond} (j : Nat) (h : tables_1_10[j]? = some w) (g : goodWord w = true) : w ∈ GW := List.mem_filter.mpr ⟨List.mem_append_right _ (tin_10 (List.mem_of_getElem? h)), g⟩
theorem tn_10 {w : Cond} (j : Nat) (h : tables_1_10[j]? = some w) (g : isNest w = true) : w ∈ NW := List.mem_filter.mpr ⟨List.mem_append_right _ (tin_10 (List.mem_of_getElem? h)), g⟩
theorem tw_11 {w : Cond} (j : Nat) (h : tables_1_11[j]? = some w) (g : goodWord w = true) : w ∈ GW := List.mem_filter.mpr ⟨List.mem_append_right _ (tin_11 (List.mem_of_getElem? h)), g⟩
theorem tn_11 {w : Cond} (j : Nat) (h : tables_1_11[j]? = some w) (g : isNest w = true) : w ∈ NW := List.mem_filter.mpr ⟨List.mem_append_right _ (tin_11 (List.mem_of_getElem? h)), g⟩
theorem tw_12 {w : Cond} (j : Nat) (h : tables_1_12[j]? = some w) (g : goodWord w = true) : w ∈ GW := List.mem_filter.mpr ⟨List.mem_append_right _ (tin_12 (List.mem_of_getElem? h)), g⟩
theorem tn_12 {w : Cond} (j : Nat) (h : tables_1_12[j]? = some w) (g : isNest w = true) : w ∈ NW := List.mem_filter.mpr ⟨List.mem_append_right _ (tin_12 (List.mem_of_getElem? h)), g⟩
theorem sel_in {q : MethodName × Nat} (h : q ∈ lw_privs) (g : goodWord (Cond.selects q.1.cls q.1 q.1) = true) : Cond.selects q.1.cls q.1 q.1 ∈ GW := List.mem_filter.mpr ⟨List.mem_append_left _ (List.mem_map.mpr ⟨q, h, rfl⟩), g⟩
theorem ms_X12_takeBytes : Cond.selects "LinkedUnits" y_X12_takeBytes y_X12_takeBytes ∈ GW := sel_in (q := (y_X12_takeBytes, 15)) (List.mem_append_left _ (List.mem_append_left _ (List.mem_append_left _ (List.mem_append_left _ (List.mem_append_left _ (List.mem_append_left _ (List.mem_append_left _ (List.mem_of_getElem? (i := 0) rfl)))))))) rfl
theorem ms_X0_aim : Cond.selects "LinkedUnits$Code" y_X0_aim y_X0_aim ∈ GW := sel_in (q := (y_X0_aim, 2)) (List.mem_append_left _ (List.mem_append_left _ (List.mem_append_left _ (List.mem_append_left _ (List.mem_append_left _ (List.mem_append_left _ (List.mem_append_left _ (List.mem_of_getElem? (i := 1) rfl)))))))) rfl
theorem ms_X0_cut : Cond.selects "LinkedUnits$Code" y_X0_cut y_X0_cut ∈ GW := sel_in (q := (y_X0_cut, 2)) (List.mem_append_left _ (List.mem_append_left _ (List.mem_append_left _ (List.mem_append_left _ (List.mem_append_left _ (List.mem_append_left _ (List.mem_append_left _ (List.mem_of_getElem? (i := 2) rfl)))))))) rfl
theorem ms_X0_emit : Cond.selects "LinkedUnits$Code" y_X0_emit y_X0_emit ∈ GW := sel_in (q := (y_X0_emit, 2)) (List.mem_append_left _ (List.mem_append_left _ (List.mem_append_left _ (List.mem_append_left _ (List.mem_append_left _ (List.mem_append_left _ (List.mem_append_left _ (List.mem_of_getElem? (i := 3) rfl)))))))) rfl
theorem ms_X0_header : Cond.selects "LinkedUnits$Code" y_X0_header y_X0_header ∈ GW := sel_in (q := (y_X0_header, 2)) (List.mem_append_left _ (List.mem_append_left _ (List.mem_append_left _ (List.mem_append_left _ (List.mem_append_left _ (List.mem_append_left _ (List.mem_append_left _ (List.mem_of_getElem? (i := 4) rfl)))))))) rfl
theorem ms_X0_settle : Cond.selects "LinkedUnits$Code" y_X0_settle y_X0_settle ∈ GW := sel_in (q := (y_X0_settle, 2)) (List.mem_append_left _ (List.mem_append_left _ (List.mem_append_left _ (List.mem_append_left _ (List.mem_append_left _ (List.mem_append_left _ (List.mem_append_left _ (List.mem_of_getElem? (i := 5) rfl)))))))) rfl
theorem ms_X0_thread : Cond.selects "LinkedUnits$Code" y_X0_thread y_X0_thread ∈ GW := sel_in (q := (y_X0_thread, 2)) (List.mem_append_left _ (List.mem_append_left _ (List.mem_append_left _ (List.mem_append_left _ (List.mem_append_left _ (List.mem_append_left _ (List.mem_append_left _ (List.mem_of_getElem? (i := 6) rfl)))))))) rfl
theorem ms_X1_begin : Cond.selects "LinkedUnits$Declarations" y_X1_begin y_X1_begin ∈ GW := sel_in (q := (y_X1_begin, 18)) (List.mem_append_left _ (List.mem_append_left _ (List.mem_append_left _ (List.mem_append_left _ (List.mem_append_left _ (List.mem_append_left _ (List.mem_append_left _ (List.mem_of_getElem? (i := 7) rfl)))))))) rfl
theorem ms_X1_checkOuter : Cond.selects "LinkedUnits$Declarations" y_X1_checkOuter y_X1_checkOuter ∈ GW := sel_in (q := (y_X1_checkOuter, 18)) (List.mem_append_left _ (List.mem_append_left _ (List.mem_append_left _ (List.mem_append_left _ (List.mem_append_left _ (List.mem_append_left _ (List.mem_append_left _ (List.mem_of_getElem? (i := 8) rfl)))))))) rfl
theorem ms_X1_checkSquare : Cond.selects "LinkedUnits$Declarations" y_X1_checkSquare y_X1_checkSquare ∈ GW := sel_in (q := (y_X1_checkSquare, 18)) (List.mem_append_left _ (List.mem_append_left _ (List.mem_append_left _ (List.mem_append_left _ (List.mem_append_left _ (List.mem_append_left _ (List.mem_append_left _ (List.mem_of_getElem? (i := 9) rfl)))))))) rfl
theorem ms_X1_fill : Cond.selects "LinkedUnits$Declarations" y_X1_fill y_X1_fill ∈ GW := sel_in (q := (y_X1_fill, 18)) (List.mem_append_left _ (List.mem_append_left _ (List.mem_append_left _ (List.mem_append_left _ (List.mem_append_left _ (List.mem_append_left _ (List.mem_append_left _ (List.mem_of_getElem? (i := 10) rfl)))))))) rfl
theorem ms_X1_function : Cond.selects "LinkedUnits$Declarations" y_X1_function y_X1_function ∈ GW := sel_in (q := (y_X1_function, 18)) (List.mem_append_left _ (List.mem_append_left _ (List.mem_append_left _ (List.mem_append_left _ (List.mem_append_left _ (List.mem_append_left _ (List.mem_append_left _ (List.mem_of_getElem? (i := 11) rfl)))))))) rfl
theorem ms_X1_functionEnd : Cond.selects "LinkedUnits$Declarations" y_X1_functionEnd y_X1_functionEnd ∈ GW := sel_in (q := (y_X1_functionEnd, 18)) (List.mem_append_left _ (List.mem_append_left _ (List.mem_append_left _ (List.mem_append_left _ (List.mem_append_left _ (List.mem_append_left _ (List.mem_append_left _ (List.mem_of_getElem? (i := 12) rfl)))))))) rfl
theorem ms_X1_initial : Cond.selects "LinkedUnits$Declarations" y_X1_initial y_X1_initial ∈ GW := sel_in (q := (y_X1_initial, 18)) (List.mem_append_left _ (List.mem_append_left _ (List.mem_append_left _ (List.mem_append_left _ (List.mem_append_left _ (List.mem_append_left _ (List.mem_append_left _ (List.mem_of_getElem? (i := 13) rfl)))))))) rfl
theorem ms_X1_item : Cond.selects "LinkedUnits$Declarations" y_X1_item y_X1_item ∈ GW := sel_in (q := (y_X1_item, 18)) (List.mem_append_left _ (List.mem_append_left _ (List.mem_append_left _ (List.mem_append_left _ (List.mem_append_left _ (List.mem_append_left _ (List.mem_append_left _ (List.mem_of_getElem? (i := 14) rfl)))))))) rfl
theorem ms_X1_joins : Cond.selects "LinkedUnits$Declarations" y_X1_joins y_X1_joins ∈ GW := sel_in (q := (y_X1_joins, 18)) (List.mem_append_left _ (List.mem_append_left _ (List.mem_append_left _ (List.mem_append_left _ (List.mem_append_left _ (List.mem_append_left _ (List.mem_append_left _ (List.mem_of_getElem? (i := 15) rfl)))))))) rfl
theorem ms_X1_local : Cond.selects "LinkedUnits$Declarations" y_X1_local y_X1_local ∈ GW := sel_in (q := (y_X1_local, 18)) (List.mem_append_left _ (List.mem_append_left _ (List.mem_append_left _ (List.mem_append_left _ (List.mem_append_left _ (List.mem_append_left _ (List.mem_append_left _ (List.mem_of_getElem? (i := 16) rfl)))))))) rfl
theorem ms_X1_outer : Cond.selects "LinkedUnits$Declarations" y_X1_outer y_X1_outer ∈ GW := sel_in (q := (y_X1_outer, 18)) (List.mem_append_left _ (List.mem_append_left _ (List.mem_append_left _ (List.mem_append_left _ (List.mem_append_left _ (List.mem_append_left _ (List.mem_append_left _ (List.mem_of_getElem? (i := 17) rfl)))))))) rfl
theorem ms_X1_parameter : Cond.selects "LinkedUnits$Declarations" y_X1_parameter y_X1_parameter ∈ GW := sel_in (q := (y_X1_parameter, 18)) (List.mem_append_left _ (List.mem_append_left _ (List.mem_append_left _ (List.mem_append_left _ (List.mem_append_left _ (List.mem_append_left _ (List.mem_append_left _ (List.mem_of_getElem? (i := 18) rfl)))))))) rfl
theorem ms_X1_putInitial : Cond.selects "LinkedUnits$Declarations" y_X1_putInitial y_X1_putInitial ∈ GW := sel_in (q := (y_X1_putInitial, 18)) (List.mem_append_left _ (List.mem_append_left _ (List.mem_append_left _ (List.mem_append_left _ (List.mem_append_left _ (List.mem_append_left _ (List.mem_append_left _ (List.mem_of_getElem? (i := 19) rfl)))))))) rfl
theorem ms_X1_storeLocal : Cond.selects "LinkedUnits$Declarations" y_X1_storeLocal y_X1_storeLocal ∈ GW := sel_in (q := (y_X1_storeLocal, 18)) (List.mem_append_left _ (List.mem_append_left _ (List.mem_append_left _ (List.mem_append_left _ (List.mem_append_left _ (List.mem_append_left _ (List.mem_append_left _ (List.mem_of_getElem? (i := 20) rfl)))))))) rfl
theorem ms_X1_suits : Cond.selects "LinkedUnits$Declarations" y_X1_suits y_X1_suits ∈ GW := sel_in (q := (y_X1_suits, 18)) (List.mem_append_left _ (List.mem_append_left _ (List.mem_append_left _ (List.mem_append_left _ (List.mem_append_left _ (List.mem_append_left _ (List.mem_append_left _ (List.mem_of_getElem? (i := 21) rfl)))))))) rfl
theorem ms_X1_take : Cond.selects "LinkedUnits$Declarations" y_X1_take y_X1_take ∈ GW := sel_in (q := (y_X1_take, 18)) (List.mem_append_left _ (List.mem_append_left _ (List.mem_append_left _ (List.mem_append_left _ (List.mem_append_left _ (List.mem_append_left _ (List.mem_append_left _ (List.mem_of_getElem? (i := 22) rfl)))))))) rfl
theorem ms_X1_variable : Cond.selects "LinkedUnits$Declarations" y_X1_variable y_X1_variable ∈ GW := sel_in (q := (y_X1_variable, 18)) (List.mem_append_left _ (List.mem_append_left _ (List.mem_append_left _ (List.mem_append_left _ (List.mem_append_left _ (List.mem_append_left _ (List.mem_append_left _ (List.mem_of_getElem? (i := 23) rfl)))))))) rfl
theorem ms_X2_address : Cond.selects "LinkedUnits$Expressions" y_X2_address y_X2_address ∈ GW := sel_in (q := (y_X2_address, 8)) (List.mem_append_left _ (List.mem_append_left _ (List.mem_append_left _ (List.mem_append_left _ (List.mem_append_left _ (List.mem_append_left _ (List.mem_append_left _ (List.mem_of_getElem? (i := 24) rfl)))))))) rfl
theorem ms_X2_argument : Cond.selects "LinkedUnits$Expressions" y_X2_argument y_X2_argument ∈ GW := sel_in (q := (y_X2_argument, 8)) (List.mem_append_left _ (List.mem_append_left _ (List.mem_append_left _ (List.mem_append_left _ (List.mem_append_left _ (List.mem_append_left _ (List.mem_append_left _ (List.mem_of_getElem? (i := 25) rfl)))))))) rfl
theorem ms_X2_assign : Cond.selects "LinkedUnits$Expressions" y_X2_assign y_X2_assign ∈ GW := sel_in (q := (y_X2_assign, 8)) (List.mem_append_left _ (List.mem_append_left _ (List.mem_append_left _ (List.mem_append_left _ (List.mem_append_left _ (List.mem_append_left _ (List.mem_append_left _ (List.mem_of_getElem? (i := 26) rfl)))))))) rfl
theorem ms_X2_binary : Cond.selects "LinkedUnits$Expressions" y_X2_binary y_X2_binary ∈ GW := sel_in (q := (y_X2_binary, 8)) (List.mem_append_left _ (List.mem_append_left _ (List.mem_append_left _ (List.mem_append_left _ (List.mem_append_left _ (List.mem_append_left _ (List.mem_append_left _ (List.mem_of_getElem? (i := 27) rfl)))))))) rfl
theorem ms_X2_call : Cond.selects "LinkedUnits$Expressions" y_X2_call y_X2_call ∈ GW := sel_in (q := (y_X2_call, 8)) (List.mem_append_left _ (List.mem_append_left _ (List.mem_append_left _ (List.mem_append_left _ (List.mem_append_left _ (List.mem_append_left _ (List.mem_append_left _ (List.mem_of_getElem? (i := 28) rfl)))))))) rfl
theorem ms_X2_callee : Cond.selects "LinkedUnits$Expressions" y_X2_callee y_X2_callee ∈ GW := sel_in (q := (y_X2_callee, 8)) (List.mem_append_left _ (List.mem_append_left _ (List.mem_append_left _ (List.mem_append_left _ (List.mem_append_left _ (List.mem_append_left _ (List.mem_append_left _ (List.mem_of_getElem? (i := 29) rfl)))))))) rfl
theorem ms_X2_cast : Cond.selects "LinkedUnits$Expressions" y_X2_cast y_X2_cast ∈ GW := sel_in (q := (y_X2_cast, 8)) (List.mem_append_left _ (List.mem_append_left _ (List.mem_append_left _ (List.mem_append_left _ (List.mem_append_left _ (List.mem_append_left _ (List.mem_append_left _ (List.mem_of_getElem? (i := 30) rfl)))))))) rfl
theorem ms_X2_choice : Cond.selects "LinkedUnits$Expressions" y_X2_choice y_X2_choice ∈ GW := sel_in (q := (y_X2_choice, 8)) (List.mem_append_left _ (List.mem_append_left _ (List.mem_append_left _ (List.mem_append_left _ (List.mem_append_left _ (List.mem_append_left _ (List.mem_append_left _ (List.mem_of_getElem? (i := 31) rfl)))))))) rfl
theorem ms_X2_colon : Cond.selects "LinkedUnits$Expressions" y_X2_colon y_X2_colon ∈ GW := sel_in (q := (y_X2_colon, 8)) (List.mem_append_left _ (List.mem_append_left _ (List.mem_append_left _ (List.mem_append_left _ (List.mem_append_left _ (List.mem_append_left _ (List.mem_append_left _ (List.mem_of_getElem? (i := 32) rfl)))))))) rfl
theorem ms_X2_fetch : Cond.selects "LinkedUnits$Expressions" y_X2_fetch y_X2_fetch ∈ GW := sel_in (q := (y_X2_fetch, 8)) (List.mem_append_left _ (List.mem_append_left _ (List.mem_append_left _ (List.mem_append_left _ (List.mem_append_left _ (List.mem_append_left _ (List.mem_append_left _ (List.mem_of_getElem? (i := 33) rfl)))))))) rfl
theorem ms_X2_fold : Cond.selects "LinkedUnits$Expressions" y_X2_fold y_X2_fold ∈ GW := sel_in (q := (y_X2_fold, 8)) (List.mem_append_left _ (List.mem_append_left _ (List.mem_append_left _ (List.mem_append_left _ (List.mem_append_left _ (List.mem_append_left _ (List.mem_append_left _ (List.mem_of_getElem? (i := 34) rfl)))))))) rfl
theorem ms_X2_index : Cond.selects "LinkedUnits$Expressions" y_X2_index y_X2_index ∈ GW := sel_in (q := (y_X2_index, 8)) (List.mem_append_left _ (List.mem_append_left _ (List.mem_append_left _ (List.mem_append_left _ (List.mem_append_left _ (List.mem_append_left _ (List.mem_append_left _ (List.mem_of_getElem? (i := 35) rfl)))))))) rfl
theorem ms_X2_invert : Cond.selects "LinkedUnits$Expressions" y_X2_invert y_X2_invert ∈ GW := sel_in (q := (y_X2_invert, 8)) (List.mem_append_left _ (List.mem_append_left _ (List.mem_append_left _ (List.mem_append_left _ (List.mem_append_left _ (List.mem_append_left _ (List.mem_append_left _ (List.mem_of_getElem? (i := 36) rfl)))))))) rfl
theorem ms_X2_kindOf : Cond.selects "LinkedUnits$Expressions" y_X2_kindOf y_X2_kindOf ∈ GW := sel_in (q := (y_X2_kindOf, 8)) (List.mem_append_left _ (List.mem_append_left _ (List.mem_append_left _ (List.mem_append_left _ (List.mem_append_left _ (List.mem_append_left _ (List.mem_append_left _ (List.mem_of_getElem? (i := 37) rfl)))))))) rfl
theorem ms_X2_left : Cond.selects "LinkedUnits$Expressions" y_X2_left y_X2_left ∈ GW := sel_in (q := (y_X2_left, 8)) (List.mem_append_left _ (List.mem_append_left _ (List.mem_append_left _ (List.mem_append_left _ (List.mem_append_left _ (List.mem_append_left _ (List.mem_append_left _ (List.mem_of_getElem? (i := 38) rfl)))))))) rfl
theorem ms_X2_lineOf : Cond.selects "LinkedUnits$Expressions" y_X2_lineOf y_X2_lineOf ∈ GW := sel_in (q := (y_X2_lineOf, 8)) (List.mem_append_left _ (List.mem_append_left _ (List.mem_append_left _ (List.mem_append_left _ (List.mem_append_left _ (List.mem_append_left _ (List.mem_append_left _ (List.mem_of_getElem? (i := 39) rfl)))))))) rfl
theorem ms_X2_loaded : Cond.selects "LinkedUnits$Expressions" y_X2_loaded y_X2_loaded ∈ GW := sel_in (q := (y_X2_loaded, 8)) (List.mem_append_left _ (List.mem_append_left _ (List.mem_append_left _ (List.mem_append_left _ (List.mem_append_left _ (List.mem_append_left _ (List.mem_append_right _ (List.mem_of_getElem? (i := 0) rfl)))))))) rfl
theorem ms_X2_named : Cond.selects "LinkedUnits$Expressions" y_X2_named y_X2_named ∈ GW := sel_in (q := (y_X2_named, 8)) (List.mem_append_left _ (List.mem_append_left _ (List.mem_append_left _ (List.mem_append_left _ (List.mem_append_left _ (List.mem_append_left _ (List.mem_append_right _ (List.mem_of_getElem? (i := 1) rfl)))))))) rfl
theorem ms_X2_number : Cond.selects "LinkedUnits$Expressions" y_X2_number y_X2_number ∈ GW := sel_in (q := (y_X2_number, 8)) (List.mem_append_left _ (List.mem_append_left _ (List.mem_append_left _ (List.mem_append_left _ (List.mem_append_left _ (List.mem_append_left _ (List.mem_append_right _ (List.mem_of_getElem? (i := 2) rfl)))))))) rfl
theorem ms_X2_operate : Cond.selects "LinkedUnits$Expressions" y_X2_operate y_X2_operate ∈ GW := sel_in (q := (y_X2_operate, 8)) (List.mem_append_left _ (List.mem_append_left _ (List.mem_append_left _ (List.mem_append_left _ (List.mem_append_left _ (List.mem_append_left _ (List.mem_append_right _ (List.mem_of_getElem? (i := 3) rfl)))))))) rfl
theorem ms_X2_pointed : Cond.selects "LinkedUnits$Expressions" y_X2_pointed y_X2_pointed ∈ GW := sel_in (q := (y_X2_pointed, 8)) (List.mem_append_left _ (List.mem_append_left _ (List.mem_append_left _ (List.mem_append_left _ (List.mem_append_left _ (List.mem_append_left _ (List.mem_append_right _ (List.mem_of_getElem? (i := 4) rfl)))))))) rfl
theorem ms_X2_pop : Cond.selects "LinkedUnits$Expressions" y_X2_pop y_X2_pop ∈ GW := sel_in (q := (y_X2_pop, 8)) (List.mem_append_left _ (List.mem_append_left _ (List.mem_append_left _ (List.mem_append_left _ (List.mem_append_left _ (List.mem_append_left _ (List.mem_append_right _ (List.mem_of_getElem? (i := 5) rfl)))))))) rfl
theorem ms_X2_push : Cond.selects "LinkedUnits$Expressions" y_X2_push y_X2_push ∈ GW := sel_in (q := (y_X2_push, 8)) (List.mem_append_left _ (List.mem_append_left _ (List.mem_append_left _ (List.mem_append_left _ (List.mem_append_left _ (List.mem_append_left _ (List.mem_append_right _ (List.mem_of_getElem? (i := 6) rfl)))))))) rfl
theorem ms_X2_raise : Cond.selects "LinkedUnits$Expressions" y_X2_raise y_X2_raise ∈ GW := sel_in (q := (y_X2_raise, 8)) (List.mem_append_left _ (List.mem_append_left _ (List.mem_append_left _ (List.mem_append_left _ (List.mem_append_left _ (List.mem_append_left _ (List.mem_append_right _ (List.mem_of_getElem? (i := 7) rfl)))))))) rfl
theorem ms_X2_refuse : Cond.selects "LinkedUnits$Expressions" y_X2_refuse y_X2_refuse ∈ GW := sel_in (q := (y_X2_refuse, 8)) (List.mem_append_left _ (List.mem_append_left _ (List.mem_append_left _ (List.mem_append_left _ (List.mem_append_left _ (List.mem_append_left _ (List.mem_append_right _ (List.mem_of_getElem? (i := 8) rfl)))))))) rfl
theorem ms_X2_step : Cond.selects "LinkedUnits$Expressions" y_X2_step y_X2_step ∈ GW := sel_in (q := (y_X2_step, 8)) (List.mem_append_left _ (List.mem_append_left _ (List.mem_append_left _ (List.mem_append_left _ (List.mem_append_left _ (List.mem_append_left _ (List.mem_append_right _ (List.mem_of_getElem? (i := 9) rfl)))))))) rfl
theorem ms_X2_string : Cond.selects "LinkedUnits$Expressions" y_X2_string y_X2_string ∈ GW := sel_in (q := (y_X2_string, 8)) (List.mem_append_left _ (List.mem_append_left _ (List.mem_append_left _ (List.mem_append_left _ (List.mem_append_left _ (List.mem_append_left _ (List.mem_append_right _ (List.mem_of_getElem? (i := 10) rfl)))))))) rfl
theorem ms_X2_take : Cond.selects "LinkedUnits$Expressions" y_X2_take y_X2_take ∈ GW := sel_in (q := (y_X2_take, 8)) (List.mem_append_left _ (List.mem_append_left _ (List.mem_append_left _ (List.mem_append_left _ (List.mem_append_left _ (List.mem_append_left _ (List.mem_append_right _ (List.mem_of_getElem? (i := 11) rfl)))))))) rfl
theorem ms_X2_top : Cond.selects "LinkedUnits$Expressions" y_X2_top y_X2_top ∈ GW := sel_in (q := (y_X2_top, 8)) (List.mem_append_left _ (List.mem_append_left _ (List.mem_append_left _ (List.mem_append_left _ (List.mem_append_left _ (List.mem_append_left _ (List.mem_append_right _ (List.mem_of_getElem? (i := 12) rfl)))))))) rfl
theorem ms_X2_unary : Cond.selects "LinkedUnits$Expressions" y_X2_unary y_X2_unary ∈ GW := sel_in (q := (y_X2_unary, 8)) (List.mem_append_left _ (List.mem_append_left _ (List.mem_append_left _ (List.mem_append_left _ (List.mem_append_left _ (List.mem_append_left _ (List.mem_append_right _ (List.mem_of_getElem? (i := 13) rfl)))))))) rfl
theorem ms_X2_unless : Cond.selects "LinkedUnits$Expressions" y_X2_unless y_X2_unless ∈ GW := sel_in (q := (y_X2_unless, 8)) (List.mem_append_left _ (List.mem_append_left _ (List.mem_append_left _ (List.mem_append_left _ (List.mem_append_left _ (List.mem_append_left _ (List.mem_append_right _ (List.mem_of_getElem? (i := 14) rfl)))))))) rfl
theorem ms_X3_accept : Cond.selects "LinkedUnits$Grammar" y_X3_accept y_X3_accept ∈ GW := sel_in (q := (y_X3_accept, 12)) (List.mem_append_left _ (List.mem_append_left _ (List.mem_append_left _ (List.mem_append_left _ (List.mem_append_left _ (List.mem_append_left _ (List.mem_append_right _ (List.mem_of_getElem? (i := 15) rfl)))))))) rfl
theorem ms_X3_add : Cond.selects "LinkedUnits$Grammar" y_X3_add y_X3_add ∈ GW := sel_in (q := (y_X3_add, 12)) (List.mem_append_left _ (List.mem_append_left _ (List.mem_append_left _ (List.mem_append_left _ (List.mem_append_left _ (List.mem_append_left _ (List.mem_append_right _ (List.mem_of_getElem? (i := 16) rfl)))))))) rfl
theorem ms_X3_advance : Cond.selects "LinkedUnits$Grammar" y_X3_advance y_X3_advance ∈ GW := sel_in (q := (y_X3_advance, 12)) (List.mem_append_left _ (List.mem_append_left _ (List.mem_append_left _ (List.mem_append_left _ (List.mem_append_left _ (List.mem_append_left _ (List.mem_append_right _ (List.mem_of_getElem? (i := 17) rfl)))))))) rfl
theorem ms_X3_behind : Cond.selects "LinkedUnits$Grammar" y_X3_behind y_X3_behind ∈ GW := sel_in (q := (y_X3_behind, 12)) (List.mem_append_left _ (List.mem_append_left _ (List.mem_append_left _ (List.mem_append_left _ (List.mem_append_left _ (List.mem_append_left _ (List.mem_append_right _ (List.mem_of_getElem? (i := 18) rfl)))))))) rfl
theorem ms_X3_binary : Cond.selects "LinkedUnits$Grammar" y_X3_binary y_X3_binary ∈ GW := sel_in (q := (y_X3_binary, 12)) (List.mem_append_left _ (List.mem_append_left _ (List.mem_append_left _ (List.mem_append_left _ (List.mem_append_left _ (List.mem_append_left _ (List.mem_append_right _ (List.mem_of_getElem? (i := 19) rfl)))))))) rfl
theorem ms_X3_body : Cond.selects "LinkedUnits$Grammar" y_X3_body y_X3_body ∈ GW := sel_in (q := (y_X3_body, 12)) (List.mem_append_left _ (List.mem_append_left _ (List.mem_append_left _ (List.mem_append_left _ (List.mem_append_left _ (List.mem_append_left _ (List.mem_append_right _ (List.mem_of_getElem? (i := 20) rfl)))))))) rfl
theorem ms_X3_bracket : Cond.selects "LinkedUnits$Grammar" y_X3_bracket y_X3_bracket ∈ GW := sel_in (q := (y_X3_bracket, 12)) (List.mem_append_left _ (List.mem_append_left _ (List.mem_append_left _ (List.mem_append_left _ (List.mem_append_left _ (List.mem_append_left _ (List.mem_append_right _ (List.mem_of_getElem? (i := 21) rfl)))))))) rfl
theorem ms_X3_call : Cond.selects "LinkedUnits$Grammar" y_X3_call y_X3_call ∈ GW := sel_in (q := (y_X3_call, 12)) (List.mem_append_left _ (List.mem_append_left _ (List.mem_append_left _ (List.mem_append_left _ (List.mem_append_left _ (List.mem_append_left _ (List.mem_append_right _ (List.mem_of_getElem? (i := 22) rfl)))))))) rfl
theorem ms_X3_cast : Cond.selects "LinkedUnits$Grammar" y_X3_cast y_X3_cast ∈ GW := sel_in (q := (y_X3_cast, 12)) (List.mem_append_left _ (List.mem_append_left _ (List.mem_append_left _ (List.mem_append_left _ (List.mem_append_left _ (List.mem_append_left _ (List.mem_append_right _ (List.mem_of_getElem? (i := 23) rfl)))))))) rfl
theorem ms_X3_choice : Cond.selects "LinkedUnits$Grammar" y_X3_choice y_X3_choice ∈ GW := sel_in (q := (y_X3_choice, 12)) (List.mem_append_left _ (List.mem_append_left _ (List.mem_append_left _ (List.mem_append_left _ (List.mem_append_left _ (List.mem_append_left _ (List.mem_append_right _ (List.mem_of_getElem? (i := 24) rfl)))))))) rfl
theorem ms_X3_condition : Cond.selects "LinkedUnits$Grammar" y_X3_condition y_X3_condition ∈ GW := sel_in (q := (y_X3_condition, 12)) (List.mem_append_left _ (List.mem_append_left _ (List.mem_append_left _ (List.mem_append_left _ (List.mem_append_left _ (List.mem_append_left _ (List.mem_append_right _ (List.mem_of_getElem? (i := 25) rfl)))))))) rfl
theorem ms_X3_conditional : Cond.selects "LinkedUnits$Grammar" y_X3_conditional y_X3_conditional ∈ GW := sel_in (q := (y_X3_conditional, 12)) (List.mem_append_left _ (List.mem_append_left _ (List.mem_append_left _ (List.mem_append_left _ (List.mem_append_left _ (List.mem_append_left _ (List.mem_append_right _ (List.mem_of_getElem? (i := 26) rfl)))))))) rfl
theorem ms_X3_counted : Cond.selects "LinkedUnits$Grammar" y_X3_counted y_X3_counted ∈ GW := sel_in (q := (y_X3_counted, 12)) (List.mem_append_left _ (List.mem_append_left _ (List.mem_append_left _ (List.mem_append_left _ (List.mem_append_left _ (List.mem_append_left _ (List.mem_append_right _ (List.mem_of_getElem? (i := 27) rfl)))))))) rfl
theorem ms_X3_deeper : Cond.selects "LinkedUnits$Grammar" y_X3_deeper y_X3_deeper ∈ GW := sel_in (q := (y_X3_deeper, 12)) (List.mem_append_left _ (List.mem_append_left _ (List.mem_append_left _ (List.mem_append_left _ (List.mem_append_left _ (List.mem_append_left _ (List.mem_append_right _ (List.mem_of_getElem? (i := 28) rfl)))))))) rfl
theorem ms_X3_expect : Cond.selects "LinkedUnits$Grammar" y_X3_expect y_X3_expect ∈ GW := sel_in (q := (y_X3_expect, 12)) (List.mem_append_left _ (List.mem_append_left _ (List.mem_append_left _ (List.mem_append_left _ (List.mem_append_left _ (List.mem_append_left _ (List.mem_append_right _ (List.mem_of_getElem? (i := 29) rfl)))))))) rfl
theorem ms_X3_expression : Cond.selects "LinkedUnits$Grammar" y_X3_expression y_X3_expression ∈ GW := sel_in (q := (y_X3_expression, 12)) (List.mem_append_left _ (List.mem_append_left _ (List.mem_append_left _ (List.mem_append_left _ (List.mem_append_left _ (List.mem_append_left _ (List.mem_append_right _ (List.mem_of_getElem? (i := 30) rfl)))))))) rfl
theorem ms_X3_fail : Cond.selects "LinkedUnits$Grammar" y_X3_fail y_X3_fail ∈ GW := sel_in (q := (y_X3_fail, 12)) (List.mem_append_left _ (List.mem_append_left _ (List.mem_append_left _ (List.mem_append_left _ (List.mem_append_left _ (List.mem_append_left _ (List.mem_append_right _ (List.mem_of_getElem? (i := 31) rfl)))))))) rfl
theorem ms_X3_head : Cond.selects "LinkedUnits$Grammar" y_X3_head y_X3_head ∈ GW := sel_in (q := (y_X3_head, 12)) (List.mem_append_left _ (List.mem_append_left _ (List.mem_append_left _ (List.mem_append_left _ (List.mem_append_left _ (List.mem_append_left _ (List.mem_append_right _ (List.mem_of_getElem? (i := 32) rfl)))))))) rfl
theorem ms_X3_initial : Cond.selects "LinkedUnits$Grammar" y_X3_initial y_X3_initial ∈ GW := sel_in (q := (y_X3_initial, 12)) (List.mem_append_left _ (List.mem_append_left _ (List.mem_append_left _ (List.mem_append_left _ (List.mem_append_left _ (List.mem_append_left _ (List.mem_append_right _ (List.mem_of_getElem? (i := 33) rfl)))))))) rfl
theorem ms_X3_loop : Cond.selects "LinkedUnits$Grammar" y_X3_loop y_X3_loop ∈ GW := sel_in (q := (y_X3_loop, 12)) (List.mem_append_left _ (List.mem_append_left _ (List.mem_append_left _ (List.mem_append_left _ (List.mem_append_left _ (List.mem_append_left _ (List.mem_append_right _ (List.mem_of_getElem? (i := 34) rfl)))))))) rfl
theorem ms_X3_parameters : Cond.selects "LinkedUnits$Grammar" y_X3_parameters y_X3_parameters ∈ GW := sel_in (q := (y_X3_parameters, 12)) (List.mem_append_left _ (List.mem_append_left _ (List.mem_append_left _ (List.mem_append_left _ (List.mem_append_left _ (List.mem_append_left _ (List.mem_append_right _ (List.mem_of_getElem? (i := 35) rfl)))))))) rfl
theorem ms_X3_primary : Cond.selects "LinkedUnits$Grammar" y_X3_primary y_X3_primary ∈ GW := sel_in (q := (y_X3_primary, 12)) (List.mem_append_left _ (List.mem_append_left _ (List.mem_append_left _ (List.mem_append_left _ (List.mem_append_left _ (List.mem_append_left _ (List.mem_append_right _ (List.mem_of_getElem? (i := 36) rfl)))))))) rfl
theorem ms_X3_read : Cond.selects "LinkedUnits$Grammar" y_X3_read y_X3_read ∈ GW := sel_in (q := (y_X3_read, 12)) (List.mem_append_left _ (List.mem_append_left _ (List.mem_append_left _ (List.mem_append_left _ (List.mem_append_left _ (List.mem_append_left _ (List.mem_append_right _ (List.mem_of_getElem? (i := 37) rfl)))))))) rfl
theorem ms_X3_settle : Cond.selects "LinkedUnits$Grammar" y_X3_settle y_X3_settle ∈ GW := sel_in (q := (y_X3_settle, 12)) (List.mem_append_left _ (List.mem_append_left _ (List.mem_append_left _ (List.mem_append_left _ (List.mem_append_left _ (List.mem_append_left _ (List.mem_append_right _ (List.mem_of_getElem? (i := 38) rfl)))))))) rfl
theorem ms_X3_simple : Cond.selects "LinkedUnits$Grammar" y_X3_simple y_X3_simple ∈ GW := sel_in (q := (y_X3_simple, 12)) (List.mem_append_left _ (List.mem_append_left _ (List.mem_append_left _ (List.mem_append_left _ (List.mem_append_left _ (List.mem_append_left _ (List.mem_append_right _ (List.mem_of_getElem? (i := 39) rfl)))))))) rfl
theorem ms_X3_stars : Cond.selects "LinkedUnits$Grammar" y_X3_stars y_X3_stars ∈ GW := sel_in (q := (y_X3_stars, 12)) (List.mem_append_left _ (List.mem_append_left _ (List.mem_append_left _ (List.mem_append_left _ (List.mem_append_left _ (List.mem_append_right _ (List.mem_of_getElem? (i := 0) rfl))))))) rfl
theorem ms_X3_statement : Cond.selects "LinkedUnits$Grammar" y_X3_statement y_X3_statement ∈ GW := sel_in (q := (y_X3_statement, 12)) (List.mem_append_left _ (List.mem_append_left _ (List.mem_append_left _ (List.mem_append_left _ (List.mem_append_left _ (List.mem_append_right _ (List.mem_of_getElem? (i := 1) rfl))))))) rfl
theorem ms_X3_statements : Cond.selects "LinkedUnits$Grammar" y_X3_statements y_X3_statements ∈ GW := sel_in (q := (y_X3_statements, 12)) (List.mem_append_left _ (List.mem_append_left _ (List.mem_append_left _ (List.mem_append_left _ (List.mem_append_left _ (List.mem_append_right _ (List.mem_of_getElem? (i := 2) rfl))))))) rfl
theorem ms_X3_unary : Cond.selects "LinkedUnits$Grammar" y_X3_unary y_X3_unary ∈ GW := sel_in (q := (y_X3_unary, 12)) (List.mem_append_left _ (List.mem_append_left _ (List.mem_append_left _ (List.mem_append_left _ (List.mem_append_left _ (List.mem_append_right _ (List.mem_of_getElem? (i := 3) rfl))))))) rfl
theorem ms_X3_variables : Cond.selects "LinkedUnits$Grammar" y_X3_variables y_X3_variables ∈ GW := sel_in (q := (y_X3_variables, 12)) (List.mem_append_left _ (List.mem_append_left _ (List.mem_append_left _ (List.mem_append_left _ (List.mem_append_left _ (List.mem_append_right _ (List.mem_of_getElem? (i := 4) rfl))))))) rfl
theorem ms_X4_agrees : Cond.selects "LinkedUnits$Image" y_X4_agrees y_X4_agrees ∈ GW := sel_in (q := (y_X4_agrees, 12)) (List.mem_append_left _ (List.mem_append_left _ (List.mem_append_left _ (List.mem_append_left _ (List.mem_append_left _ (List.mem_append_right _ (List.mem_of_getElem? (i := 5) rfl))))))) rfl
theorem ms_X4_cellOf : Cond.selects "LinkedUnits$Image" y_X4_cellOf y_X4_cellOf ∈ GW := sel_in (q := (y_X4_cellOf, 12)) (List.mem_append_left _ (List.mem_append_left _ (List.mem_append_left _ (List.mem_append_left _ (List.mem_append_left _ (List.mem_append_right _ (List.mem_of_getElem? (i := 6) rfl))))))) rfl
theorem ms_X4_choose : Cond.selects "LinkedUnits$Image" y_X4_choose y_X4_choose ∈ GW := sel_in (q := (y_X4_choose, 12)) (List.mem_append_left _ (List.mem_append_left _ (List.mem_append_left _ (List.mem_append_left _ (List.mem_append_left _ (List.mem_append_right _ (List.mem_of_getElem? (i := 7) rfl))))))) rfl
theorem ms_X4_dataCells : Cond.selects "LinkedUnits$Image" y_X4_dataCells y_X4_dataCells ∈ GW := sel_in (q := (y_X4_dataCells, 12)) (List.mem_append_left _ (List.mem_append_left _ (List.mem_append_left _ (List.mem_append_left _ (List.mem_append_left _ (List.mem_append_right _ (List.mem_of_getElem? (i := 8) rfl))))))) rfl
theorem ms_X4_definition : Cond.selects "LinkedUnits$Image" y_X4_definition y_X4_definition ∈ GW := sel_in (q := (y_X4_definition, 12)) (List.mem_append_left _ (List.mem_append_left _ (List.mem_append_left _ (List.mem_append_left _ (List.mem_append_left _ (List.mem_append_right _ (List.mem_of_getElem? (i := 9) rfl))))))) rfl
theorem ms_X4_fill : Cond.selects "LinkedUnits$Image" y_X4_fill y_X4_fill ∈ GW := sel_in (q := (y_X4_fill, 12)) (List.mem_append_left _ (List.mem_append_left _ (List.mem_append_left _ (List.mem_append_left _ (List.mem_append_left _ (List.mem_append_right _ (List.mem_of_getElem? (i := 10) rfl))))))) rfl
theorem ms_X4_find : Cond.selects "LinkedUnits$Image" y_X4_find y_X4_find ∈ GW := sel_in (q := (y_X4_find, 12)) (List.mem_append_left _ (List.mem_append_left _ (List.mem_append_left _ (List.mem_append_left _ (List.mem_append_left _ (List.mem_append_right _ (List.mem_of_getElem? (i := 11) rfl))))))) rfl
theorem ms_X4_isMain : Cond.selects "LinkedUnits$Image" y_X4_isMain y_X4_isMain ∈ GW := sel_in (q := (y_X4_isMain, 12)) (List.mem_append_left _ (List.mem_append_left _ (List.mem_append_left _ (List.mem_append_left _ (List.mem_append_left _ (List.mem_append_right _ (List.mem_of_getElem? (i := 12) rfl))))))) rfl
theorem ms_X4_isWrong : Cond.selects "LinkedUnits$Image" y_X4_isWrong y_X4_isWrong ∈ GW := sel_in (q := (y_X4_isWrong, 12)) (List.mem_append_left _ (List.mem_append_left _ (List.mem_append_left _ (List.mem_append_left _ (List.mem_append_left _ (List.mem_append_right _ (List.mem_of_getElem? (i := 13) rfl))))))) rfl
theorem ms_X4_join : Cond.selects "LinkedUnits$Image" y_X4_join y_X4_join ∈ GW := sel_in (q := (y_X4_join, 12)) (List.mem_append_left _ (List.mem_append_left _ (List.mem_append_left _ (List.mem_append_left _ (List.mem_append_left _ (List.mem_append_right _ (List.mem_of_getElem? (i := 14) rfl))))))) rfl
theorem ms_X4_look : Cond.selects "LinkedUnits$Image" y_X4_look y_X4_look ∈ GW := sel_in (q := (y_X4_look, 12)) (List.mem_append_left _ (List.mem_append_left _ (List.mem_append_left _ (List.mem_append_left _ (List.mem_append_left _ (List.mem_append_right _ (List.mem_of_getElem? (i := 15) rfl))))))) rfl
theorem ms_X4_refer : Cond.selects "LinkedUnits$Image" y_X4_refer y_X4_refer ∈ GW := sel_in (q := (y_X4_refer, 12)) (List.mem_append_left _ (List.mem_append_left _ (List.mem_append_left _ (List.mem_append_left _ (List.mem_append_left _ (List.mem_append_right _ (List.mem_of_getElem? (i := 16) rfl))))))) rfl
theorem ms_X4_settle : Cond.selects "LinkedUnits$Image" y_X4_settle y_X4_settle ∈ GW := sel_in (q := (y_X4_settle, 12)) (List.mem_append_left _ (List.mem_append_left _ (List.mem_append_left _ (List.mem_append_left _ (List.mem_append_left _ (List.mem_append_right _ (List.mem_of_getElem? (i := 17) rfl))))))) rfl
theorem ms_X5_begin : Cond.selects "LinkedUnits$Machine" y_X5_begin y_X5_begin ∈ GW := sel_in (q := (y_X5_begin, 19)) (List.mem_append_left _ (List.mem_append_left _ (List.mem_append_left _ (List.mem_append_left _ (List.mem_append_left _ (List.mem_append_right _ (List.mem_of_getElem? (i := 18) rfl))))))) rfl
theorem ms_X5_calculate : Cond.selects "LinkedUnits$Machine" y_X5_calculate y_X5_calculate ∈ GW := sel_in (q := (y_X5_calculate, 19)) (List.mem_append_left _ (List.mem_append_left _ (List.mem_append_left _ (List.mem_append_left _ (List.mem_append_left _ (List.mem_append_right _ (List.mem_of_getElem? (i := 19) rfl))))))) rfl
theorem ms_X5_call : Cond.selects "LinkedUnits$Machine" y_X5_call y_X5_call ∈ GW := sel_in (q := (y_X5_call, 19)) (List.mem_append_left _ (List.mem_append_left _ (List.mem_append_left _ (List.mem_append_left _ (List.mem_append_left _ (List.mem_append_right _ (List.mem_of_getElem? (i := 20) rfl))))))) rfl
theorem ms_X5_copyParameters : Cond.selects "LinkedUnits$Machine" y_X5_copyParameters y_X5_copyParameters ∈ GW := sel_in (q := (y_X5_copyParameters, 19)) (List.mem_append_left _ (List.mem_append_left _ (List.mem_append_left _ (List.mem_append_left _ (List.mem_append_left _ (List.mem_append_right _ (List.mem_of_getElem? (i := 21) rfl))))))) rfl
theorem ms_X5_decide : Cond.selects "LinkedUnits$Machine" y_X5_decide y_X5_decide ∈ GW := sel_in (q := (y_X5_decide, 19)) (List.mem_append_left _ (List.mem_append_left _ (List.mem_append_left _ (List.mem_append_left _ (List.mem_append_left _ (List.mem_append_right _ (List.mem_of_getElem? (i := 22) rfl))))))) rfl
theorem ms_X5_enter : Cond.selects "LinkedUnits$Machine" y_X5_enter y_X5_enter ∈ GW := sel_in (q := (y_X5_enter, 19)) (List.mem_append_left _ (List.mem_append_left _ (List.mem_append_left _ (List.mem_append_left _ (List.mem_append_left _ (List.mem_append_right _ (List.mem_of_getElem? (i := 23) rfl))))))) rfl
theorem ms_X5_execute : Cond.selects "LinkedUnits$Machine" y_X5_execute y_X5_execute ∈ GW := sel_in (q := (y_X5_execute, 19)) (List.mem_append_left _ (List.mem_append_left _ (List.mem_append_left _ (List.mem_append_left _ (List.mem_append_left _ (List.mem_append_right _ (List.mem_of_getElem? (i := 24) rfl))))))) rfl
theorem ms_X5_fail : Cond.selects "LinkedUnits$Machine" y_X5_fail y_X5_fail ∈ GW := sel_in (q := (y_X5_fail, 19)) (List.mem_append_left _ (List.mem_append_left _ (List.mem_append_left _ (List.mem_append_left _ (List.mem_append_left _ (List.mem_append_right _ (List.mem_of_getElem? (i := 25) rfl))))))) rfl
theorem ms_X5_giveBack : Cond.selects "LinkedUnits$Machine" y_X5_giveBack y_X5_giveBack ∈ GW := sel_in (q := (y_X5_giveBack, 19)) (List.mem_append_left _ (List.mem_append_left _ (List.mem_append_left _ (List.mem_append_left _ (List.mem_append_left _ (List.mem_append_right _ (List.mem_of_getElem? (i := 26) rfl))))))) rfl
theorem ms_X5_inFrame : Cond.selects "LinkedUnits$Machine" y_X5_inFrame y_X5_inFrame ∈ GW := sel_in (q := (y_X5_inFrame, 19)) (List.mem_append_left _ (List.mem_append_left _ (List.mem_append_left _ (List.mem_append_left _ (List.mem_append_left _ (List.mem_append_right _ (List.mem_of_getElem? (i := 27) rfl))))))) rfl
theorem ms_X5_lead : Cond.selects "LinkedUnits$Machine" y_X5_lead y_X5_lead ∈ GW := sel_in (q := (y_X5_lead, 19)) (List.mem_append_left _ (List.mem_append_left _ (List.mem_append_left _ (List.mem_append_left _ (List.mem_append_left _ (List.mem_append_right _ (List.mem_of_getElem? (i := 28) rfl))))))) rfl
theorem ms_X5_peeked : Cond.selects "LinkedUnits$Machine" y_X5_peeked y_X5_peeked ∈ GW := sel_in (q := (y_X5_peeked, 19)) (List.mem_append_left _ (List.mem_append_left _ (List.mem_append_left _ (List.mem_append_left _ (List.mem_append_left _ (List.mem_append_right _ (List.mem_of_getElem? (i := 29) rfl))))))) rfl
theorem ms_X5_plain : Cond.selects "LinkedUnits$Machine" y_X5_plain y_X5_plain ∈ GW := sel_in (q := (y_X5_plain, 19)) (List.mem_append_left _ (List.mem_append_left _ (List.mem_append_left _ (List.mem_append_left _ (List.mem_append_left _ (List.mem_append_right _ (List.mem_of_getElem? (i := 30) rfl))))))) rfl
theorem ms_X5_pop : Cond.selects "LinkedUnits$Machine" y_X5_pop y_X5_pop ∈ GW := sel_in (q := (y_X5_pop, 19)) (List.mem_append_left _ (List.mem_append_left _ (List.mem_append_left _ (List.mem_append_left _ (List.mem_append_left _ (List.mem_append_right _ (List.mem_of_getElem? (i := 31) rfl))))))) rfl
theorem ms_X5_push : Cond.selects "LinkedUnits$Machine" y_X5_push y_X5_push ∈ GW := sel_in (q := (y_X5_push, 19)) (List.mem_append_left _ (List.mem_append_left _ (List.mem_append_left _ (List.mem_append_left _ (List.mem_append_left _ (List.mem_append_right _ (List.mem_of_getElem? (i := 32) rfl))))))) rfl
theorem ms_X5_reach : Cond.selects "LinkedUnits$Machine" y_X5_reach y_X5_reach ∈ GW := sel_in (q := (y_X5_reach, 19)) (List.mem_append_left _ (List.mem_append_left _ (List.mem_append_left _ (List.mem_append_left _ (List.mem_append_left _ (List.mem_append_right _ (List.mem_of_getElem? (i := 33) rfl))))))) rfl
theorem ms_X5_step : Cond.selects "LinkedUnits$Machine" y_X5_step y_X5_step ∈ GW := sel_in (q := (y_X5_step, 19)) (List.mem_append_left _ (List.mem_append_left _ (List.mem_append_left _ (List.mem_append_left _ (List.mem_append_left _ (List.mem_append_right _ (List.mem_of_getElem? (i := 34) rfl))))))) rfl
theorem ms_X5_stepped : Cond.selects "LinkedUnits$Machine" y_X5_stepped y_X5_stepped ∈ GW := sel_in (q := (y_X5_stepped, 19)) (List.mem_append_left _ (List.mem_append_left _ (List.mem_append_left _ (List.mem_append_left _ (List.mem_append_left _ (List.mem_append_right _ (List.mem_of_getElem? (i := 35) rfl))))))) rfl
theorem ms_X5_stray : Cond.selects "LinkedUnits$Machine" y_X5_stray y_X5_stray ∈ GW := sel_in (q := (y_X5_stray, 19)) (List.mem_append_left _ (List.mem_append_left _ (List.mem_append_left _ (List.mem_append_left _ (List.mem_append_left _ (List.mem_append_right _ (List.mem_of_getElem? (i := 36) rfl))))))) rfl
theorem ms_X5_turn : Cond.selects "LinkedUnits$Machine" y_X5_turn y_X5_turn ∈ GW := sel_in (q := (y_X5_turn, 19)) (List.mem_append_left _ (List.mem_append_left _ (List.mem_append_left _ (List.mem_append_left _ (List.mem_append_left _ (List.mem_append_right _ (List.mem_of_getElem? (i := 37) rfl))))))) rfl
theorem ms_X5_useLibrary : Cond.selects "LinkedUnits$Machine" y_X5_useLibrary y_X5_useLibrary ∈ GW := sel_in (q := (y_X5_useLibrary, 19)) (List.mem_append_left _ (List.mem_append_left _ (List.mem_append_left _ (List.mem_append_left _ (List.mem_append_left _ (List.mem_append_right _ (List.mem_of_getElem? (i := 38) rfl))))))) rfl
theorem ms_X6_become : Cond.selects "LinkedUnits$Operand" y_X6_become y_X6_become ∈ GW := sel_in (q := (y_X6_become, 13)) (List.mem_append_left _ (List.mem_append_left _ (List.mem_append_left _ (List.mem_append_left _ (List.mem_append_left _ (List.mem_append_right _ (List.mem_of_getElem? (i := 39) rfl))))))) rfl
theorem ms_X6_fits : Cond.selects "LinkedUnits$Operand" y_X6_fits y_X6_fits ∈ GW := sel_in (q := (y_X6_fits, 13)) (List.mem_append_left _ (List.mem_append_left _ (List.mem_append_left _ (List.mem_append_left _ (List.mem_append_right _ (List.mem_of_getElem? (i := 0) rfl)))))) rfl
theorem ms_X6_isConstant : Cond.selects "LinkedUnits$Operand" y_X6_isConstant y_X6_isConstant ∈ GW := sel_in (q := (y_X6_isConstant, 13)) (List.mem_append_left _ (List.mem_append_left _ (List.mem_append_left _ (List.mem_append_left _ (List.mem_append_right _ (List.mem_of_getElem? (i := 1) rfl)))))) rfl
theorem ms_X6_isInitial : Cond.selects "LinkedUnits$Operand" y_X6_isInitial y_X6_isInitial ∈ GW := sel_in (q := (y_X6_isInitial, 13)) (List.mem_append_left _ (List.mem_append_left _ (List.mem_append_left _ (List.mem_append_left _ (List.mem_append_right _ (List.mem_of_getElem? (i := 2) rfl)))))) rfl
theorem ms_X6_isPlace : Cond.selects "LinkedUnits$Operand" y_X6_isPlace y_X6_isPlace ∈ GW := sel_in (q := (y_X6_isPlace, 13)) (List.mem_append_left _ (List.mem_append_left _ (List.mem_append_left _ (List.mem_append_left _ (List.mem_append_right _ (List.mem_of_getElem? (i := 3) rfl)))))) rfl
theorem ms_X6_reset : Cond.selects "LinkedUnits$Operand" y_X6_reset y_X6_reset ∈ GW := sel_in (q := (y_X6_reset, 13)) (List.mem_append_left _ (List.mem_append_left _ (List.mem_append_left _ (List.mem_append_left _ (List.mem_append_right _ (List.mem_of_getElem? (i := 4) rfl)))))) rfl
theorem ms_X7_begin : Cond.selects "LinkedUnits$Statements" y_X7_begin y_X7_begin ∈ GW := sel_in (q := (y_X7_begin, 12)) (List.mem_append_left _ (List.mem_append_left _ (List.mem_append_left _ (List.mem_append_left _ (List.mem_append_right _ (List.mem_of_getElem? (i := 5) rfl)))))) rfl
theorem ms_X7_condition : Cond.selects "LinkedUnits$Statements" y_X7_condition y_X7_condition ∈ GW := sel_in (q := (y_X7_condition, 12)) (List.mem_append_left _ (List.mem_append_left _ (List.mem_append_left _ (List.mem_append_left _ (List.mem_append_right _ (List.mem_of_getElem? (i := 6) rfl)))))) rfl
theorem ms_X7_conditional : Cond.selects "LinkedUnits$Statements" y_X7_conditional y_X7_conditional ∈ GW := sel_in (q := (y_X7_conditional, 12)) (List.mem_append_left _ (List.mem_append_left _ (List.mem_append_left _ (List.mem_append_left _ (List.mem_append_right _ (List.mem_of_getElem? (i := 7) rfl)))))) rfl
theorem ms_X7_constant : Cond.selects "LinkedUnits$Statements" y_X7_constant y_X7_constant ∈ GW := sel_in (q := (y_X7_constant, 12)) (List.mem_append_left _ (List.mem_append_left _ (List.mem_append_left _ (List.mem_append_left _ (List.mem_append_right _ (List.mem_of_getElem? (i := 8) rfl)))))) rfl
theorem ms_X7_doLoop : Cond.selects "LinkedUnits$Statements" y_X7_doLoop y_X7_doLoop ∈ GW := sel_in (q := (y_X7_doLoop, 12)) (List.mem_append_left _ (List.mem_append_left _ (List.mem_append_left _ (List.mem_append_left _ (List.mem_append_right _ (List.mem_of_getElem? (i := 9) rfl)))))) rfl
theorem ms_X7_exitUnless : Cond.selects "LinkedUnits$Statements" y_X7_exitUnless y_X7_exitUnless ∈ GW := sel_in (q := (y_X7_exitUnless, 12)) (List.mem_append_left _ (List.mem_append_left _ (List.mem_append_left _ (List.mem_append_left _ (List.mem_append_right _ (List.mem_of_getElem? (i := 10) rfl)))))) rfl
theorem ms_X7_finish : Cond.selects "LinkedUnits$Statements" y_X7_finish y_X7_finish ∈ GW := sel_in (q := (y_X7_finish, 12)) (List.mem_append_left _ (List.mem_append_left _ (List.mem_append_left _ (List.mem_append_left _ (List.mem_append_right _ (List.mem_of_getElem? (i := 11) rfl)))))) rfl
theorem ms_X7_forLoop : Cond.selects "LinkedUnits$Statements" y_X7_forLoop y_X7_forLoop ∈ GW := sel_in (q := (y_X7_forLoop, 12)) (List.mem_append_left _ (List.mem_append_left _ (List.mem_append_left _ (List.mem_append_left _ (List.mem_append_right _ (List.mem_of_getElem? (i := 12) rfl)))))) rfl
theorem ms_X7_giveBack : Cond.selects "LinkedUnits$Statements" y_X7_giveBack y_X7_giveBack ∈ GW := sel_in (q := (y_X7_giveBack, 12)) (List.mem_append_left _ (List.mem_append_left _ (List.mem_append_left _ (List.mem_append_left _ (List.mem_append_right _ (List.mem_of_getElem? (i := 13) rfl)))))) rfl
theorem ms_X7_jumpBack : Cond.selects "LinkedUnits$Statements" y_X7_jumpBack y_X7_jumpBack ∈ GW := sel_in (q := (y_X7_jumpBack, 12)) (List.mem_append_left _ (List.mem_append_left _ (List.mem_append_left _ (List.mem_append_left _ (List.mem_append_right _ (List.mem_of_getElem? (i := 14) rfl)))))) rfl
theorem ms_X7_leave : Cond.selects "LinkedUnits$Statements" y_X7_leave y_X7_leave ∈ GW := sel_in (q := (y_X7_leave, 12)) (List.mem_append_left _ (List.mem_append_left _ (List.mem_append_left _ (List.mem_append_left _ (List.mem_append_right _ (List.mem_of_getElem? (i := 15) rfl)))))) rfl
theorem ms_X7_take : Cond.selects "LinkedUnits$Statements" y_X7_take y_X7_take ∈ GW := sel_in (q := (y_X7_take, 12)) (List.mem_append_left _ (List.mem_append_left _ (List.mem_append_left _ (List.mem_append_left _ (List.mem_append_right _ (List.mem_of_getElem? (i := 16) rfl)))))) rfl
theorem ms_X7_turn : Cond.selects "LinkedUnits$Statements" y_X7_turn y_X7_turn ∈ GW := sel_in (q := (y_X7_turn, 12)) (List.mem_append_left _ (List.mem_append_left _ (List.mem_append_left _ (List.mem_append_left _ (List.mem_append_right _ (List.mem_of_getElem? (i := 17) rfl)))))) rfl
theorem ms_X7_walk : Cond.selects "LinkedUnits$Statements" y_X7_walk y_X7_walk ∈ GW := sel_in (q := (y_X7_walk, 12)) (List.mem_append_left _ (List.mem_append_left _ (List.mem_append_left _ (List.mem_append_left _ (List.mem_append_right _ (List.mem_of_getElem? (i := 18) rfl)))))) rfl
theorem ms_X7_whileLoop : Cond.selects "LinkedUnits$Statements" y_X7_whileLoop y_X7_whileLoop ∈ GW := sel_in (q := (y_X7_whileLoop, 12)) (List.mem_append_left _ (List.mem_append_left _ (List.mem_append_left _ (List.mem_append_left _ (List.mem_append_right _ (List.mem_of_getElem? (i := 19) rfl)))))) rfl
theorem ms_X8_addInitial : Cond.selects "LinkedUnits$Store" y_X8_addInitial y_X8_addInitial ∈ GW := sel_in (q := (y_X8_addInitial, 18)) (List.mem_append_left _ (List.mem_append_left _ (List.mem_append_left _ (List.mem_append_left _ (List.mem_append_right _ (List.mem_of_getElem? (i := 20) rfl)))))) rfl
theorem ms_X8_declare : Cond.selects "LinkedUnits$Store" y_X8_declare y_X8_declare ∈ GW := sel_in (q := (y_X8_declare, 18)) (List.mem_append_left _ (List.mem_append_left _ (List.mem_append_left _ (List.mem_append_left _ (List.mem_append_right _ (List.mem_of_getElem? (i := 21) rfl)))))) rfl
theorem ms_X8_firstOf : Cond.selects "LinkedUnits$Store" y_X8_firstOf y_X8_firstOf ∈ GW := sel_in (q := (y_X8_firstOf, 18)) (List.mem_append_left _ (List.mem_append_left _ (List.mem_append_left _ (List.mem_append_left _ (List.mem_append_right _ (List.mem_of_getElem? (i := 22) rfl)))))) rfl
theorem ms_X8_forget : Cond.selects "LinkedUnits$Store" y_X8_forget y_X8_forget ∈ GW := sel_in (q := (y_X8_forget, 18)) (List.mem_append_left _ (List.mem_append_left _ (List.mem_append_left _ (List.mem_append_left _ (List.mem_append_right _ (List.mem_of_getElem? (i := 23) rfl)))))) rfl
theorem ms_X8_has : Cond.selects "LinkedUnits$Store" y_X8_has y_X8_has ∈ GW := sel_in (q := (y_X8_has, 18)) (List.mem_append_left _ (List.mem_append_left _ (List.mem_append_left _ (List.mem_append_left _ (List.mem_append_right _ (List.mem_of_getElem? (i := 24) rfl)))))) rfl
theorem ms_X8_is : Cond.selects "LinkedUnits$Store" y_X8_is y_X8_is ∈ GW := sel_in (q := (y_X8_is, 18)) (List.mem_append_left _ (List.mem_append_left _ (List.mem_append_left _ (List.mem_append_left _ (List.mem_append_right _ (List.mem_of_getElem? (i := 25) rfl)))))) rfl
theorem ms_X8_isNamed : Cond.selects "LinkedUnits$Store" y_X8_isNamed y_X8_isNamed ∈ GW := sel_in (q := (y_X8_isNamed, 18)) (List.mem_append_left _ (List.mem_append_left _ (List.mem_append_left _ (List.mem_append_left _ (List.mem_append_right _ (List.mem_of_getElem? (i := 26) rfl)))))) rfl
theorem ms_X8_keep : Cond.selects "LinkedUnits$Store" y_X8_keep y_X8_keep ∈ GW := sel_in (q := (y_X8_keep, 18)) (List.mem_append_left _ (List.mem_append_left _ (List.mem_append_left _ (List.mem_append_left _ (List.mem_append_right _ (List.mem_of_getElem? (i := 27) rfl)))))) rfl
theorem ms_X8_mark : Cond.selects "LinkedUnits$Store" y_X8_mark y_X8_mark ∈ GW := sel_in (q := (y_X8_mark, 18)) (List.mem_append_left _ (List.mem_append_left _ (List.mem_append_left _ (List.mem_append_left _ (List.mem_append_right _ (List.mem_of_getElem? (i := 28) rfl)))))) rfl
theorem ms_X8_nameByte : Cond.selects "LinkedUnits$Store" y_X8_nameByte y_X8_nameByte ∈ GW := sel_in (q := (y_X8_nameByte, 18)) (List.mem_append_left _ (List.mem_append_left _ (List.mem_append_left _ (List.mem_append_left _ (List.mem_append_right _ (List.mem_of_getElem? (i := 29) rfl)))))) rfl
theorem ms_X8_nameStart : Cond.selects "LinkedUnits$Store" y_X8_nameStart y_X8_nameStart ∈ GW := sel_in (q := (y_X8_nameStart, 18)) (List.mem_append_left _ (List.mem_append_left _ (List.mem_append_left _ (List.mem_append_left _ (List.mem_append_right _ (List.mem_of_getElem? (i := 30) rfl)))))) rfl
theorem ms_X8_objectAt : Cond.selects "LinkedUnits$Store" y_X8_objectAt y_X8_objectAt ∈ GW := sel_in (q := (y_X8_objectAt, 18)) (List.mem_append_left _ (List.mem_append_left _ (List.mem_append_left _ (List.mem_append_left _ (List.mem_append_right _ (List.mem_of_getElem? (i := 31) rfl)))))) rfl
theorem ms_X8_symbolAt : Cond.selects "LinkedUnits$Store" y_X8_symbolAt y_X8_symbolAt ∈ GW := sel_in (q := (y_X8_symbolAt, 18)) (List.mem_append_left _ (List.mem_append_left _ (List.mem_append_left _ (List.mem_append_left _ (List.mem_append_right _ (List.mem_of_getElem? (i := 32) rfl)))))) rfl
theorem ms_X8_symbolsOf : Cond.selects "LinkedUnits$Store" y_X8_symbolsOf y_X8_symbolsOf ∈ GW := sel_in (q := (y_X8_symbolsOf, 18)) (List.mem_append_left _ (List.mem_append_left _ (List.mem_append_left _ (List.mem_append_left _ (List.mem_append_right _ (List.mem_of_getElem? (i := 33) rfl)))))) rfl
theorem ms_X9_begin : Cond.selects "LinkedUnits$Tape" y_X9_begin y_X9_begin ∈ GW := sel_in (q := (y_X9_begin, 5)) (List.mem_append_left _ (List.mem_append_left _ (List.mem_append_left _ (List.mem_append_left _ (List.mem_append_right _ (List.mem_of_getElem? (i := 34) rfl)))))) rfl
theorem ms_X9_byteAt : Cond.selects "LinkedUnits$Tape" y_X9_byteAt y_X9_byteAt ∈ GW := sel_in (q := (y_X9_byteAt, 5)) (List.mem_append_left _ (List.mem_append_left _ (List.mem_append_left _ (List.mem_append_left _ (List.mem_append_right _ (List.mem_of_getElem? (i := 35) rfl)))))) rfl
theorem ms_X9_give : Cond.selects "LinkedUnits$Tape" y_X9_give y_X9_give ∈ GW := sel_in (q := (y_X9_give, 5)) (List.mem_append_left _ (List.mem_append_left _ (List.mem_append_left _ (List.mem_append_left _ (List.mem_append_right _ (List.mem_of_getElem? (i := 36) rfl)))))) rfl
theorem ms_X9_next : Cond.selects "LinkedUnits$Tape" y_X9_next y_X9_next ∈ GW := sel_in (q := (y_X9_next, 5)) (List.mem_append_left _ (List.mem_append_left _ (List.mem_append_left _ (List.mem_append_left _ (List.mem_append_right _ (List.mem_of_getElem? (i := 37) rfl)))))) rfl
theorem ms_X9_print : Cond.selects "LinkedUnits$Tape" y_X9_print y_X9_print ∈ GW := sel_in (q := (y_X9_print, 5)) (List.mem_append_left _ (List.mem_append_left _ (List.mem_append_left _ (List.mem_append_left _ (List.mem_append_right _ (List.mem_of_getElem? (i := 38) rfl)))))) rfl
theorem ms_X9_put : Cond.selects "LinkedUnits$Tape" y_X9_put y_X9_put ∈ GW := sel_in (q := (y_X9_put, 5)) (List.mem_append_left _ (List.mem_append_left _ (List.mem_append_left _ (List.mem_append_left _ (List.mem_append_right _ (List.mem_of_getElem? (i := 39) rfl)))))) rfl
theorem ms_X9_useUp : Cond.selects "LinkedUnits$Tape" y_X9_useUp y_X9_useUp ∈ GW := sel_in (q := (y_X9_useUp, 5)) (List.mem_append_left _ (List.mem_append_left _ (List.mem_append_left _ (List.mem_append_right _ (List.mem_of_getElem? (i := 0) rfl))))) rfl
theorem ms_X10_add : Cond.selects "LinkedUnits$Tokens" y_X10_add y_X10_add ∈ GW := sel_in (q := (y_X10_add, 10)) (List.mem_append_left _ (List.mem_append_left _ (List.mem_append_left _ (List.mem_append_right _ (List.mem_of_getElem? (i := 1) rfl))))) rfl
theorem ms_X10_bad : Cond.selects "LinkedUnits$Tokens" y_X10_bad y_X10_bad ∈ GW := sel_in (q := (y_X10_bad, 10)) (List.mem_append_left _ (List.mem_append_left _ (List.mem_append_left _ (List.mem_append_right _ (List.mem_of_getElem? (i := 2) rfl))))) rfl
theorem ms_X10_byteAt : Cond.selects "LinkedUnits$Tokens" y_X10_byteAt y_X10_byteAt ∈ GW := sel_in (q := (y_X10_byteAt, 10)) (List.mem_append_left _ (List.mem_append_left _ (List.mem_append_left _ (List.mem_append_right _ (List.mem_of_getElem? (i := 3) rfl))))) rfl
theorem ms_X10_character : Cond.selects "LinkedUnits$Tokens" y_X10_character y_X10_character ∈ GW := sel_in (q := (y_X10_character, 10)) (List.mem_append_left _ (List.mem_append_left _ (List.mem_append_left _ (List.mem_append_right _ (List.mem_of_getElem? (i := 4) rfl))))) rfl
theorem ms_X10_codeAt : Cond.selects "LinkedUnits$Tokens" y_X10_codeAt y_X10_codeAt ∈ GW := sel_in (q := (y_X10_codeAt, 10)) (List.mem_append_left _ (List.mem_append_left _ (List.mem_append_left _ (List.mem_append_right _ (List.mem_of_getElem? (i := 5) rfl))))) rfl
theorem ms_X10_digits : Cond.selects "LinkedUnits$Tokens" y_X10_digits y_X10_digits ∈ GW := sel_in (q := (y_X10_digits, 10)) (List.mem_append_left _ (List.mem_append_left _ (List.mem_append_left _ (List.mem_append_right _ (List.mem_of_getElem? (i := 6) rfl))))) rfl
theorem ms_X10_isNext : Cond.selects "LinkedUnits$Tokens" y_X10_isNext y_X10_isNext ∈ GW := sel_in (q := (y_X10_isNext, 10)) (List.mem_append_left _ (List.mem_append_left _ (List.mem_append_left _ (List.mem_append_right _ (List.mem_of_getElem? (i := 7) rfl))))) rfl
theorem ms_X10_listed : Cond.selects "LinkedUnits$Tokens" y_X10_listed y_X10_listed ∈ GW := sel_in (q := (y_X10_listed, 10)) (List.mem_append_left _ (List.mem_append_left _ (List.mem_append_left _ (List.mem_append_right _ (List.mem_of_getElem? (i := 8) rfl))))) rfl
theorem ms_X10_readCodes : Cond.selects "LinkedUnits$Tokens" y_X10_readCodes y_X10_readCodes ∈ GW := sel_in (q := (y_X10_readCodes, 10)) (List.mem_append_left _ (List.mem_append_left _ (List.mem_append_left _ (List.mem_append_right _ (List.mem_of_getElem? (i := 9) rfl))))) rfl
theorem ms_X10_sameName : Cond.selects "LinkedUnits$Tokens" y_X10_sameName y_X10_sameName ∈ GW := sel_in (q := (y_X10_sameName, 10)) (List.mem_append_left _ (List.mem_append_left _ (List.mem_append_left _ (List.mem_append_right _ (List.mem_of_getElem? (i := 10) rfl))))) rfl
theorem ms_X10_scan : Cond.selects "LinkedUnits$Tokens" y_X10_scan y_X10_scan ∈ GW := sel_in (q := (y_X10_scan, 10)) (List.mem_append_left _ (List.mem_append_left _ (List.mem_append_left _ (List.mem_append_right _ (List.mem_of_getElem? (i := 11) rfl))))) rfl
theorem ms_X10_sign : Cond.selects "LinkedUnits$Tokens" y_X10_sign y_X10_sign ∈ GW := sel_in (q := (y_X10_sign, 10)) (List.mem_append_left _ (List.mem_append_left _ (List.mem_append_left _ (List.mem_append_right _ (List.mem_of_getElem? (i := 12) rfl))))) rfl
theorem ms_X10_sixteens : Cond.selects "LinkedUnits$Tokens" y_X10_sixteens y_X10_sixteens ∈ GW := sel_in (q := (y_X10_sixteens, 10)) (List.mem_append_left _ (List.mem_append_left _ (List.mem_append_left _ (List.mem_append_right _ (List.mem_of_getElem? (i := 13) rfl))))) rfl
theorem ms_X10_skipBlanks : Cond.selects "LinkedUnits$Tokens" y_X10_skipBlanks y_X10_skipBlanks ∈ GW := sel_in (q := (y_X10_skipBlanks, 10)) (List.mem_append_left _ (List.mem_append_left _ (List.mem_append_left _ (List.mem_append_right _ (List.mem_of_getElem? (i := 14) rfl))))) rfl
theorem ms_X10_skipComment : Cond.selects "LinkedUnits$Tokens" y_X10_skipComment y_X10_skipComment ∈ GW := sel_in (q := (y_X10_skipComment, 10)) (List.mem_append_left _ (List.mem_append_left _ (List.mem_append_left _ (List.mem_append_right _ (List.mem_of_getElem? (i := 15) rfl))))) rfl
theorem ms_X10_skipLine : Cond.selects "LinkedUnits$Tokens" y_X10_skipLine y_X10_skipLine ∈ GW := sel_in (q := (y_X10_skipLine, 10)) (List.mem_append_left _ (List.mem_append_left _ (List.mem_append_left _ (List.mem_append_right _ (List.mem_of_getElem? (i := 16) rfl))))) rfl
theorem ms_X10_string : Cond.selects "LinkedUnits$Tokens" y_X10_string y_X10_string ∈ GW := sel_in (q := (y_X10_string, 10)) (List.mem_append_left _ (List.mem_append_left _ (List.mem_append_left _ (List.mem_append_right _ (List.mem_of_getElem? (i := 17) rfl))))) rfl
theorem ms_X10_token : Cond.selects "LinkedUnits$Tokens" y_X10_token y_X10_token ∈ GW := sel_in (q := (y_X10_token, 10)) (List.mem_append_left _ (List.mem_append_left _ (List.mem_append_left _ (List.mem_append_right _ (List.mem_of_getElem? (i := 18) rfl))))) rfl
theorem ms_X10_widthAt : Cond.selects "LinkedUnits$Tokens" y_X10_widthAt y_X10_widthAt ∈ GW := sel_in (q := (y_X10_widthAt, 10)) (List.mem_append_left _ (List.mem_append_left _ (List.mem_append_left _ (List.mem_append_right _ (List.mem_of_getElem? (i := 19) rfl))))) rfl
theorem ms_X10_word : Cond.selects "LinkedUnits$Tokens" y_X10_word y_X10_word ∈ GW := sel_in (q := (y_X10_word, 10)) (List.mem_append_left _ (List.mem_append_left _ (List.mem_append_left _ (List.mem_append_right _ (List.mem_of_getElem? (i := 20) rfl))))) rfl
theorem ms_X11_begin : Cond.selects "LinkedUnits$Unit" y_X11_begin y_X11_begin ∈ GW := sel_in (q := (y_X11_begin, 19)) (List.mem_append_left _ (List.mem_append_left _ (List.mem_append_left _ (List.mem_append_right _ (List.mem_of_getElem? (i := 21) rfl))))) rfl
theorem ms_X11_close : Cond.selects "LinkedUnits$Unit" y_X11_close y_X11_close ∈ GW := sel_in (q := (y_X11_close, 19)) (List.mem_append_left _ (List.mem_append_left _ (List.mem_append_left _ (List.mem_append_right _ (List.mem_of_getElem? (i := 22) rfl))))) rfl
theorem ms_X11_declareLocal : Cond.selects "LinkedUnits$Unit" y_X11_declareLocal y_X11_declareLocal ∈ GW := sel_in (q := (y_X11_declareLocal, 19)) (List.mem_append_left _ (List.mem_append_left _ (List.mem_append_left _ (List.mem_append_right _ (List.mem_of_getElem? (i := 23) rfl))))) rfl
theorem ms_X11_declareOuter : Cond.selects "LinkedUnits$Unit" y_X11_declareOuter y_X11_declareOuter ∈ GW := sel_in (q := (y_X11_declareOuter, 19)) (List.mem_append_left _ (List.mem_append_left _ (List.mem_append_left _ (List.mem_append_right _ (List.mem_of_getElem? (i := 24) rfl))))) rfl
theorem ms_X11_enter : Cond.selects "LinkedUnits$Unit" y_X11_enter y_X11_enter ∈ GW := sel_in (q := (y_X11_enter, 19)) (List.mem_append_left _ (List.mem_append_left _ (List.mem_append_left _ (List.mem_append_right _ (List.mem_of_getElem? (i := 25) rfl))))) rfl
theorem ms_X11_fail : Cond.selects "LinkedUnits$Unit" y_X11_fail y_X11_fail ∈ GW := sel_in (q := (y_X11_fail, 19)) (List.mem_append_left _ (List.mem_append_left _ (List.mem_append_left _ (List.mem_append_right _ (List.mem_of_getElem? (i := 26) rfl))))) rfl
theorem ms_X11_finish : Cond.selects "LinkedUnits$Unit" y_X11_finish y_X11_finish ∈ GW := sel_in (q := (y_X11_finish, 19)) (List.mem_append_left _ (List.mem_append_left _ (List.mem_append_left _ (List.mem_append_right _ (List.mem_of_getElem? (i := 27) rfl))))) rfl
theorem ms_X11_leave : Cond.selects "LinkedUnits$Unit" y_X11_leave y_X11_leave ∈ GW := sel_in (q := (y_X11_leave, 19)) (List.mem_append_left _ (List.mem_append_left _ (List.mem_append_left _ (List.mem_append_right _ (List.mem_of_getElem? (i := 28) rfl))))) rfl
theorem ms_X11_localFrom : Cond.selects "LinkedUnits$Unit" y_X11_localFrom y_X11_localFrom ∈ GW := sel_in (q := (y_X11_localFrom, 19)) (List.mem_append_left _ (List.mem_append_left _ (List.mem_append_left _ (List.mem_append_right _ (List.mem_of_getElem? (i := 29) rfl))))) rfl
theorem ms_X11_mentionCall : Cond.selects "LinkedUnits$Unit" y_X11_mentionCall y_X11_mentionCall ∈ GW := sel_in (q := (y_X11_mentionCall, 19)) (List.mem_append_left _ (List.mem_append_left _ (List.mem_append_left _ (List.mem_append_right _ (List.mem_of_getElem? (i := 30) rfl))))) rfl
theorem ms_X11_open : Cond.selects "LinkedUnits$Unit" y_X11_open y_X11_open ∈ GW := sel_in (q := (y_X11_open, 19)) (List.mem_append_left _ (List.mem_append_left _ (List.mem_append_left _ (List.mem_append_right _ (List.mem_of_getElem? (i := 31) rfl))))) rfl
theorem ms_X11_outerOf : Cond.selects "LinkedUnits$Unit" y_X11_outerOf y_X11_outerOf ∈ GW := sel_in (q := (y_X11_outerOf, 19)) (List.mem_append_left _ (List.mem_append_left _ (List.mem_append_left _ (List.mem_append_right _ (List.mem_of_getElem? (i := 32) rfl))))) rfl
theorem ms_X11_scopeStart : Cond.selects "LinkedUnits$Unit" y_X11_scopeStart y_X11_scopeStart ∈ GW := sel_in (q := (y_X11_scopeStart, 19)) (List.mem_append_left _ (List.mem_append_left _ (List.mem_append_left _ (List.mem_append_right _ (List.mem_of_getElem? (i := 33) rfl))))) rfl
theorem ms_X14_accept : Cond.selects "LinkedUnitsModel" y_X14_accept y_X14_accept ∈ GW := sel_in (q := (y_X14_accept, 100)) (List.mem_append_left _ (List.mem_append_left _ (List.mem_append_left _ (List.mem_append_right _ (List.mem_of_getElem? (i := 34) rfl))))) rfl
theorem ms_X14_aim : Cond.selects "LinkedUnitsModel" y_X14_aim y_X14_aim ∈ GW := sel_in (q := (y_X14_aim, 100)) (List.mem_append_left _ (List.mem_append_left _ (List.mem_append_left _ (List.mem_append_right _ (List.mem_of_getElem? (i := 35) rfl))))) rfl
theorem ms_X14_aimAll : Cond.selects "LinkedUnitsModel" y_X14_aimAll y_X14_aimAll ∈ GW := sel_in (q := (y_X14_aimAll, 100)) (List.mem_append_left _ (List.mem_append_left _ (List.mem_append_left _ (List.mem_append_right _ (List.mem_of_getElem? (i := 36) rfl))))) rfl
theorem ms_X14_aimOf : Cond.selects "LinkedUnitsModel" y_X14_aimOf y_X14_aimOf ∈ GW := sel_in (q := (y_X14_aimOf, 100)) (List.mem_append_left _ (List.mem_append_left _ (List.mem_append_left _ (List.mem_append_right _ (List.mem_of_getElem? (i := 37) rfl))))) rfl
theorem ms_X14_among : Cond.selects "LinkedUnitsModel" y_X14_among y_X14_among ∈ GW := sel_in (q := (y_X14_among, 100)) (List.mem_append_left _ (List.mem_append_left _ (List.mem_append_left _ (List.mem_append_right _ (List.mem_of_getElem? (i := 38) rfl))))) rfl
theorem ms_X14_bad : Cond.selects "LinkedUnitsModel" y_X14_bad y_X14_bad ∈ GW := sel_in (q := (y_X14_bad, 100)) (List.mem_append_left _ (List.mem_append_left _ (List.mem_append_left _ (List.mem_append_right _ (List.mem_of_getElem? (i := 39) rfl))))) rfl
theorem ms_X14_behind : Cond.selects "LinkedUnitsModel" y_X14_behind y_X14_behind ∈ GW := sel_in (q := (y_X14_behind, 100)) (List.mem_append_left _ (List.mem_append_left _ (List.mem_append_right _ (List.mem_of_getElem? (i := 0) rfl)))) rfl
theorem ms_X14_binary : Cond.selects "LinkedUnitsModel" y_X14_binary y_X14_binary ∈ GW := sel_in (q := (y_X14_binary, 100)) (List.mem_append_left _ (List.mem_append_left _ (List.mem_append_right _ (List.mem_of_getElem? (i := 1) rfl)))) rfl
theorem ms_X14_block : Cond.selects "LinkedUnitsModel" y_X14_block y_X14_block ∈ GW := sel_in (q := (y_X14_block, 100)) (List.mem_append_left _ (List.mem_append_left _ (List.mem_append_right _ (List.mem_of_getElem? (i := 2) rfl)))) rfl
theorem ms_X14_bodiless : Cond.selects "LinkedUnitsModel" y_X14_bodiless y_X14_bodiless ∈ GW := sel_in (q := (y_X14_bodiless, 100)) (List.mem_append_left _ (List.mem_append_left _ (List.mem_append_right _ (List.mem_of_getElem? (i := 3) rfl)))) rfl
theorem ms_X14_bodyOf : Cond.selects "LinkedUnitsModel" y_X14_bodyOf y_X14_bodyOf ∈ GW := sel_in (q := (y_X14_bodyOf, 100)) (List.mem_append_left _ (List.mem_append_left _ (List.mem_append_right _ (List.mem_of_getElem? (i := 4) rfl)))) rfl
theorem ms_X14_braces : Cond.selects "LinkedUnitsModel" y_X14_braces y_X14_braces ∈ GW := sel_in (q := (y_X14_braces, 100)) (List.mem_append_left _ (List.mem_append_left _ (List.mem_append_right _ (List.mem_of_getElem? (i := 5) rfl)))) rfl
theorem ms_X14_call_0 : Cond.selects "LinkedUnitsModel" y_X14_call_0 y_X14_call_0 ∈ GW := sel_in (q := (y_X14_call_0, 100)) (List.mem_append_left _ (List.mem_append_left _ (List.mem_append_right _ (List.mem_of_getElem? (i := 6) rfl)))) rfl
theorem ms_X14_call_1 : Cond.selects "LinkedUnitsModel" y_X14_call_1 y_X14_call_1 ∈ GW := sel_in (q := (y_X14_call_1, 100)) (List.mem_append_left _ (List.mem_append_left _ (List.mem_append_right _ (List.mem_of_getElem? (i := 7) rfl)))) rfl
theorem ms_X14_choice : Cond.selects "LinkedUnitsModel" y_X14_choice y_X14_choice ∈ GW := sel_in (q := (y_X14_choice, 100)) (List.mem_append_left _ (List.mem_append_left _ (List.mem_append_right _ (List.mem_of_getElem? (i := 8) rfl)))) rfl
theorem ms_X14_clear : Cond.selects "LinkedUnitsModel" y_X14_clear y_X14_clear ∈ GW := sel_in (q := (y_X14_clear, 100)) (List.mem_append_left _ (List.mem_append_left _ (List.mem_append_right _ (List.mem_of_getElem? (i := 9) rfl)))) rfl
theorem ms_X14_close : Cond.selects "LinkedUnitsModel" y_X14_close y_X14_close ∈ GW := sel_in (q := (y_X14_close, 100)) (List.mem_append_left _ (List.mem_append_left _ (List.mem_append_right _ (List.mem_of_getElem? (i := 10) rfl)))) rfl
theorem ms_X14_code : Cond.selects "LinkedUnitsModel" y_X14_code y_X14_code ∈ GW := sel_in (q := (y_X14_code, 100)) (List.mem_append_left _ (List.mem_append_left _ (List.mem_append_right _ (List.mem_of_getElem? (i := 11) rfl)))) rfl
theorem ms_X14_codeEnd : Cond.selects "LinkedUnitsModel" y_X14_codeEnd y_X14_codeEnd ∈ GW := sel_in (q := (y_X14_codeEnd, 100)) (List.mem_append_left _ (List.mem_append_left _ (List.mem_append_right _ (List.mem_of_getElem? (i := 12) rfl)))) rfl
theorem ms_X14_codes : Cond.selects "LinkedUnitsModel" y_X14_codes y_X14_codes ∈ GW := sel_in (q := (y_X14_codes, 100)) (List.mem_append_left _ (List.mem_append_left _ (List.mem_append_right _ (List.mem_of_getElem? (i := 13) rfl)))) rfl
theorem ms_X14_condition : Cond.selects "LinkedUnitsModel" y_X14_condition y_X14_condition ∈ GW := sel_in (q := (y_X14_condition, 100)) (List.mem_append_left _ (List.mem_append_left _ (List.mem_append_right _ (List.mem_of_getElem? (i := 14) rfl)))) rfl
theorem ms_X14_cut : Cond.selects "LinkedUnitsModel" y_X14_cut y_X14_cut ∈ GW := sel_in (q := (y_X14_cut, 100)) (List.mem_append_left _ (List.mem_append_left _ (List.mem_append_right _ (List.mem_of_getElem? (i := 15) rfl)))) rfl
theorem ms_X14_decided : Cond.selects "LinkedUnitsModel" y_X14_decided y_X14_decided ∈ GW := sel_in (q := (y_X14_decided, 100)) (List.mem_append_left _ (List.mem_append_left _ (List.mem_append_right _ (List.mem_of_getElem? (i := 16) rfl)))) rfl
theorem ms_X14_declare : Cond.selects "LinkedUnitsModel" y_X14_declare y_X14_declare ∈ GW := sel_in (q := (y_X14_declare, 100)) (List.mem_append_left _ (List.mem_append_left _ (List.mem_append_right _ (List.mem_of_getElem? (i := 17) rfl)))) rfl
theorem ms_X14_declareLocal : Cond.selects "LinkedUnitsModel" y_X14_declareLocal y_X14_declareLocal ∈ GW := sel_in (q := (y_X14_declareLocal, 100)) (List.mem_append_left _ (List.mem_append_left _ (List.mem_append_right _ (List.mem_of_getElem? (i := 18) rfl)))) rfl
theorem ms_X14_deeper : Cond.selects "LinkedUnitsModel" y_X14_deeper y_X14_deeper ∈ GW := sel_in (q := (y_X14_deeper, 100)) (List.mem_append_left _ (List.mem_append_left _ (List.mem_append_right _ (List.mem_of_getElem? (i := 19) rfl)))) rfl
theorem ms_X14_doStatement : Cond.selects "LinkedUnitsModel" y_X14_doStatement y_X14_doStatement ∈ GW := sel_in (q := (y_X14_doStatement, 100)) (List.mem_append_left _ (List.mem_append_left _ (List.mem_append_right _ (List.mem_of_getElem? (i := 20) rfl)))) rfl
theorem ms_X14_emit : Cond.selects "LinkedUnitsModel" y_X14_emit y_X14_emit ∈ GW := sel_in (q := (y_X14_emit, 100)) (List.mem_append_left _ (List.mem_append_left _ (List.mem_append_right _ (List.mem_of_getElem? (i := 21) rfl)))) rfl
theorem ms_X14_ends : Cond.selects "LinkedUnitsModel" y_X14_ends y_X14_ends ∈ GW := sel_in (q := (y_X14_ends, 100)) (List.mem_append_left _ (List.mem_append_left _ (List.mem_append_right _ (List.mem_of_getElem? (i := 22) rfl)))) rfl
theorem ms_X14_enter : Cond.selects "LinkedUnitsModel" y_X14_enter y_X14_enter ∈ GW := sel_in (q := (y_X14_enter, 100)) (List.mem_append_left _ (List.mem_append_left _ (List.mem_append_right _ (List.mem_of_getElem? (i := 23) rfl)))) rfl
theorem ms_X14_entity : Cond.selects "LinkedUnitsModel" y_X14_entity y_X14_entity ∈ GW := sel_in (q := (y_X14_entity, 100)) (List.mem_append_left _ (List.mem_append_left _ (List.mem_append_right _ (List.mem_of_getElem? (i := 24) rfl)))) rfl
theorem ms_X14_expect : Cond.selects "LinkedUnitsModel" y_X14_expect y_X14_expect ∈ GW := sel_in (q := (y_X14_expect, 100)) (List.mem_append_left _ (List.mem_append_left _ (List.mem_append_right _ (List.mem_of_getElem? (i := 25) rfl)))) rfl
theorem ms_X14_expression : Cond.selects "LinkedUnitsModel" y_X14_expression y_X14_expression ∈ GW := sel_in (q := (y_X14_expression, 100)) (List.mem_append_left _ (List.mem_append_left _ (List.mem_append_right _ (List.mem_of_getElem? (i := 26) rfl)))) rfl
theorem ms_X14_fill : Cond.selects "LinkedUnitsModel" y_X14_fill y_X14_fill ∈ GW := sel_in (q := (y_X14_fill, 100)) (List.mem_append_left _ (List.mem_append_left _ (List.mem_append_right _ (List.mem_of_getElem? (i := 27) rfl)))) rfl
theorem ms_X14_find : Cond.selects "LinkedUnitsModel" y_X14_find y_X14_find ∈ GW := sel_in (q := (y_X14_find, 100)) (List.mem_append_left _ (List.mem_append_left _ (List.mem_append_right _ (List.mem_of_getElem? (i := 28) rfl)))) rfl
theorem ms_X14_forStatement : Cond.selects "LinkedUnitsModel" y_X14_forStatement y_X14_forStatement ∈ GW := sel_in (q := (y_X14_forStatement, 100)) (List.mem_append_left _ (List.mem_append_left _ (List.mem_append_right _ (List.mem_of_getElem? (i := 29) rfl)))) rfl
theorem ms_X14_function : Cond.selects "LinkedUnitsModel" y_X14_function y_X14_function ∈ GW := sel_in (q := (y_X14_function, 100)) (List.mem_append_left _ (List.mem_append_left _ (List.mem_append_right _ (List.mem_of_getElem? (i := 30) rfl)))) rfl
theorem ms_X14_getLocal : Cond.selects "LinkedUnitsModel" y_X14_getLocal y_X14_getLocal ∈ GW := sel_in (q := (y_X14_getLocal, 100)) (List.mem_append_left _ (List.mem_append_left _ (List.mem_append_right _ (List.mem_of_getElem? (i := 31) rfl)))) rfl
theorem ms_X14_globalName : Cond.selects "LinkedUnitsModel" y_X14_globalName y_X14_globalName ∈ GW := sel_in (q := (y_X14_globalName, 100)) (List.mem_append_left _ (List.mem_append_left _ (List.mem_append_right _ (List.mem_of_getElem? (i := 32) rfl)))) rfl
theorem ms_X14_hasLibraryType : Cond.selects "LinkedUnitsModel" y_X14_hasLibraryType y_X14_hasLibraryType ∈ GW := sel_in (q := (y_X14_hasLibraryType, 100)) (List.mem_append_left _ (List.mem_append_left _ (List.mem_append_right _ (List.mem_of_getElem? (i := 33) rfl)))) rfl
theorem ms_X14_hasType : Cond.selects "LinkedUnitsModel" y_X14_hasType y_X14_hasType ∈ GW := sel_in (q := (y_X14_hasType, 100)) (List.mem_append_left _ (List.mem_append_left _ (List.mem_append_right _ (List.mem_of_getElem? (i := 34) rfl)))) rfl
theorem ms_X14_head : Cond.selects "LinkedUnitsModel" y_X14_head y_X14_head ∈ GW := sel_in (q := (y_X14_head, 100)) (List.mem_append_left _ (List.mem_append_left _ (List.mem_append_right _ (List.mem_of_getElem? (i := 35) rfl)))) rfl
theorem ms_X14_hold : Cond.selects "LinkedUnitsModel" y_X14_hold y_X14_hold ∈ GW := sel_in (q := (y_X14_hold, 100)) (List.mem_append_left _ (List.mem_append_left _ (List.mem_append_right _ (List.mem_of_getElem? (i := 36) rfl)))) rfl
theorem ms_X14_holds : Cond.selects "LinkedUnitsModel" y_X14_holds y_X14_holds ∈ GW := sel_in (q := (y_X14_holds, 100)) (List.mem_append_left _ (List.mem_append_left _ (List.mem_append_right _ (List.mem_of_getElem? (i := 37) rfl)))) rfl
theorem ms_X14_init : Cond.selects "LinkedUnitsModel" y_X14_init y_X14_init ∈ GW := sel_in (q := (y_X14_init, 100)) (List.mem_append_left _ (List.mem_append_left _ (List.mem_append_right _ (List.mem_of_getElem? (i := 38) rfl)))) rfl
theorem ms_X14_inner : Cond.selects "LinkedUnitsModel" y_X14_inner y_X14_inner ∈ GW := sel_in (q := (y_X14_inner, 100)) (List.mem_append_left _ (List.mem_append_left _ (List.mem_append_right _ (List.mem_of_getElem? (i := 39) rfl)))) rfl
theorem ms_X14_is : Cond.selects "LinkedUnitsModel" y_X14_is y_X14_is ∈ GW := sel_in (q := (y_X14_is, 100)) (List.mem_append_left _ (List.mem_append_right _ (List.mem_of_getElem? (i := 0) rfl))) rfl
theorem ms_X14_isAlike : Cond.selects "LinkedUnitsModel" y_X14_isAlike y_X14_isAlike ∈ GW := sel_in (q := (y_X14_isAlike, 100)) (List.mem_append_left _ (List.mem_append_right _ (List.mem_of_getElem? (i := 1) rfl))) rfl
theorem ms_X14_isFault : Cond.selects "LinkedUnitsModel" y_X14_isFault y_X14_isFault ∈ GW := sel_in (q := (y_X14_isFault, 100)) (List.mem_append_left _ (List.mem_append_right _ (List.mem_of_getElem? (i := 2) rfl))) rfl
theorem ms_X14_isHeldHere : Cond.selects "LinkedUnitsModel" y_X14_isHeldHere y_X14_isHeldHere ∈ GW := sel_in (q := (y_X14_isHeldHere, 100)) (List.mem_append_left _ (List.mem_append_right _ (List.mem_of_getElem? (i := 3) rfl))) rfl
theorem ms_X14_isInitial : Cond.selects "LinkedUnitsModel" y_X14_isInitial y_X14_isInitial ∈ GW := sel_in (q := (y_X14_isInitial, 100)) (List.mem_append_left _ (List.mem_append_right _ (List.mem_of_getElem? (i := 4) rfl))) rfl
theorem ms_X14_isNamed : Cond.selects "LinkedUnitsModel" y_X14_isNamed y_X14_isNamed ∈ GW := sel_in (q := (y_X14_isNamed, 100)) (List.mem_append_left _ (List.mem_append_right _ (List.mem_of_getElem? (i := 5) rfl))) rfl
theorem ms_X14_isObject : Cond.selects "LinkedUnitsModel" y_X14_isObject y_X14_isObject ∈ GW := sel_in (q := (y_X14_isObject, 100)) (List.mem_append_left _ (List.mem_append_right _ (List.mem_of_getElem? (i := 6) rfl))) rfl
theorem ms_X14_isSame : Cond.selects "LinkedUnitsModel" y_X14_isSame y_X14_isSame ∈ GW := sel_in (q := (y_X14_isSame, 100)) (List.mem_append_left _ (List.mem_append_right _ (List.mem_of_getElem? (i := 7) rfl))) rfl
theorem ms_X14_isSameHead : Cond.selects "LinkedUnitsModel" y_X14_isSameHead y_X14_isSameHead ∈ GW := sel_in (q := (y_X14_isSameHead, 100)) (List.mem_append_left _ (List.mem_append_right _ (List.mem_of_getElem? (i := 8) rfl))) rfl
theorem ms_X14_isSymbol : Cond.selects "LinkedUnitsModel" y_X14_isSymbol y_X14_isSymbol ∈ GW := sel_in (q := (y_X14_isSymbol, 100)) (List.mem_append_left _ (List.mem_append_right _ (List.mem_of_getElem? (i := 9) rfl))) rfl
theorem ms_X14_isTray : Cond.selects "LinkedUnitsModel" y_X14_isTray y_X14_isTray ∈ GW := sel_in (q := (y_X14_isTray, 100)) (List.mem_append_left _ (List.mem_append_right _ (List.mem_of_getElem? (i := 10) rfl))) rfl
theorem ms_X14_isWord : Cond.selects "LinkedUnitsModel" y_X14_isWord y_X14_isWord ∈ GW := sel_in (q := (y_X14_isWord, 100)) (List.mem_append_left _ (List.mem_append_right _ (List.mem_of_getElem? (i := 11) rfl))) rfl
theorem ms_X14_item : Cond.selects "LinkedUnitsModel" y_X14_item y_X14_item ∈ GW := sel_in (q := (y_X14_item, 100)) (List.mem_append_left _ (List.mem_append_right _ (List.mem_of_getElem? (i := 12) rfl))) rfl
theorem ms_X14_lay : Cond.selects "LinkedUnitsModel" y_X14_lay y_X14_lay ∈ GW := sel_in (q := (y_X14_lay, 100)) (List.mem_append_left _ (List.mem_append_right _ (List.mem_of_getElem? (i := 13) rfl))) rfl
theorem ms_X14_layAll : Cond.selects "LinkedUnitsModel" y_X14_layAll y_X14_layAll ∈ GW := sel_in (q := (y_X14_layAll, 100)) (List.mem_append_left _ (List.mem_append_right _ (List.mem_of_getElem? (i := 14) rfl))) rfl
theorem ms_X14_leave : Cond.selects "LinkedUnitsModel" y_X14_leave y_X14_leave ∈ GW := sel_in (q := (y_X14_leave, 100)) (List.mem_append_left _ (List.mem_append_right _ (List.mem_of_getElem? (i := 15) rfl))) rfl
theorem ms_X14_library_0 : Cond.selects "LinkedUnitsModel" y_X14_library_0 y_X14_library_0 ∈ GW := sel_in (q := (y_X14_library_0, 100)) (List.mem_append_left _ (List.mem_append_right _ (List.mem_of_getElem? (i := 16) rfl))) rfl
theorem ms_X14_library_1 : Cond.selects "LinkedUnitsModel" y_X14_library_1 y_X14_library_1 ∈ GW := sel_in (q := (y_X14_library_1, 100)) (List.mem_append_left _ (List.mem_append_right _ (List.mem_of_getElem? (i := 17) rfl))) rfl
theorem ms_X14_lineEnd : Cond.selects "LinkedUnitsModel" y_X14_lineEnd y_X14_lineEnd ∈ GW := sel_in (q := (y_X14_lineEnd, 100)) (List.mem_append_left _ (List.mem_append_right _ (List.mem_of_getElem? (i := 18) rfl))) rfl
theorem ms_X14_local : Cond.selects "LinkedUnitsModel" y_X14_local y_X14_local ∈ GW := sel_in (q := (y_X14_local, 100)) (List.mem_append_left _ (List.mem_append_right _ (List.mem_of_getElem? (i := 19) rfl))) rfl
theorem ms_X14_localName : Cond.selects "LinkedUnitsModel" y_X14_localName y_X14_localName ∈ GW := sel_in (q := (y_X14_localName, 100)) (List.mem_append_left _ (List.mem_append_right _ (List.mem_of_getElem? (i := 20) rfl))) rfl
theorem ms_X14_look : Cond.selects "LinkedUnitsModel" y_X14_look y_X14_look ∈ GW := sel_in (q := (y_X14_look, 100)) (List.mem_append_left _ (List.mem_append_right _ (List.mem_of_getElem? (i := 21) rfl))) rfl
theorem ms_X14_loop : Cond.selects "LinkedUnitsModel" y_X14_loop y_X14_loop ∈ GW := sel_in (q := (y_X14_loop, 100)) (List.mem_append_left _ (List.mem_append_right _ (List.mem_of_getElem? (i := 22) rfl))) rfl
theorem ms_X14_made : Cond.selects "LinkedUnitsModel" y_X14_made y_X14_made ∈ GW := sel_in (q := (y_X14_made, 100)) (List.mem_append_left _ (List.mem_append_right _ (List.mem_of_getElem? (i := 23) rfl))) rfl
theorem ms_X14_mainOf : Cond.selects "LinkedUnitsModel" y_X14_mainOf y_X14_mainOf ∈ GW := sel_in (q := (y_X14_mainOf, 100)) (List.mem_append_left _ (List.mem_append_right _ (List.mem_of_getElem? (i := 24) rfl))) rfl
theorem ms_X14_must : Cond.selects "LinkedUnitsModel" y_X14_must y_X14_must ∈ GW := sel_in (q := (y_X14_must, 100)) (List.mem_append_left _ (List.mem_append_right _ (List.mem_of_getElem? (i := 25) rfl))) rfl
theorem ms_X14_nameEnd : Cond.selects "LinkedUnitsModel" y_X14_nameEnd y_X14_nameEnd ∈ GW := sel_in (q := (y_X14_nameEnd, 100)) (List.mem_append_left _ (List.mem_append_right _ (List.mem_of_getElem? (i := 26) rfl))) rfl
theorem ms_X14_named : Cond.selects "LinkedUnitsModel" y_X14_named y_X14_named ∈ GW := sel_in (q := (y_X14_named, 100)) (List.mem_append_left _ (List.mem_append_right _ (List.mem_of_getElem? (i := 27) rfl))) rfl
theorem ms_X14_numberEnd : Cond.selects "LinkedUnitsModel" y_X14_numberEnd y_X14_numberEnd ∈ GW := sel_in (q := (y_X14_numberEnd, 100)) (List.mem_append_left _ (List.mem_append_right _ (List.mem_of_getElem? (i := 28) rfl))) rfl
theorem ms_X14_one_0 : Cond.selects "LinkedUnitsModel" y_X14_one_0 y_X14_one_0 ∈ GW := sel_in (q := (y_X14_one_0, 100)) (List.mem_append_left _ (List.mem_append_right _ (List.mem_of_getElem? (i := 29) rfl))) rfl
theorem ms_X14_one_1 : Cond.selects "LinkedUnitsModel" y_X14_one_1 y_X14_one_1 ∈ GW := sel_in (q := (y_X14_one_1, 100)) (List.mem_append_left _ (List.mem_append_right _ (List.mem_of_getElem? (i := 30) rfl))) rfl
theorem ms_X14_one_2 : Cond.selects "LinkedUnitsModel" y_X14_one_2 y_X14_one_2 ∈ GW := sel_in (q := (y_X14_one_2, 100)) (List.mem_append_left _ (List.mem_append_right _ (List.mem_of_getElem? (i := 31) rfl))) rfl
theorem ms_X14_oneInitial : Cond.selects "LinkedUnitsModel" y_X14_oneInitial y_X14_oneInitial ∈ GW := sel_in (q := (y_X14_oneInitial, 100)) (List.mem_append_left _ (List.mem_append_right _ (List.mem_of_getElem? (i := 32) rfl))) rfl
theorem ms_X14_open : Cond.selects "LinkedUnitsModel" y_X14_open y_X14_open ∈ GW := sel_in (q := (y_X14_open, 100)) (List.mem_append_left _ (List.mem_append_right _ (List.mem_of_getElem? (i := 33) rfl))) rfl
theorem ms_X14_parametersOf : Cond.selects "LinkedUnitsModel" y_X14_parametersOf y_X14_parametersOf ∈ GW := sel_in (q := (y_X14_parametersOf, 100)) (List.mem_append_left _ (List.mem_append_right _ (List.mem_of_getElem? (i := 34) rfl))) rfl
theorem ms_X14_plain : Cond.selects "LinkedUnitsModel" y_X14_plain y_X14_plain ∈ GW := sel_in (q := (y_X14_plain, 100)) (List.mem_append_left _ (List.mem_append_right _ (List.mem_of_getElem? (i := 35) rfl))) rfl
theorem ms_X14_pointed : Cond.selects "LinkedUnitsModel" y_X14_pointed y_X14_pointed ∈ GW := sel_in (q := (y_X14_pointed, 100)) (List.mem_append_left _ (List.mem_append_right _ (List.mem_of_getElem? (i := 36) rfl))) rfl
theorem ms_X14_pointedTo : Cond.selects "LinkedUnitsModel" y_X14_pointedTo y_X14_pointedTo ∈ GW := sel_in (q := (y_X14_pointedTo, 100)) (List.mem_append_left _ (List.mem_append_right _ (List.mem_of_getElem? (i := 37) rfl))) rfl
theorem ms_X14_pop : Cond.selects "LinkedUnitsModel" y_X14_pop y_X14_pop ∈ GW := sel_in (q := (y_X14_pop, 100)) (List.mem_append_left _ (List.mem_append_right _ (List.mem_of_getElem? (i := 38) rfl))) rfl
theorem ms_X14_primary : Cond.selects "LinkedUnitsModel" y_X14_primary y_X14_primary ∈ GW := sel_in (q := (y_X14_primary, 100)) (List.mem_append_left _ (List.mem_append_right _ (List.mem_of_getElem? (i := 39) rfl))) rfl
theorem ms_X14_print : Cond.selects "LinkedUnitsModel" y_X14_print y_X14_print ∈ GW := sel_in (q := (y_X14_print, 100)) (List.mem_append_right _ (List.mem_of_getElem? (i := 0) rfl)) rfl
theorem ms_X14_push : Cond.selects "LinkedUnitsModel" y_X14_push y_X14_push ∈ GW := sel_in (q := (y_X14_push, 100)) (List.mem_append_right _ (List.mem_of_getElem? (i := 1) rfl)) rfl
theorem ms_X14_put_0 : Cond.selects "LinkedUnitsModel" y_X14_put_0 y_X14_put_0 ∈ GW := sel_in (q := (y_X14_put_0, 100)) (List.mem_append_right _ (List.mem_of_getElem? (i := 2) rfl)) rfl
theorem ms_X14_put_1 : Cond.selects "LinkedUnitsModel" y_X14_put_1 y_X14_put_1 ∈ GW := sel_in (q := (y_X14_put_1, 100)) (List.mem_append_right _ (List.mem_of_getElem? (i := 3) rfl)) rfl
theorem ms_X14_put_2 : Cond.selects "LinkedUnitsModel" y_X14_put_2 y_X14_put_2 ∈ GW := sel_in (q := (y_X14_put_2, 100)) (List.mem_append_right _ (List.mem_of_getElem? (i := 4) rfl)) rfl
theorem ms_X14_read_0 : Cond.selects "LinkedUnitsModel" y_X14_read_0 y_X14_read_0 ∈ GW := sel_in (q := (y_X14_read_0, 100)) (List.mem_append_right _ (List.mem_of_getElem? (i := 5) rfl)) rfl
theorem ms_X14_read_1 : Cond.selects "LinkedUnitsModel" y_X14_read_1 y_X14_read_1 ∈ GW := sel_in (q := (y_X14_read_1, 100)) (List.mem_append_right _ (List.mem_of_getElem? (i := 6) rfl)) rfl
theorem ms_X14_read_2 : Cond.selects "LinkedUnitsModel" y_X14_read_2 y_X14_read_2 ∈ GW := sel_in (q := (y_X14_read_2, 100)) (List.mem_append_right _ (List.mem_of_getElem? (i := 7) rfl)) rfl
theorem ms_X14_remarkEnd : Cond.selects "LinkedUnitsModel" y_X14_remarkEnd y_X14_remarkEnd ∈ GW := sel_in (q := (y_X14_remarkEnd, 100)) (List.mem_append_right _ (List.mem_of_getElem? (i := 8) rfl)) rfl
theorem ms_X14_returnStatement : Cond.selects "LinkedUnitsModel" y_X14_returnStatement y_X14_returnStatement ∈ GW := sel_in (q := (y_X14_returnStatement, 100)) (List.mem_append_right _ (List.mem_of_getElem? (i := 9) rfl)) rfl
theorem ms_X14_rowInitial : Cond.selects "LinkedUnitsModel" y_X14_rowInitial y_X14_rowInitial ∈ GW := sel_in (q := (y_X14_rowInitial, 100)) (List.mem_append_right _ (List.mem_of_getElem? (i := 10) rfl)) rfl
theorem ms_X14_rowOf : Cond.selects "LinkedUnitsModel" y_X14_rowOf y_X14_rowOf ∈ GW := sel_in (q := (y_X14_rowOf, 100)) (List.mem_append_right _ (List.mem_of_getElem? (i := 11) rfl)) rfl
theorem ms_X14_setLocal : Cond.selects "LinkedUnitsModel" y_X14_setLocal y_X14_setLocal ∈ GW := sel_in (q := (y_X14_setLocal, 100)) (List.mem_append_right _ (List.mem_of_getElem? (i := 12) rfl)) rfl
theorem ms_X14_sign : Cond.selects "LinkedUnitsModel" y_X14_sign y_X14_sign ∈ GW := sel_in (q := (y_X14_sign, 100)) (List.mem_append_right _ (List.mem_of_getElem? (i := 13) rfl)) rfl
theorem ms_X14_signEnd : Cond.selects "LinkedUnitsModel" y_X14_signEnd y_X14_signEnd ∈ GW := sel_in (q := (y_X14_signEnd, 100)) (List.mem_append_right _ (List.mem_of_getElem? (i := 14) rfl)) rfl
theorem ms_X14_sizeAt : Cond.selects "LinkedUnitsModel" y_X14_sizeAt y_X14_sizeAt ∈ GW := sel_in (q := (y_X14_sizeAt, 100)) (List.mem_append_right _ (List.mem_of_getElem? (i := 15) rfl)) rfl
theorem ms_X14_stars : Cond.selects "LinkedUnitsModel" y_X14_stars y_X14_stars ∈ GW := sel_in (q := (y_X14_stars, 100)) (List.mem_append_right _ (List.mem_of_getElem? (i := 16) rfl)) rfl
theorem ms_X14_statement : Cond.selects "LinkedUnitsModel" y_X14_statement y_X14_statement ∈ GW := sel_in (q := (y_X14_statement, 100)) (List.mem_append_right _ (List.mem_of_getElem? (i := 17) rfl)) rfl
theorem ms_X14_step : Cond.selects "LinkedUnitsModel" y_X14_step y_X14_step ∈ GW := sel_in (q := (y_X14_step, 100)) (List.mem_append_right _ (List.mem_of_getElem? (i := 18) rfl)) rfl
theorem ms_X14_stepMore : Cond.selects "LinkedUnitsModel" y_X14_stepMore y_X14_stepMore ∈ GW := sel_in (q := (y_X14_stepMore, 100)) (List.mem_append_right _ (List.mem_of_getElem? (i := 19) rfl)) rfl
theorem ms_X14_stepped : Cond.selects "LinkedUnitsModel" y_X14_stepped y_X14_stepped ∈ GW := sel_in (q := (y_X14_stepped, 100)) (List.mem_append_right _ (List.mem_of_getElem? (i := 20) rfl)) rfl
theorem ms_X14_stringEnd : Cond.selects "LinkedUnitsModel" y_X14_stringEnd y_X14_stringEnd ∈ GW := sel_in (q := (y_X14_stringEnd, 100)) (List.mem_append_right _ (List.mem_of_getElem? (i := 21) rfl)) rfl
theorem ms_X14_symbolAt : Cond.selects "LinkedUnitsModel" y_X14_symbolAt y_X14_symbolAt ∈ GW := sel_in (q := (y_X14_symbolAt, 100)) (List.mem_append_right _ (List.mem_of_getElem? (i := 22) rfl)) rfl
theorem ms_X14_symbols : Cond.selects "LinkedUnitsModel" y_X14_symbols y_X14_symbols ∈ GW := sel_in (q := (y_X14_symbols, 100)) (List.mem_append_right _ (List.mem_of_getElem? (i := 23) rfl)) rfl
theorem ms_X14_tell : Cond.selects "LinkedUnitsModel" y_X14_tell y_X14_tell ∈ GW := sel_in (q := (y_X14_tell, 100)) (List.mem_append_right _ (List.mem_of_getElem? (i := 24) rfl)) rfl
theorem ms_X14_text : Cond.selects "LinkedUnitsModel" y_X14_text y_X14_text ∈ GW := sel_in (q := (y_X14_text, 100)) (List.mem_append_right _ (List.mem_of_getElem? (i := 25) rfl)) rfl
theorem ms_X14_token : Cond.selects "LinkedUnitsModel" y_X14_token y_X14_token ∈ GW := sel_in (q := (y_X14_token, 100)) (List.mem_append_right _ (List.mem_of_getElem? (i := 26) rfl)) rfl
theorem ms_X14_told : Cond.selects "LinkedUnitsModel" y_X14_told y_X14_told ∈ GW := sel_in (q := (y_X14_told, 100)) (List.mem_append_right _ (List.mem_of_getElem? (i := 27) rfl)) rfl
theorem ms_X14_trapped : Cond.selects "LinkedUnitsModel" y_X14_trapped y_X14_trapped ∈ GW := sel_in (q := (y_X14_trapped, 100)) (List.mem_append_right _ (List.mem_of_getElem? (i := 28) rfl)) rfl
theorem ms_X14_two : Cond.selects "LinkedUnitsModel" y_X14_two y_X14_two ∈ GW := sel_in (q := (y_X14_two, 100)) (List.mem_append_right _ (List.mem_of_getElem? (i := 29) rfl)) rfl
theorem ms_X14_unary : Cond.selects "LinkedUnitsModel" y_X14_unary y_X14_unary ∈ GW := sel_in (q := (y_X14_unary, 100)) (List.mem_append_right _ (List.mem_of_getElem? (i := 30) rfl)) rfl
theorem ms_X14_variable : Cond.selects "LinkedUnitsModel" y_X14_variable y_X14_variable ∈ GW := sel_in (q := (y_X14_variable, 100)) (List.mem_append_right _ (List.mem_of_getElem? (i := 31) rfl)) rfl
theorem ms_X14_variables : Cond.selects "LinkedUnitsModel" y_X14_variables y_X14_variables ∈ GW := sel_in (q := (y_X14_variables, 100)) (List.mem_append_right _ (List.mem_of_getElem? (i := 32) rfl)) rfl
theorem ms_X14_wrong : Cond.selects "LinkedUnitsModel" y_X14_wrong y_X14_wrong ∈ GW := sel_in (q := (y_X14_wrong, 100)) (List.mem_append_right _ (List.mem_of_getElem? (i := 33) rfl)) rfl
theorem ms_X14_wrongAt : Cond.selects "LinkedUnitsModel" y_X14_wrongAt y_X14_wrongAt ∈ GW := sel_in (q := (y_X14_wrongAt, 100)) (List.mem_append_right _ (List.mem_of_getElem? (i := 34) rfl)) rfl
theorem iwX0 : ∀ w ∈ u_ws "LinkedUnits$Code" TX0 2, w ∈ GW := by
  intro w hw
  obtain ⟨k, hk, rfl⟩ := List.mem_map.mp hw
  have hk := List.mem_range.mp hk
  match k, hk with
  | 0, _ => exact tw_1 157 rfl rfl
  | 1, _ => exact tw_1 159 rfl rfl
  | n + 2, h => exact absurd h (by omega)
theorem iwX1 : ∀ w ∈ u_ws "LinkedUnits$Declarations" TX1 18, w ∈ GW := by
  intro w hw
  obtain ⟨k, hk, rfl⟩ := List.mem_map.mp hw
  have hk := List.mem_range.mp hk
  match k, hk with
  | 0, _ => exact tw_3 30 rfl rfl
  | 1, _ => exact tw_3 32 rfl rfl
  | 2, _ => exact tw_3 34 rfl rfl
  | 3, _ => exact tw_3 36 rfl rfl
  | 4, _ => exact tw_3 38 rfl rfl
  | 5, _ => exact tw_3 40 rfl rfl
  | 6, _ => exact tw_3 42 rfl rfl
  | 7, _ => exact tw_3 44 rfl rfl
  | 8, _ => exact tw_3 46 rfl rfl
  | 9, _ => exact tw_3 48 rfl rfl
  | 10, _ => exact tw_3 50 rfl rfl
  | 11, _ => exact tw_3 52 rfl rfl
  | 12, _ => exact tw_3 54 rfl rfl
  | 13, _ => exact tw_3 56 rfl rfl
  | 14, _ => exact tw_3 58 rfl rfl
  | 15, _ => exact tw_3 60 rfl rfl
  | 16, _ => exact tw_3 62 rfl rfl
  | 17, _ => exact tw_3 64 rfl rfl
  | n + 18, h => exact absurd h (by omega)
theorem iwX2 : ∀ w ∈ u_ws "LinkedUnits$Expressions" TX2 8, w ∈ GW := by
  intro w hw
  obtain ⟨k, hk, rfl⟩ := List.mem_map.mp hw
  have hk := List.mem_range.mp hk
  match k, hk with
  | 0, _ => exact tw_2 226 rfl rfl
  | 1, _ => exact tw_2 228 rfl rfl
  | 2, _ => exact tw_2 230 rfl rfl
  | 3, _ => exact tw_2 232 rfl rfl
  | 4, _ => exact tw_2 234 rfl rfl
  | 5, _ => exact tw_2 236 rfl rfl
  | 6, _ => exact tw_2 238 rfl rfl
  | 7, _ => exact tw_3 0 rfl rfl
  | n + 8, h => exact absurd h (by omega)
theorem iwX3 : ∀ w ∈ u_ws "LinkedUnits$Grammar" TX3 12, w ∈ GW := by
  intro w hw
  obtain ⟨k, hk, rfl⟩ := List.mem_map.mp hw
  have hk := List.mem_range.mp hk
  match k, hk with
  | 0, _ => exact tw_1 117 rfl rfl
  | 1, _ => exact tw_1 119 rfl rfl
  | 2, _ => exact tw_1 121 rfl rfl
  | 3, _ => exact tw_1 123 rfl rfl
  | 4, _ => exact tw_1 125 rfl rfl
  | 5, _ => exact tw_1 127 rfl rfl
  | 6, _ => exact tw_1 129 rfl rfl
  | 7, _ => exact tw_1 131 rfl rfl
  | 8, _ => exact tw_1 133 rfl rfl
  | 9, _ => exact tw_1 135 rfl rfl
  | 10, _ => exact tw_1 137 rfl rfl
  | 11, _ => exact tw_1 139 rfl rfl
  | n + 12, h => exact absurd h (by omega)
theorem iwX4 : ∀ w ∈ u_ws "LinkedUnits$Image" TX4 12, w ∈ GW := by
  intro w hw
  obtain ⟨k, hk, rfl⟩ := List.mem_map.mp hw
  have hk := List.mem_range.mp hk
  match k, hk with
  | 0, _ => exact tw_3 135 rfl rfl
  | 1, _ => exact tw_3 137 rfl rfl
  | 2, _ => exact tw_3 139 rfl rfl
  | 3, _ => exact tw_3 141 rfl rfl
  | 4, _ => exact tw_3 143 rfl rfl
  | 5, _ => exact tw_3 145 rfl rfl
  | 6, _ => exact tw_3 147 rfl rfl
  | 7, _ => exact tw_3 149 rfl rfl
  | 8, _ => exact tw_3 151 rfl rfl
  | 9, _ => exact tw_3 153 rfl rfl
  | 10, _ => exact tw_3 155 rfl rfl
  | 11, _ => exact tw_3 157 rfl rfl
  | n + 12, h => exact absurd h (by omega)
theorem iwX5 : ∀ w ∈ u_ws "LinkedUnits$Machine" TX5 19, w ∈ GW := by
  intro w hw
  obtain ⟨k, hk, rfl⟩ := List.mem_map.mp hw
  have hk := List.mem_range.mp hk
  match k, hk with
  | 0, _ => exact tw_3 216 rfl rfl
  | 1, _ => exact tw_3 218 rfl rfl
  | 2, _ => exact tw_3 220 rfl rfl
  | 3, _ => exact tw_3 222 rfl rfl
  | 4, _ => exact tw_3 224 rfl rfl
  | 5, _ => exact tw_3 226 rfl rfl
  | 6, _ => exact tw_3 228 rfl rfl
  | 7, _ => exact tw_3 230 rfl rfl
  | 8, _ => exact tw_3 232 rfl rfl
  | 9, _ => exact tw_3 234 rfl rfl
  | 10, _ => exact tw_3 236 rfl rfl
  | 11, _ => exact tw_3 238 rfl rfl
  | 12, _ => exact tw_4 0 rfl rfl
  | 13, _ => exact tw_4 2 rfl rfl
  | 14, _ => exact tw_4 4 rfl rfl
  | 15, _ => exact tw_4 6 rfl rfl
  | 16, _ => exact tw_4 8 rfl rfl
  | 17, _ => exact tw_4 10 rfl rfl
  | 18, _ => exact tw_4 12 rfl rfl
  | n + 19, h => exact absurd h (by omega)
theorem iwX6 : ∀ w ∈ u_ws "LinkedUnits$Operand" TX6 13, w ∈ GW := by
  intro w hw
  obtain ⟨k, hk, rfl⟩ := List.mem_map.mp hw
  have hk := List.mem_range.mp hk
  match k, hk with
  | 0, _ => exact tw_2 189 rfl rfl
  | 1, _ => exact tw_2 191 rfl rfl
  | 2, _ => exact tw_2 193 rfl rfl
  | 3, _ => exact tw_2 195 rfl rfl
  | 4, _ => exact tw_2 197 rfl rfl
  | 5, _ => exact tw_2 199 rfl rfl
  | 6, _ => exact tw_2 201 rfl rfl
  | 7, _ => exact tw_2 203 rfl rfl
  | 8, _ => exact tw_2 205 rfl rfl
  | 9, _ => exact tw_2 207 rfl rfl
  | 10, _ => exact tw_2 209 rfl rfl
  | 11, _ => exact tw_2 211 rfl rfl
  | 12, _ => exact tw_2 213 rfl rfl
  | n + 13, h => exact absurd h (by omega)
theorem iwX7 : ∀ w ∈ u_ws "LinkedUnits$Statements" TX7 12, w ∈ GW := by
  intro w hw
  obtain ⟨k, hk, rfl⟩ := List.mem_map.mp hw
  have hk := List.mem_range.mp hk
  match k, hk with
  | 0, _ => exact tw_3 85 rfl rfl
  | 1, _ => exact tw_3 87 rfl rfl
  | 2, _ => exact tw_3 89 rfl rfl
  | 3, _ => exact tw_3 91 rfl rfl
  | 4, _ => exact tw_3 93 rfl rfl
  | 5, _ => exact tw_3 95 rfl rfl
  | 6, _ => exact tw_3 97 rfl rfl
  | 7, _ => exact tw_3 99 rfl rfl
  | 8, _ => exact tw_3 101 rfl rfl
  | 9, _ => exact tw_3 103 rfl rfl
  | 10, _ => exact tw_3 105 rfl rfl
  | 11, _ => exact tw_3 107 rfl rfl
  | n + 12, h => exact absurd h (by omega)
theorem iwX8 : ∀ w ∈ u_ws "LinkedUnits$Store" TX8 18, w ∈ GW := by
  intro w hw
  obtain ⟨k, hk, rfl⟩ := List.mem_map.mp hw
  have hk := List.mem_range.mp hk
  match k, hk with
  | 0, _ => exact tw_2 20 rfl rfl
  | 1, _ => exact tw_2 22 rfl rfl
  | 2, _ => exact tw_2 24 rfl rfl
  | 3, _ => exact tw_2 26 rfl rfl
  | 4, _ => exact tw_2 28 rfl rfl
  | 5, _ => exact tw_2 30 rfl rfl
  | 6, _ => exact tw_2 32 rfl rfl
  | 7, _ => exact tw_2 34 rfl rfl
  | 8, _ => exact tw_2 36 rfl rfl
  | 9, _ => exact tw_2 38 rfl rfl
  | 10, _ => exact tw_2 40 rfl rfl
  | 11, _ => exact tw_2 42 rfl rfl
  | 12, _ => exact tw_2 44 rfl rfl
  | 13, _ => exact tw_2 46 rfl rfl
  | 14, _ => exact tw_2 48 rfl rfl
  | 15, _ => exact tw_2 50 rfl rfl
  | 16, _ => exact tw_2 52 rfl rfl
  | 17, _ => exact tw_2 54 rfl rfl
  | n + 18, h => exact absurd h (by omega)
theorem iwX9 : ∀ w ∈ u_ws "LinkedUnits$Tape" TX9 5, w ∈ GW := by
  intro w hw
  obtain ⟨k, hk, rfl⟩ := List.mem_map.mp hw
  have hk := List.mem_range.mp hk
  match k, hk with
  | 0, _ => exact tw_3 172 rfl rfl
  | 1, _ => exact tw_3 174 rfl rfl
  | 2, _ => exact tw_3 176 rfl rfl
  | 3, _ => exact tw_3 178 rfl rfl
  | 4, _ => exact tw_3 180 rfl rfl
  | n + 5, h => exact absurd h (by omega)
theorem iwX10 : ∀ w ∈ u_ws "LinkedUnits$Tokens" TX10 10, w ∈ GW := by
  intro w hw
  obtain ⟨k, hk, rfl⟩ := List.mem_map.mp hw
  have hk := List.mem_range.mp hk
  match k, hk with
  | 0, _ => exact tw_1 65 rfl rfl
  | 1, _ => exact tw_1 67 rfl rfl
  | 2, _ => exact tw_1 69 rfl rfl
  | 3, _ => exact tw_1 71 rfl rfl
  | 4, _ => exact tw_1 73 rfl rfl
  | 5, _ => exact tw_1 75 rfl rfl
  | 6, _ => exact tw_1 77 rfl rfl
  | 7, _ => exact tw_1 79 rfl rfl
  | 8, _ => exact tw_1 81 rfl rfl
  | 9, _ => exact tw_1 83 rfl rfl
  | n + 10, h => exact absurd h (by omega)
theorem iwX11 : ∀ w ∈ u_ws "LinkedUnits$Unit" TX11 19, w ∈ GW := by
  intro w hw
  obtain ⟨k, hk, rfl⟩ := List.mem_map.mp hw
  have hk := List.mem_range.mp hk
  match k, hk with
  | 0, _ => exact tw_2 106 rfl rfl
  | 1, _ => exact tw_2 108 rfl rfl
  | 2, _ => exact tw_2 110 rfl rfl
  | 3, _ => exact tw_2 112 rfl rfl
  | 4, _ => exact tw_2 114 rfl rfl
  | 5, _ => exact tw_2 116 rfl rfl
  | 6, _ => exact tw_2 118 rfl rfl
  | 7, _ => exact tw_2 120 rfl rfl
  | 8, _ => exact tw_2 122 rfl rfl
  | 9, _ => exact tw_2 124 rfl rfl
  | 10, _ => exact tw_2 126 rfl rfl
  | 11, _ => exact tw_2 128 rfl rfl
  | 12, _ => exact tw_2 130 rfl rfl
  | 13, _ => exact tw_2 132 rfl rfl
  | 14, _ => exact tw_2 134 rfl rfl
  | 15, _ => exact tw_2 136 rfl rfl
  | 16, _ => exact tw_2 138 rfl rfl
  | 17, _ => exact tw_2 140 rfl rfl
  | 18, _ => exact tw_2 142 rfl rfl
  | n + 19, h => exact absurd h (by omega)
theorem iwX12 : ∀ w ∈ u_ws "LinkedUnits" TX12 15, w ∈ GW := by
  intro w hw
  obtain ⟨k, hk, rfl⟩ := List.mem_map.mp hw
  have hk := List.mem_range.mp hk
  match k, hk with
  | 0, _ => exact tw_4 30 rfl rfl
  | 1, _ => exact tw_4 32 rfl rfl
  | 2, _ => exact tw_4 34 rfl rfl
  | 3, _ => exact tw_4 36 rfl rfl
  | 4, _ => exact tw_4 38 rfl rfl
  | 5, _ => exact tw_4 40 rfl rfl
  | 6, _ => exact tw_4 42 rfl rfl
  | 7, _ => exact tw_4 44 rfl rfl
  | 8, _ => exact tw_4 46 rfl rfl
  | 9, _ => exact tw_4 48 rfl rfl
  | 10, _ => exact tw_4 50 rfl rfl
  | 11, _ => exact tw_4 52 rfl rfl
  | 12, _ => exact tw_4 54 rfl rfl
  | 13, _ => exact tw_4 56 rfl rfl
  | 14, _ => exact tw_4 58 rfl rfl
  | n + 15, h => exact absurd h (by omega)
theorem iwX14 : ∀ w ∈ u_ws "LinkedUnitsModel" TX14 100, w ∈ GW := by
  intro w hw
  obtain ⟨k, hk, rfl⟩ := List.mem_map.mp hw
  have hk := List.mem_range.mp hk
  match k, hk with
  | 0, _ => exact tw_9 45 rfl rfl
  | 1, _ => exact tw_9 47 rfl rfl
  | 2, _ => exact tw_9 49 rfl rfl
  | 3, _ => exact tw_9 51 rfl rfl
  | 4, _ => exact tw_9 53 rfl rfl
  | 5, _ => exact tw_9 55 rfl rfl
  | 6, _ => exact tw_9 57 rfl rfl
  | 7, _ => exact tw_9 59 rfl rfl
  | 8, _ => exact tw_9 61 rfl rfl
  | 9, _ => exact tw_9 63 rfl rfl
  | 10, _ => exact tw_9 65 rfl rfl
  | 11, _ => exact tw_9 67 rfl rfl
  | 12, _ => exact tw_9 69 rfl rfl
  | 13, _ => exact tw_9 71 rfl rfl
  | 14, _ => exact tw_9 73 rfl rfl
  | 15, _ => exact tw_9 75 rfl rfl
  | 16, _ => exact tw_9 77 rfl rfl
  | 17, _ => exact tw_9 79 rfl rfl
  | 18, _ => exact tw_9 81 rfl rfl
  | 19, _ => exact tw_9 83 rfl rfl
  | 20, _ => exact tw_9 85 rfl rfl
  | 21, _ => exact tw_9 87 rfl rfl
  | 22, _ => exact tw_9 89 rfl rfl
  | 23, _ => exact tw_9 91 rfl rfl
  | 24, _ => exact tw_9 93 rfl rfl
  | 25, _ => exact tw_9 95 rfl rfl
  | 26, _ => exact tw_9 97 rfl rfl
  | 27, _ => exact tw_9 99 rfl rfl
  | 28, _ => exact tw_9 101 rfl rfl
  | 29, _ => exact tw_9 103 rfl rfl
  | 30, _ => exact tw_9 105 rfl rfl
  | 31, _ => exact tw_9 107 rfl rfl
  | 32, _ => exact tw_9 109 rfl rfl
  | 33, _ => exact tw_9 111 rfl rfl
  | 34, _ => exact tw_9 113 rfl rfl
  | 35, _ => exact tw_9 115 rfl rfl
  | 36, _ => exact tw_9 117 rfl rfl
  | 37, _ => exact tw_9 119 rfl rfl
  | 38, _ => exact tw_9 121 rfl rfl
  | 39, _ => exact tw_9 123 rfl rfl
  | 40, _ => exact tw_9 125 rfl rfl
  | 41, _ => exact tw_9 127 rfl rfl
  | 42, _ => exact tw_9 129 rfl rfl
  | 43, _ => exact tw_9 131 rfl rfl
  | 44, _ => exact tw_9 133 rfl rfl
  | 45, _ => exact tw_9 135 rfl rfl
  | 46, _ => exact tw_9 137 rfl rfl
  | 47, _ => exact tw_9 139 rfl rfl
  | 48, _ => exact tw_9 141 rfl rfl
  | 49, _ => exact tw_9 143 rfl rfl
  | 50, _ => exact tw_9 145 rfl rfl
  | 51, _ => exact tw_9 147 rfl rfl
  | 52, _ => exact tw_9 149 rfl rfl
  | 53, _ => exact tw_9 151 rfl rfl
  | 54, _ => exact tw_9 153 rfl rfl
  | 55, _ => exact tw_9 155 rfl rfl
  | 56, _ => exact tw_9 157 rfl rfl
  | 57, _ => exact tw_9 159 rfl rfl
  | 58, _ => exact tw_9 161 rfl rfl
  | 59, _ => exact tw_9 163 rfl rfl
  | 60, _ => exact tw_9 165 rfl rfl
  | 61, _ => exact tw_9 167 rfl rfl
  | 62, _ => exact tw_9 169 rfl rfl
  | 63, _ => exact tw_9 171 rfl rfl
  | 64, _ => exact tw_9 173 rfl rfl
  | 65, _ => exact tw_9 175 rfl rfl
  | 66, _ => exact tw_9 177 rfl rfl
  | 67, _ => exact tw_9 179 rfl rfl
  | 68, _ => exact tw_9 181 rfl rfl
  | 69, _ => exact tw_9 183 rfl rfl
  | 70, _ => exact tw_9 185 rfl rfl
  | 71, _ => exact tw_9 187 rfl rfl
  | 72, _ => exact tw_9 189 rfl rfl
  | 73, _ => exact tw_9 191 rfl rfl
  | 74, _ => exact tw_9 193 rfl rfl
  | 75, _ => exact tw_9 195 rfl rfl
  | 76, _ => exact tw_9 197 rfl rfl
  | 77, _ => exact tw_9 199 rfl rfl
  | 78, _ => exact tw_9 201 rfl rfl
  | 79, _ => exact tw_9 203 rfl rfl
  | 80, _ => exact tw_9 205 rfl rfl
  | 81, _ => exact tw_9 207 rfl rfl
  | 82, _ => exact tw_9 209 rfl rfl
  | 83, _ => exact tw_9 211 rfl rfl
  | 84, _ => exact tw_9 213 rfl rfl
  | 85, _ => exact tw_9 215 rfl rfl
  | 86, _ => exact tw_9 217 rfl rfl
  | 87, _ => exact tw_9 219 rfl rfl
  | 88, _ => exact tw_9 221 rfl rfl
  | 89, _ => exact tw_9 223 rfl rfl
  | 90, _ => exact tw_9 225 rfl rfl
  | 91, _ => exact tw_9 227 rfl rfl
  | 92, _ => exact tw_9 229 rfl rfl
  | 93, _ => exact tw_9 231 rfl rfl
  | 94, _ => exact tw_9 233 rfl rfl
  | 95, _ => exact tw_9 235 rfl rfl
  | 96, _ => exact tw_9 237 rfl rfl
  | 97, _ => exact tw_9 239 rfl rfl
  | 98, _ => exact tw_10 1 rfl rfl
  | 99, _ => exact tw_10 3 rfl rfl
  | n + 100, h => exact absurd h (by omega)
theorem iwX13 : ∀ w ∈ u_ws "LinkedUnitsModel$Value" TX13 9, w ∈ GW := by
  intro w hw
  obtain ⟨k, hk, rfl⟩ := List.mem_map.mp hw
  have hk := List.mem_range.mp hk
  match k, hk with
  | 0, _ => exact tw_11 13 rfl rfl
  | 1, _ => exact tw_11 15 rfl rfl
  | 2, _ => exact tw_11 17 rfl rfl
  | 3, _ => exact tw_11 19 rfl rfl
  | 4, _ => exact tw_11 21 rfl rfl
  | 5, _ => exact tw_11 23 rfl rfl
  | 6, _ => exact tw_11 25 rfl rfl
  | 7, _ => exact tw_11 27 rfl rfl
  | 8, _ => exact tw_11 29 rfl rfl
  | n + 9, h => exact absurd h (by omega)
