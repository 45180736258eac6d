section
def KC : List (Nat × Nat × Nat) := [(0, 12, 15), (1, 16000, 0), (0, 10, 10), (0, 3, 12), (0, 0, 2), (0, 8, 18), (0, 11, 19), (0, 2, 8), (0, 1, 18), (0, 7, 12), (0, 4, 12), (0, 9, 5), (0, 5, 19), (2, 16002, 0), (2, 16002, 0), (2, 16002, 0), (2, 16002, 0), (2, 200, 0), (2, 32100, 0), (2, 32100, 0), (2, 32100, 0), (2, 32100, 0), (2, 400, 0), (2, 8, 0), (2, 262208, 0), (2, 10100, 0), (2, 10100, 0), (2, 10100, 0), (2, 10100, 0), (2, 10100, 0), (1, 65600, 0), (2, 65536, 0), (2, 65536, 0), (2, 65536, 0), (2, 101, 0), (2, 101, 0), (2, 101, 0), (2, 101, 0), (2, 100, 0), (2, 100, 0), (2, 100, 0), (2, 100, 0), (2, 100, 0), (2, 100, 0), (2, 100, 0), (2, 52, 0), (5, 500, 65), (0, 6, 13), (2, 100, 0), (2, 26, 0), (2, 26, 0), (2, 26, 0), (2, 26, 0), (2, 26, 0), (2, 26, 0), (1, 4, 0), (2, 101, 0), (2, 101, 0), (2, 101, 0), (2, 10100, 0), (1, 4096, 0), (1, 4096, 0), (2, 32768, 0), (2, 148496, 0), (2, 771, 0)]
def FC : List (List (Option Nat)) := [[some 1, none, none, none, some 2, some 3, some 4, some 5, some 6, some 7, some 8, some 9, some 10, some 11, some 12], [], [some 1, none, none, none, none, some 13, some 14, some 15, some 16, some 17], [some 2, none, none, none, none, some 18, some 19, some 20, some 21, none, some 22, some 23], [some 24, none], [some 4, none, some 25, some 26, some 27, some 28, some 29, none, some 30, none, some 31, some 32, some 33, none, some 34, some 35, some 36, some 37], [some 2, some 5, none, none, none, none, none, none, some 38, some 39, none, some 40, some 41, some 42, some 43, none, some 44, none, some 45], [some 3, some 2, some 6, some 5, some 4, some 46, some 47, none], [some 3, some 2, some 6, some 5, some 4, some 7, none, none, none, none, none, none, none, none, none, none, none, some 48], [some 3, some 6, some 4, some 7, some 8, none, some 49, some 50, some 51, some 52, some 53, some 54], [some 5, some 55, none, none, none, none, some 56, none, some 57, some 58, some 59, none], [none, none, none, some 60, some 61], [some 5, some 10, some 11, some 24, some 62, some 63, some 64, none, none, none, none, none, none, none, none, none, none, none, none], [], [], [], [], [], [], [], [], [], [], [], [], [], [], [], [], [], [], [], [], [], [], [], [], [], [], [], [], [], [], [], [], [], [], [], [], [], [], [], [], [], [], [], [], [], [], [], [], [], [], [], []]
def SC : Sh := (fun j => KC.getD j (0, 6, 13), fun j k => (FC.getD j []).getD k none, 565, 0)
theorem clsX0 : ClsOK 0 "LinkedUnits$Code" TX0 2 tyX0 := ⟨rfl, iwX0, tyX0_ok, nmX0⟩
theorem clsX1 : ClsOK 1 "LinkedUnits$Declarations" TX1 18 tyX1 := ⟨rfl, iwX1, tyX1_ok, nmX1⟩
theorem clsX2 : ClsOK 2 "LinkedUnits$Expressions" TX2 8 tyX2 := ⟨rfl, iwX2, tyX2_ok, nmX2⟩
theorem clsX3 : ClsOK 3 "LinkedUnits$Grammar" TX3 12 tyX3 := ⟨rfl, iwX3, tyX3_ok, nmX3⟩
theorem clsX4 : ClsOK 4 "LinkedUnits$Image" TX4 12 tyX4 := ⟨rfl, iwX4, tyX4_ok, nmX4⟩
theorem clsX5 : ClsOK 5 "LinkedUnits$Machine" TX5 19 tyX5 := ⟨rfl, iwX5, tyX5_ok, nmX5⟩
theorem clsX6 : ClsOK 6 "LinkedUnits$Operand" TX6 13 tyX6 := ⟨rfl, iwX6, tyX6_ok, nmX6⟩
theorem clsX7 : ClsOK 7 "LinkedUnits$Statements" TX7 12 tyX7 := ⟨rfl, iwX7, tyX7_ok, nmX7⟩
theorem clsX8 : ClsOK 8 "LinkedUnits$Store" TX8 18 tyX8 := ⟨rfl, iwX8, tyX8_ok, nmX8⟩
theorem clsX9 : ClsOK 9 "LinkedUnits$Tape" TX9 5 tyX9 := ⟨rfl, iwX9, tyX9_ok, nmX9⟩
theorem clsX10 : ClsOK 10 "LinkedUnits$Tokens" TX10 10 tyX10 := ⟨rfl, iwX10, tyX10_ok, nmX10⟩
theorem clsX11 : ClsOK 11 "LinkedUnits$Unit" TX11 19 tyX11 := ⟨rfl, iwX11, tyX11_ok, nmX11⟩
theorem clsX12 : ClsOK 12 "LinkedUnits" TX12 15 tyX12 := ⟨rfl, iwX12, tyX12_ok, nmX12⟩
theorem obC_0 : ObOK SC 0 12 "LinkedUnits" TX12 15 tyX12 := ⟨clsX12, (Nat.le_of_ble_eq_true rfl), rfl⟩
theorem obC_2 : ObOK SC 2 10 "LinkedUnits$Tokens" TX10 10 tyX10 := ⟨clsX10, (Nat.le_of_ble_eq_true rfl), rfl⟩
theorem obC_3 : ObOK SC 3 3 "LinkedUnits$Grammar" TX3 12 tyX3 := ⟨clsX3, (Nat.le_of_ble_eq_true rfl), rfl⟩
theorem obC_4 : ObOK SC 4 0 "LinkedUnits$Code" TX0 2 tyX0 := ⟨clsX0, (Nat.le_of_ble_eq_true rfl), rfl⟩
theorem obC_5 : ObOK SC 5 8 "LinkedUnits$Store" TX8 18 tyX8 := ⟨clsX8, (Nat.le_of_ble_eq_true rfl), rfl⟩
theorem obC_6 : ObOK SC 6 11 "LinkedUnits$Unit" TX11 19 tyX11 := ⟨clsX11, (Nat.le_of_ble_eq_true rfl), rfl⟩
theorem obC_7 : ObOK SC 7 2 "LinkedUnits$Expressions" TX2 8 tyX2 := ⟨clsX2, (Nat.le_of_ble_eq_true rfl), rfl⟩
theorem obC_8 : ObOK SC 8 1 "LinkedUnits$Declarations" TX1 18 tyX1 := ⟨clsX1, (Nat.le_of_ble_eq_true rfl), rfl⟩
theorem obC_9 : ObOK SC 9 7 "LinkedUnits$Statements" TX7 12 tyX7 := ⟨clsX7, (Nat.le_of_ble_eq_true rfl), rfl⟩
theorem obC_10 : ObOK SC 10 4 "LinkedUnits$Image" TX4 12 tyX4 := ⟨clsX4, (Nat.le_of_ble_eq_true rfl), rfl⟩
theorem obC_11 : ObOK SC 11 9 "LinkedUnits$Tape" TX9 5 tyX9 := ⟨clsX9, (Nat.le_of_ble_eq_true rfl), rfl⟩
theorem obC_12 : ObOK SC 12 5 "LinkedUnits$Machine" TX5 19 tyX5 := ⟨clsX5, (Nat.le_of_ble_eq_true rfl), rfl⟩
theorem obC_47 : ObOK SC 47 6 "LinkedUnits$Operand" TX6 13 tyX6 := ⟨clsX6, (Nat.le_of_ble_eq_true rfl), rfl⟩
theorem arC_1 : ArOK SC 1 0 16000 := ⟨by decide, (Nat.le_of_ble_eq_true rfl), rfl⟩
theorem arC_13 : ArOK SC 13 1 16002 := ⟨by decide, (Nat.le_of_ble_eq_true rfl), rfl⟩
theorem arC_14 : ArOK SC 14 1 16002 := ⟨by decide, (Nat.le_of_ble_eq_true rfl), rfl⟩
theorem arC_15 : ArOK SC 15 1 16002 := ⟨by decide, (Nat.le_of_ble_eq_true rfl), rfl⟩
theorem arC_16 : ArOK SC 16 1 16002 := ⟨by decide, (Nat.le_of_ble_eq_true rfl), rfl⟩
theorem arC_17 : ArOK SC 17 1 200 := ⟨by decide, (Nat.le_of_ble_eq_true rfl), rfl⟩
theorem arC_18 : ArOK SC 18 1 32100 := ⟨by decide, (Nat.le_of_ble_eq_true rfl), rfl⟩
theorem arC_19 : ArOK SC 19 1 32100 := ⟨by decide, (Nat.le_of_ble_eq_true rfl), rfl⟩
theorem arC_20 : ArOK SC 20 1 32100 := ⟨by decide, (Nat.le_of_ble_eq_true rfl), rfl⟩
theorem arC_21 : ArOK SC 21 1 32100 := ⟨by decide, (Nat.le_of_ble_eq_true rfl), rfl⟩
theorem arC_22 : ArOK SC 22 1 400 := ⟨by decide, (Nat.le_of_ble_eq_true rfl), rfl⟩
theorem arC_23 : ArOK SC 23 1 8 := ⟨by decide, (Nat.le_of_ble_eq_true rfl), rfl⟩
theorem arC_24 : ArOK SC 24 1 262208 := ⟨by decide, (Nat.le_of_ble_eq_true rfl), rfl⟩
theorem arC_25 : ArOK SC 25 1 10100 := ⟨by decide, (Nat.le_of_ble_eq_true rfl), rfl⟩
theorem arC_26 : ArOK SC 26 1 10100 := ⟨by decide, (Nat.le_of_ble_eq_true rfl), rfl⟩
theorem arC_27 : ArOK SC 27 1 10100 := ⟨by decide, (Nat.le_of_ble_eq_true rfl), rfl⟩
theorem arC_28 : ArOK SC 28 1 10100 := ⟨by decide, (Nat.le_of_ble_eq_true rfl), rfl⟩
theorem arC_29 : ArOK SC 29 1 10100 := ⟨by decide, (Nat.le_of_ble_eq_true rfl), rfl⟩
theorem arC_30 : ArOK SC 30 0 65600 := ⟨by decide, (Nat.le_of_ble_eq_true rfl), rfl⟩
theorem arC_31 : ArOK SC 31 1 65536 := ⟨by decide, (Nat.le_of_ble_eq_true rfl), rfl⟩
theorem arC_32 : ArOK SC 32 1 65536 := ⟨by decide, (Nat.le_of_ble_eq_true rfl), rfl⟩
theorem arC_33 : ArOK SC 33 1 65536 := ⟨by decide, (Nat.le_of_ble_eq_true rfl), rfl⟩
theorem arC_34 : ArOK SC 34 1 101 := ⟨by decide, (Nat.le_of_ble_eq_true rfl), rfl⟩
theorem arC_35 : ArOK SC 35 1 101 := ⟨by decide, (Nat.le_of_ble_eq_true rfl), rfl⟩
theorem arC_36 : ArOK SC 36 1 101 := ⟨by decide, (Nat.le_of_ble_eq_true rfl), rfl⟩
theorem arC_37 : ArOK SC 37 1 101 := ⟨by decide, (Nat.le_of_ble_eq_true rfl), rfl⟩
theorem arC_38 : ArOK SC 38 1 100 := ⟨by decide, (Nat.le_of_ble_eq_true rfl), rfl⟩
theorem arC_39 : ArOK SC 39 1 100 := ⟨by decide, (Nat.le_of_ble_eq_true rfl), rfl⟩
theorem arC_40 : ArOK SC 40 1 100 := ⟨by decide, (Nat.le_of_ble_eq_true rfl), rfl⟩
theorem arC_41 : ArOK SC 41 1 100 := ⟨by decide, (Nat.le_of_ble_eq_true rfl), rfl⟩
theorem arC_42 : ArOK SC 42 1 100 := ⟨by decide, (Nat.le_of_ble_eq_true rfl), rfl⟩
theorem arC_43 : ArOK SC 43 1 100 := ⟨by decide, (Nat.le_of_ble_eq_true rfl), rfl⟩
theorem arC_44 : ArOK SC 44 1 100 := ⟨by decide, (Nat.le_of_ble_eq_true rfl), rfl⟩
theorem arC_45 : ArOK SC 45 1 52 := ⟨by decide, (Nat.le_of_ble_eq_true rfl), rfl⟩
theorem arC_48 : ArOK SC 48 1 100 := ⟨by decide, (Nat.le_of_ble_eq_true rfl), rfl⟩
theorem arC_49 : ArOK SC 49 1 26 := ⟨by decide, (Nat.le_of_ble_eq_true rfl), rfl⟩
theorem arC_50 : ArOK SC 50 1 26 := ⟨by decide, (Nat.le_of_ble_eq_true rfl), rfl⟩
theorem arC_51 : ArOK SC 51 1 26 := ⟨by decide, (Nat.le_of_ble_eq_true rfl), rfl⟩
theorem arC_52 : ArOK SC 52 1 26 := ⟨by decide, (Nat.le_of_ble_eq_true rfl), rfl⟩
theorem arC_53 : ArOK SC 53 1 26 := ⟨by decide, (Nat.le_of_ble_eq_true rfl), rfl⟩
theorem arC_54 : ArOK SC 54 1 26 := ⟨by decide, (Nat.le_of_ble_eq_true rfl), rfl⟩
theorem arC_55 : ArOK SC 55 0 4 := ⟨by decide, (Nat.le_of_ble_eq_true rfl), rfl⟩
theorem arC_56 : ArOK SC 56 1 101 := ⟨by decide, (Nat.le_of_ble_eq_true rfl), rfl⟩
theorem arC_57 : ArOK SC 57 1 101 := ⟨by decide, (Nat.le_of_ble_eq_true rfl), rfl⟩
theorem arC_58 : ArOK SC 58 1 101 := ⟨by decide, (Nat.le_of_ble_eq_true rfl), rfl⟩
theorem arC_59 : ArOK SC 59 1 10100 := ⟨by decide, (Nat.le_of_ble_eq_true rfl), rfl⟩
theorem arC_60 : ArOK SC 60 0 4096 := ⟨by decide, (Nat.le_of_ble_eq_true rfl), rfl⟩
theorem arC_61 : ArOK SC 61 0 4096 := ⟨by decide, (Nat.le_of_ble_eq_true rfl), rfl⟩
theorem arC_62 : ArOK SC 62 1 32768 := ⟨by decide, (Nat.le_of_ble_eq_true rfl), rfl⟩
theorem arC_63 : ArOK SC 63 1 148496 := ⟨by decide, (Nat.le_of_ble_eq_true rfl), rfl⟩
theorem arC_64 : ArOK SC 64 1 771 := ⟨by decide, (Nat.le_of_ble_eq_true rfl), rfl⟩
theorem KC_pool (i : Nat) : SC.1 (65 + i) = (0, 6, 13) := by
  show KC.getD (65 + i) _ = _
  rw [List.getD_eq_getElem?_getD, List.getElem?_eq_none (by show 65 ≤ 65 + i; omega)]
  rfl
theorem FC_pool (i k : Nat) : SC.2.1 (65 + i) k = none := by
  have e : FC.getD (65 + i) [] = [] := by
    rw [List.getD_eq_getElem?_getD, List.getElem?_eq_none (by show 65 ≤ 65 + i; omega)]
    rfl
  show (FC.getD (65 + i) []).getD k none = none
  rw [e]
  rfl
theorem obC_pool {i : Nat} (h : i < 500) : ObOK SC (65 + i) 6 "LinkedUnits$Operand" TX6 13 tyX6 := ⟨clsX6, by show 65 + i < 565; omega, KC_pool i⟩
def KM : List (Nat × Nat × Nat) := [(0, 13, 100), (1, 16000, 0), (2, 16002, 0), (2, 16002, 0), (2, 16002, 0), (2, 16002, 0), (2, 16002, 0), (0, 14, 0), (2, 524288, 0), (2, 10000, 0), (2, 10000, 0), (2, 10000, 0), (3, 10000, 0), (3, 10000, 0), (3, 10000, 0), (2, 10000, 0), (2, 80000, 0), (2, 10000, 0), (2, 10000, 0), (2, 10000, 0), (1, 65536, 0), (2, 100, 0), (2, 102, 0), (2, 102, 0), (2, 102, 0), (2, 196608, 0), (2, 10000, 0), (2, 10000, 0), (2, 10000, 0), (2, 10000, 0), (2, 10000, 0), (2, 100, 0), (2, 100, 0), (3, 100, 0), (2, 100, 0), (2, 100, 0), (2, 100, 0), (2, 8, 0), (2, 8, 0), (2, 8, 0), (2, 100, 0), (2, 100, 0), (2, 100, 0), (2, 10000, 0), (2, 100, 0), (2, 16016, 0), (2, 32768, 0), (2, 140000, 0), (2, 26000, 0), (2, 260, 0), (2, 260, 0), (2, 260, 0), (1, 4096, 0), (1, 4096, 0), (2, 10000, 0)]
def FM : List (List (Option Nat)) := [[some 1, none, none, some 2, some 3, some 4, some 5, some 6, none, none, none, some 7, none, none, none, none, some 8, none, some 9, some 10, some 11, some 12, some 13, some 14, some 15, some 16, some 17, some 18, some 19, some 20, some 21, none, some 22, some 23, some 24, none, none, none, some 25, none, some 26, some 27, some 28, some 29, some 30, none, some 31, some 32, some 33, none, some 34, some 35, some 36, none, none, none, none, none, none, none, none, some 37, some 38, some 39, none, none, some 40, none, some 41, some 42, none, none, none, none, none, some 43, some 44, some 45, none, some 46, some 47, none, some 48, some 49, some 50, some 51, none, some 52, none, none, some 53, none, none, none, none, none, none, none, none, some 54], [], [], [], [], [], [], [], [], [], [], [], [], [], [], [], [], [], [], [], [], [], [], [], [], [], [], [], [], [], [], [], [], [], [], [], [], [], [], [], [], [], [], [], [], [], [], [], [], [], [], [], [], [], []]
def SM : Sh := (fun j => KM.getD j (0, 0, 0), fun j k => (FM.getD j []).getD k none, 55, 7)
theorem clsX14 : ClsOK 13 "LinkedUnitsModel" TX14 100 tyX14 := ⟨rfl, iwX14, tyX14_ok, nmX14⟩
theorem obM_0 : ObOK SM 0 13 "LinkedUnitsModel" TX14 100 tyX14 := ⟨clsX14, (Nat.le_of_ble_eq_true rfl), rfl⟩
theorem arM_1 : ArOK SM 1 0 16000 := ⟨by decide, (Nat.le_of_ble_eq_true rfl), rfl⟩
theorem arM_2 : ArOK SM 2 1 16002 := ⟨by decide, (Nat.le_of_ble_eq_true rfl), rfl⟩
theorem arM_3 : ArOK SM 3 1 16002 := ⟨by decide, (Nat.le_of_ble_eq_true rfl), rfl⟩
theorem arM_4 : ArOK SM 4 1 16002 := ⟨by decide, (Nat.le_of_ble_eq_true rfl), rfl⟩
theorem arM_5 : ArOK SM 5 1 16002 := ⟨by decide, (Nat.le_of_ble_eq_true rfl), rfl⟩
theorem arM_6 : ArOK SM 6 1 16002 := ⟨by decide, (Nat.le_of_ble_eq_true rfl), rfl⟩
theorem arM_8 : ArOK SM 8 1 524288 := ⟨by decide, (Nat.le_of_ble_eq_true rfl), rfl⟩
theorem arM_9 : ArOK SM 9 1 10000 := ⟨by decide, (Nat.le_of_ble_eq_true rfl), rfl⟩
theorem arM_10 : ArOK SM 10 1 10000 := ⟨by decide, (Nat.le_of_ble_eq_true rfl), rfl⟩
theorem arM_11 : ArOK SM 11 1 10000 := ⟨by decide, (Nat.le_of_ble_eq_true rfl), rfl⟩
theorem arM_12 : ArOK SM 12 2 10000 := ⟨by decide, (Nat.le_of_ble_eq_true rfl), rfl⟩
theorem arM_13 : ArOK SM 13 2 10000 := ⟨by decide, (Nat.le_of_ble_eq_true rfl), rfl⟩
theorem arM_14 : ArOK SM 14 2 10000 := ⟨by decide, (Nat.le_of_ble_eq_true rfl), rfl⟩
theorem arM_15 : ArOK SM 15 1 10000 := ⟨by decide, (Nat.le_of_ble_eq_true rfl), rfl⟩
theorem arM_16 : ArOK SM 16 1 80000 := ⟨by decide, (Nat.le_of_ble_eq_true rfl), rfl⟩
theorem arM_17 : ArOK SM 17 1 10000 := ⟨by decide, (Nat.le_of_ble_eq_true rfl), rfl⟩
theorem arM_18 : ArOK SM 18 1 10000 := ⟨by decide, (Nat.le_of_ble_eq_true rfl), rfl⟩
theorem arM_19 : ArOK SM 19 1 10000 := ⟨by decide, (Nat.le_of_ble_eq_true rfl), rfl⟩
theorem arM_20 : ArOK SM 20 0 65536 := ⟨by decide, (Nat.le_of_ble_eq_true rfl), rfl⟩
theorem arM_21 : ArOK SM 21 1 100 := ⟨by decide, (Nat.le_of_ble_eq_true rfl), rfl⟩
theorem arM_22 : ArOK SM 22 1 102 := ⟨by decide, (Nat.le_of_ble_eq_true rfl), rfl⟩
theorem arM_23 : ArOK SM 23 1 102 := ⟨by decide, (Nat.le_of_ble_eq_true rfl), rfl⟩
theorem arM_24 : ArOK SM 24 1 102 := ⟨by decide, (Nat.le_of_ble_eq_true rfl), rfl⟩
theorem arM_25 : ArOK SM 25 1 196608 := ⟨by decide, (Nat.le_of_ble_eq_true rfl), rfl⟩
theorem arM_26 : ArOK SM 26 1 10000 := ⟨by decide, (Nat.le_of_ble_eq_true rfl), rfl⟩
theorem arM_27 : ArOK SM 27 1 10000 := ⟨by decide, (Nat.le_of_ble_eq_true rfl), rfl⟩
theorem arM_28 : ArOK SM 28 1 10000 := ⟨by decide, (Nat.le_of_ble_eq_true rfl), rfl⟩
theorem arM_29 : ArOK SM 29 1 10000 := ⟨by decide, (Nat.le_of_ble_eq_true rfl), rfl⟩
theorem arM_30 : ArOK SM 30 1 10000 := ⟨by decide, (Nat.le_of_ble_eq_true rfl), rfl⟩
theorem arM_31 : ArOK SM 31 1 100 := ⟨by decide, (Nat.le_of_ble_eq_true rfl), rfl⟩
theorem arM_32 : ArOK SM 32 1 100 := ⟨by decide, (Nat.le_of_ble_eq_true rfl), rfl⟩
theorem arM_33 : ArOK SM 33 2 100 := ⟨by decide, (Nat.le_of_ble_eq_true rfl), rfl⟩
theorem arM_34 : ArOK SM 34 1 100 := ⟨by decide, (Nat.le_of_ble_eq_true rfl), rfl⟩
theorem arM_35 : ArOK SM 35 1 100 := ⟨by decide, (Nat.le_of_ble_eq_true rfl), rfl⟩
theorem arM_36 : ArOK SM 36 1 100 := ⟨by decide, (Nat.le_of_ble_eq_true rfl), rfl⟩
theorem arM_37 : ArOK SM 37 1 8 := ⟨by decide, (Nat.le_of_ble_eq_true rfl), rfl⟩
theorem arM_38 : ArOK SM 38 1 8 := ⟨by decide, (Nat.le_of_ble_eq_true rfl), rfl⟩
theorem arM_39 : ArOK SM 39 1 8 := ⟨by decide, (Nat.le_of_ble_eq_true rfl), rfl⟩
theorem arM_40 : ArOK SM 40 1 100 := ⟨by decide, (Nat.le_of_ble_eq_true rfl), rfl⟩
theorem arM_41 : ArOK SM 41 1 100 := ⟨by decide, (Nat.le_of_ble_eq_true rfl), rfl⟩
theorem arM_42 : ArOK SM 42 1 100 := ⟨by decide, (Nat.le_of_ble_eq_true rfl), rfl⟩
theorem arM_43 : ArOK SM 43 1 10000 := ⟨by decide, (Nat.le_of_ble_eq_true rfl), rfl⟩
theorem arM_44 : ArOK SM 44 1 100 := ⟨by decide, (Nat.le_of_ble_eq_true rfl), rfl⟩
theorem arM_45 : ArOK SM 45 1 16016 := ⟨by decide, (Nat.le_of_ble_eq_true rfl), rfl⟩
theorem arM_46 : ArOK SM 46 1 32768 := ⟨by decide, (Nat.le_of_ble_eq_true rfl), rfl⟩
theorem arM_47 : ArOK SM 47 1 140000 := ⟨by decide, (Nat.le_of_ble_eq_true rfl), rfl⟩
theorem arM_48 : ArOK SM 48 1 26000 := ⟨by decide, (Nat.le_of_ble_eq_true rfl), rfl⟩
theorem arM_49 : ArOK SM 49 1 260 := ⟨by decide, (Nat.le_of_ble_eq_true rfl), rfl⟩
theorem arM_50 : ArOK SM 50 1 260 := ⟨by decide, (Nat.le_of_ble_eq_true rfl), rfl⟩
theorem arM_51 : ArOK SM 51 1 260 := ⟨by decide, (Nat.le_of_ble_eq_true rfl), rfl⟩
theorem arM_52 : ArOK SM 52 0 4096 := ⟨by decide, (Nat.le_of_ble_eq_true rfl), rfl⟩
theorem arM_53 : ArOK SM 53 0 4096 := ⟨by decide, (Nat.le_of_ble_eq_true rfl), rfl⟩
theorem arM_54 : ArOK SM 54 1 10000 := ⟨by decide, (Nat.le_of_ble_eq_true rfl), rfl⟩
theorem mV_X12_takeBytes : MeV y_X12_takeBytes b_X12_takeBytes 3 none 1 := ⟨m_789, m_1, m_788, ms_X12_takeBytes, by decide, by decide, by decide +kernel⟩
theorem mV_X10_scan : MeV y_X10_scan b_X10_scan 4 none 1 := ⟨m_801, m_2, m_800, ms_X10_scan, by decide, by decide, by decide +kernel⟩
theorem mV_X10_skipBlanks : MeV y_X10_skipBlanks b_X10_skipBlanks 4 (some .boolean) 0 := ⟨m_805, m_2, m_804, ms_X10_skipBlanks, by decide, by decide, by decide +kernel⟩
theorem mV_X10_byteAt : MeV y_X10_byteAt b_X10_byteAt 2 (some .int) 1 := ⟨m_809, m_2, m_808, ms_X10_byteAt, by decide, by decide, by decide +kernel⟩
theorem mS_X10_mayOccur : MeS y_X10_mayOccur b_X10_mayOccur 1 (some .boolean) 1 := ⟨m_816, m_2, m_815, by decide, by decide, by decide +kernel⟩
theorem mV_X10_add : MeV y_X10_add b_X10_add 4 (some .boolean) 3 := ⟨m_824, m_2, m_823, ms_X10_add, by decide, by decide, by decide +kernel⟩
theorem mV_X10_bad : MeV y_X10_bad b_X10_bad 2 (some .boolean) 1 := ⟨m_820, m_2, m_819, ms_X10_bad, by decide, by decide, by decide +kernel⟩
theorem mS_X10_isLetter : MeS y_X10_isLetter b_X10_isLetter 1 (some .boolean) 1 := ⟨m_835, m_2, m_834, by decide, by decide, by decide +kernel⟩
theorem mV_X10_listed : MeV y_X10_listed b_X10_listed 6 (some .int) 2 := ⟨m_847, m_2, m_846, ms_X10_listed, by decide, by decide, by decide +kernel⟩
theorem mS_X10_isDigit : MeS y_X10_isDigit b_X10_isDigit 1 (some .boolean) 1 := ⟨m_842, m_2, m_841, by decide, by decide, by decide +kernel⟩
theorem mV_X10_codeAt : MeV y_X10_codeAt b_X10_codeAt 5 (some .int) 2 := ⟨m_878, m_2, m_877, ms_X10_codeAt, by decide, by decide, by decide +kernel⟩
theorem mV_X3_expect : MeV y_X3_expect b_X3_expect 2 none 1 := ⟨m_906, m_3, m_905, ms_X3_expect, by decide, by decide, by decide +kernel⟩
theorem mV_X3_fail : MeV y_X3_fail b_X3_fail 1 none 0 := ⟨m_910, m_3, m_909, ms_X3_fail, by decide, by decide, by decide +kernel⟩
theorem mV_X3_advance : MeV y_X3_advance b_X3_advance 2 none 0 := ⟨m_902, m_3, m_901, ms_X3_advance, by decide, by decide, by decide +kernel⟩
theorem mS_X12_at : MeS y_X12_at b_X12_at 2 (some .int) 2 := ⟨m_949, m_1, m_948, by decide, by decide, by decide +kernel⟩
theorem mS_X3_levelOf : MeS y_X3_levelOf b_X3_levelOf 2 (some .int) 1 := ⟨m_972, m_3, m_971, by decide, by decide, by decide +kernel⟩
theorem mV_X3_add : MeV y_X3_add b_X3_add 6 (some .int) 4 := ⟨m_926, m_3, m_925, ms_X3_add, by decide, by decide, by decide +kernel⟩
theorem mS_X8_parameters : MeS y_X8_parameters b_X8_parameters 1 (some .int) 1 := ⟨m_999, m_5, m_998, by decide, by decide, by decide +kernel⟩
theorem mV_X11_finish : MeV y_X11_finish b_X11_finish 6 none 0 := ⟨m_1485, m_10, m_1484, ms_X11_finish, by decide, by decide, by decide +kernel⟩
theorem mV_X11_leave : MeV y_X11_leave b_X11_leave 1 none 0 := ⟨m_1048, m_10, m_1047, ms_X11_leave, by decide, by decide, by decide +kernel⟩
theorem mV_X2_number : MeV y_X2_number b_X2_number 3 none 1 := ⟨m_1062, m_11, m_1061, ms_X2_number, by decide, by decide, by decide +kernel⟩
theorem mV_X2_push : MeV y_X2_push b_X2_push 2 (some (.object "LinkedUnits$Operand")) 0 := ⟨m_1066, m_11, m_1065, ms_X2_push, by decide, by decide, by decide +kernel⟩
theorem mV_X6_reset : MeV y_X6_reset b_X6_reset 2 none 1 := ⟨m_1070, m_12, m_1069, ms_X6_reset, by decide, by decide, by decide +kernel⟩
theorem mS_X12_set : MeS y_X12_set b_X12_set 3 none 3 := ⟨m_981, m_1, m_980, by decide, by decide, by decide +kernel⟩
theorem mV_X10_widthAt : MeV y_X10_widthAt b_X10_widthAt 2 (some .int) 1 := ⟨m_882, m_2, m_881, ms_X10_widthAt, by decide, by decide, by decide +kernel⟩
theorem mV_X11_localFrom : MeV y_X11_localFrom b_X11_localFrom 5 (some .int) 2 := ⟨m_1111, m_10, m_1110, ms_X11_localFrom, by decide, by decide, by decide +kernel⟩
theorem mV_X10_sameName : MeV y_X10_sameName b_X10_sameName 7 (some .boolean) 2 := ⟨m_1116, m_2, m_1115, ms_X10_sameName, by decide, by decide, by decide +kernel⟩
theorem mV_X11_fail : MeV y_X11_fail b_X11_fail 3 none 2 := ⟨m_1093, m_10, m_1092, ms_X11_fail, by decide, by decide, by decide +kernel⟩
theorem mV_X6_become : MeV y_X6_become b_X6_become 3 none 2 := ⟨m_1103, m_12, m_1102, ms_X6_become, by decide, by decide, by decide +kernel⟩
theorem mV_X0_emit : MeV y_X0_emit b_X0_emit 6 (some .int) 4 := ⟨m_1074, m_4, m_1073, ms_X0_emit, by decide, by decide, by decide +kernel⟩
theorem mV_X8_mark : MeV y_X8_mark b_X8_mark 3 none 2 := ⟨m_1136, m_5, m_1135, ms_X8_mark, by decide, by decide, by decide +kernel⟩
theorem mV_X2_pop : MeV y_X2_pop b_X2_pop 2 (some (.object "LinkedUnits$Operand")) 0 := ⟨m_1159, m_11, m_1158, ms_X2_pop, by decide, by decide, by decide +kernel⟩
theorem mV_X2_top : MeV y_X2_top b_X2_top 1 (some (.object "LinkedUnits$Operand")) 0 := ⟨m_1163, m_11, m_1162, ms_X2_top, by decide, by decide, by decide +kernel⟩
theorem mV_X6_isPlace : MeV y_X6_isPlace b_X6_isPlace 1 (some .boolean) 0 := ⟨m_1171, m_12, m_1170, ms_X6_isPlace, by decide, by decide, by decide +kernel⟩
theorem mV_X2_refuse : MeV y_X2_refuse b_X2_refuse 2 none 1 := ⟨m_1129, m_11, m_1128, ms_X2_refuse, by decide, by decide, by decide +kernel⟩
theorem mV_X2_lineOf : MeV y_X2_lineOf b_X2_lineOf 2 (some .int) 1 := ⟨m_1185, m_11, m_1184, ms_X2_lineOf, by decide, by decide, by decide +kernel⟩
theorem mV_X2_kindOf : MeV y_X2_kindOf b_X2_kindOf 2 (some .int) 1 := ⟨m_1197, m_11, m_1196, ms_X2_kindOf, by decide, by decide, by decide +kernel⟩
theorem mV_X6_fits : MeV y_X6_fits b_X6_fits 2 (some .boolean) 1 := ⟨m_1177, m_12, m_1176, ms_X6_fits, by decide, by decide, by decide +kernel⟩
theorem mV_X6_isConstant : MeV y_X6_isConstant b_X6_isConstant 1 (some .boolean) 0 := ⟨m_1225, m_12, m_1224, ms_X6_isConstant, by decide, by decide, by decide +kernel⟩
theorem mS_X5_compared : MeS y_X5_compared b_X5_compared 4 (some .boolean) 3 := ⟨m_1231, m_17, m_1230, by decide, by decide, by decide +kernel⟩
theorem mV_X0_cut : MeV y_X0_cut b_X0_cut 2 none 1 := ⟨m_1240, m_4, m_1239, ms_X0_cut, by decide, by decide, by decide +kernel⟩
theorem mV_X2_step : MeV y_X2_step b_X2_step 6 none 3 := ⟨m_1261, m_11, m_1260, ms_X2_step, by decide, by decide, by decide +kernel⟩
theorem mV_X2_raise : MeV y_X2_raise b_X2_raise 4 none 3 := ⟨m_1189, m_11, m_1188, ms_X2_raise, by decide, by decide, by decide +kernel⟩
theorem mS_X5_inverted : MeS y_X5_inverted b_X5_inverted 2 (some .int) 2 := ⟨m_1268, m_17, m_1267, by decide, by decide, by decide +kernel⟩
theorem mV_X2_loaded : MeV y_X2_loaded b_X2_loaded 2 (some (.object "LinkedUnits$Operand")) 1 := ⟨m_1167, m_11, m_1166, ms_X2_loaded, by decide, by decide, by decide +kernel⟩
theorem mV_X11_open : MeV y_X11_open b_X11_open 1 none 0 := ⟨m_1292, m_10, m_1291, ms_X11_open, by decide, by decide, by decide +kernel⟩
theorem mV_X7_finish : MeV y_X7_finish b_X7_finish 1 none 0 := ⟨m_1322, m_14, m_1321, ms_X7_finish, by decide, by decide, by decide +kernel⟩
theorem mV_X2_unless : MeV y_X2_unless b_X2_unless 3 (some .int) 2 := ⟨m_1276, m_11, m_1275, ms_X2_unless, by decide, by decide, by decide +kernel⟩
theorem mV_X0_aim : MeV y_X0_aim b_X0_aim 6 none 2 := ⟨m_1212, m_4, m_1211, ms_X0_aim, by decide, by decide, by decide +kernel⟩
theorem mV_X7_jumpBack : MeV y_X7_jumpBack b_X7_jumpBack 2 none 1 := ⟨m_1343, m_14, m_1342, ms_X7_jumpBack, by decide, by decide, by decide +kernel⟩
theorem mV_X7_condition : MeV y_X7_condition b_X7_condition 3 (some (.object "LinkedUnits$Operand")) 1 := ⟨m_1306, m_14, m_1305, ms_X7_condition, by decide, by decide, by decide +kernel⟩
theorem mV_X7_turn : MeV y_X7_turn b_X7_turn 2 none 1 := ⟨m_1339, m_14, m_1338, ms_X7_turn, by decide, by decide, by decide +kernel⟩
theorem mV_X1_variable : MeV y_X1_variable b_X1_variable 6 none 3 := ⟨m_1360, m_13, m_1359, ms_X1_variable, by decide, by decide, by decide +kernel⟩
theorem mV_X1_outer : MeV y_X1_outer b_X1_outer 6 none 3 := ⟨m_1387, m_13, m_1386, ms_X1_outer, by decide, by decide, by decide +kernel⟩
theorem mV_X11_scopeStart : MeV y_X11_scopeStart b_X11_scopeStart 1 (some .int) 0 := ⟨m_1368, m_10, m_1367, ms_X11_scopeStart, by decide, by decide, by decide +kernel⟩
theorem mV_X11_outerOf : MeV y_X11_outerOf b_X11_outerOf 3 (some .int) 1 := ⟨m_1120, m_10, m_1119, ms_X11_outerOf, by decide, by decide, by decide +kernel⟩
theorem mV_X1_checkOuter : MeV y_X1_checkOuter b_X1_checkOuter 4 none 3 := ⟨m_1397, m_13, m_1396, ms_X1_checkOuter, by decide, by decide, by decide +kernel⟩
theorem mV_X8_is : MeV y_X8_is b_X8_is 3 (some .boolean) 2 := ⟨m_1124, m_5, m_1123, ms_X8_is, by decide, by decide, by decide +kernel⟩
theorem mV_X8_declare : MeV y_X8_declare b_X8_declare 5 (some .int) 3 := ⟨m_1405, m_5, m_1404, ms_X8_declare, by decide, by decide, by decide +kernel⟩
theorem mV_X6_isInitial : MeV y_X6_isInitial b_X6_isInitial 1 (some .boolean) 0 := ⟨m_1424, m_12, m_1423, ms_X6_isInitial, by decide, by decide, by decide +kernel⟩
theorem mV_X8_addInitial : MeV y_X8_addInitial b_X8_addInitial 4 none 3 := ⟨m_1097, m_5, m_1096, ms_X8_addInitial, by decide, by decide, by decide +kernel⟩
theorem mV_X10_readCodes : MeV y_X10_readCodes b_X10_readCodes 5 (some .int) 1 := ⟨m_1084, m_2, m_1083, ms_X10_readCodes, by decide, by decide, by decide +kernel⟩
theorem mV_X11_declareOuter : MeV y_X11_declareOuter b_X11_declareOuter 2 (some .int) 1 := ⟨m_1401, m_10, m_1400, ms_X11_declareOuter, by decide, by decide, by decide +kernel⟩
theorem mV_X0_settle : MeV y_X0_settle b_X0_settle 7 none 2 := ⟨m_1467, m_4, m_1466, ms_X0_settle, by decide, by decide, by decide +kernel⟩
theorem mV_X2_take : MeV y_X2_take b_X2_take 3 none 1 := ⟨m_1057, m_11, m_1056, ms_X2_take, by decide, by decide, by decide +kernel⟩
theorem mV_X8_nameStart : MeV y_X8_nameStart b_X8_nameStart 2 (some .int) 1 := ⟨m_1495, m_5, m_1494, ms_X8_nameStart, by decide, by decide, by decide +kernel⟩
theorem mV_X8_has : MeV y_X8_has b_X8_has 2 (some .boolean) 1 := ⟨m_1516, m_5, m_1515, ms_X8_has, by decide, by decide, by decide +kernel⟩
theorem mV_X8_firstOf : MeV y_X8_firstOf b_X8_firstOf 2 (some .int) 1 := ⟨m_1524, m_5, m_1523, ms_X8_firstOf, by decide, by decide, by decide +kernel⟩
theorem mV_X8_symbolAt : MeV y_X8_symbolAt b_X8_symbolAt 5 (some .int) 2 := ⟨m_1533, m_5, m_1532, ms_X8_symbolAt, by decide, by decide, by decide +kernel⟩
theorem mV_X4_choose : MeV y_X4_choose b_X4_choose 3 (some .int) 1 := ⟨m_1551, m_15, m_1550, ms_X4_choose, by decide, by decide, by decide +kernel⟩
theorem mV_X4_join : MeV y_X4_join b_X4_join 4 (some .int) 0 := ⟨m_1561, m_15, m_1560, ms_X4_join, by decide, by decide, by decide +kernel⟩
theorem mV_X4_settle : MeV y_X4_settle b_X4_settle 6 none 0 := ⟨m_1600, m_15, m_1599, ms_X4_settle, by decide, by decide, by decide +kernel⟩
theorem mV_X4_isWrong : MeV y_X4_isWrong b_X4_isWrong 4 (some .boolean) 3 := ⟨m_1579, m_15, m_1578, ms_X4_isWrong, by decide, by decide, by decide +kernel⟩
theorem mV_X4_definition : MeV y_X4_definition b_X4_definition 4 (some .int) 2 := ⟨m_1583, m_15, m_1582, ms_X4_definition, by decide, by decide, by decide +kernel⟩
theorem mV_X4_find : MeV y_X4_find b_X4_find 9 (some .int) 5 := ⟨m_1565, m_15, m_1564, ms_X4_find, by decide, by decide, by decide +kernel⟩
theorem mV_X4_refer : MeV y_X4_refer b_X4_refer 3 none 1 := ⟨m_1604, m_15, m_1603, ms_X4_refer, by decide, by decide, by decide +kernel⟩
theorem mV_X4_cellOf : MeV y_X4_cellOf b_X4_cellOf 4 (some .int) 2 := ⟨m_1616, m_15, m_1615, ms_X4_cellOf, by decide, by decide, by decide +kernel⟩
theorem mV_X9_give : MeV y_X9_give b_X9_give 2 (some .int) 1 := ⟨m_1624, m_16, m_1623, ms_X9_give, by decide, by decide, by decide +kernel⟩
theorem mV_X5_execute : MeV y_X5_execute b_X5_execute 6 (some .int) 1 := ⟨m_1632, m_17, m_1631, ms_X5_execute, by decide, by decide, by decide +kernel⟩
theorem mV_X9_useUp : MeV y_X9_useUp b_X9_useUp 1 none 0 := ⟨m_1755, m_16, m_1754, ms_X9_useUp, by decide, by decide, by decide +kernel⟩
theorem mS_Arrays_fill : MeS y_Arrays_fill b_Arrays_fill 4 none 2 := ⟨m_1639, m_26, m_1638, by decide, by decide, by decide +kernel⟩
theorem mV_X4_fill : MeV y_X4_fill b_X4_fill 8 none 1 := ⟨m_1643, m_15, m_1642, ms_X4_fill, by decide, by decide, by decide +kernel⟩
theorem mV_X5_turn : MeV y_X5_turn b_X5_turn 2 (some .boolean) 1 := ⟨m_1655, m_17, m_1654, ms_X5_turn, by decide, by decide, by decide +kernel⟩
theorem mV_X5_fail : MeV y_X5_fail b_X5_fail 3 none 2 := ⟨m_1659, m_17, m_1658, ms_X5_fail, by decide, by decide, by decide +kernel⟩
theorem mV_X5_stray : MeV y_X5_stray b_X5_stray 1 none 0 := ⟨m_1676, m_17, m_1675, ms_X5_stray, by decide, by decide, by decide +kernel⟩
theorem mV_X5_pop : MeV y_X5_pop b_X5_pop 1 (some .int) 0 := ⟨m_1684, m_17, m_1683, ms_X5_pop, by decide, by decide, by decide +kernel⟩
theorem mV_X5_decide : MeV y_X5_decide b_X5_decide 3 none 2 := ⟨m_1697, m_17, m_1696, ms_X5_decide, by decide, by decide, by decide +kernel⟩
theorem mV_X5_push : MeV y_X5_push b_X5_push 2 none 1 := ⟨m_1689, m_17, m_1688, ms_X5_push, by decide, by decide, by decide +kernel⟩
theorem mV_X5_useLibrary : MeV y_X5_useLibrary b_X5_useLibrary 4 none 2 := ⟨m_1705, m_17, m_1704, ms_X5_useLibrary, by decide, by decide, by decide +kernel⟩
theorem mV_X9_print : MeV y_X9_print b_X9_print 7 (some .boolean) 1 := ⟨m_1717, m_16, m_1716, ms_X9_print, by decide, by decide, by decide +kernel⟩
theorem mV_X9_put : MeV y_X9_put b_X9_put 2 (some .boolean) 1 := ⟨m_1713, m_16, m_1712, ms_X9_put, by decide, by decide, by decide +kernel⟩
theorem mS_X5_isCell : MeS y_X5_isCell b_X5_isCell 1 (some .boolean) 1 := ⟨m_1735, m_17, m_1734, by decide, by decide, by decide +kernel⟩
theorem mV_X5_peeked : MeV y_X5_peeked b_X5_peeked 1 (some .int) 0 := ⟨m_1747, m_17, m_1746, ms_X5_peeked, by decide, by decide, by decide +kernel⟩
theorem mV_X5_stepped : MeV y_X5_stepped b_X5_stepped 5 none 3 := ⟨m_1739, m_17, m_1738, ms_X5_stepped, by decide, by decide, by decide +kernel⟩
theorem mV_X8_objectAt : MeV y_X8_objectAt b_X8_objectAt 3 (some .int) 1 := ⟨m_1771, m_5, m_1770, ms_X8_objectAt, by decide, by decide, by decide +kernel⟩
theorem mV_X9_byteAt : MeV y_X9_byteAt b_X9_byteAt 2 (some .int) 1 := ⟨m_1783, m_16, m_1782, ms_X9_byteAt, by decide, by decide, by decide +kernel⟩
theorem mV_X3_statement : MeV y_X3_statement b_X3_statement 5 none 1 := ⟨m_1011, m_3, m_1010, ms_X3_statement, by decide, by decide, by decide +kernel⟩
theorem mV_X3_condition : MeV y_X3_condition b_X3_condition 3 none 2 := ⟨m_1019, m_3, m_1018, ms_X3_condition, by decide, by decide, by decide +kernel⟩
theorem mV_String_length : MeV y_String_length b_String_length 1 (some .int) 0 := ⟨m_174, m_6, m_172, m_173, by decide, by decide, by decide +kernel⟩
theorem mV_String_charAt : MeV y_String_charAt b_String_charAt 2 (some .char) 1 := ⟨m_184, m_6, m_182, m_183, by decide, by decide, by decide +kernel⟩
theorem mV_X10_isNext : MeV y_X10_isNext b_X10_isNext 5 (some .boolean) 3 := ⟨m_853, m_2, m_852, ms_X10_isNext, by decide, by decide, by decide +kernel⟩
theorem mV_X8_isNamed : MeV y_X8_isNamed b_X8_isNamed 7 (some .boolean) 4 := ⟨m_1571, m_5, m_1570, ms_X8_isNamed, by decide, by decide, by decide +kernel⟩
theorem mV_X10_skipComment : MeV y_X10_skipComment b_X10_skipComment 3 (some .boolean) 0 := ⟨m_828, m_2, m_827, ms_X10_skipComment, by decide, by decide, by decide +kernel⟩
theorem mV_X10_sign : MeV y_X10_sign b_X10_sign 4 (some .boolean) 0 := ⟨m_890, m_2, m_889, ms_X10_sign, by decide, by decide, by decide +kernel⟩
theorem mS_X10_sixteenth : MeS y_X10_sixteenth b_X10_sixteenth 1 (some .int) 1 := ⟨m_856, m_2, m_855, by decide, by decide, by decide +kernel⟩
theorem mV_X3_accept : MeV y_X3_accept b_X3_accept 3 (some .boolean) 1 := ⟨m_969, m_3, m_968, ms_X3_accept, by decide, by decide, by decide +kernel⟩
theorem mV_X3_stars : MeV y_X3_stars b_X3_stars 2 (some .int) 0 := ⟨m_914, m_3, m_913, ms_X3_stars, by decide, by decide, by decide +kernel⟩
theorem mV_X3_initial : MeV y_X3_initial b_X3_initial 8 none 2 := ⟨m_985, m_3, m_984, ms_X3_initial, by decide, by decide, by decide +kernel⟩
theorem mV_X3_expression : MeV y_X3_expression b_X3_expression 3 none 1 := ⟨m_930, m_3, m_929, ms_X3_expression, by decide, by decide, by decide +kernel⟩
theorem mS_X8_parameter : MeS y_X8_parameter b_X8_parameter 2 (some .int) 2 := ⟨m_1003, m_5, m_1002, by decide, by decide, by decide +kernel⟩
theorem mV_X3_parameters : MeV y_X3_parameters b_X3_parameters 7 (some .int) 0 := ⟨m_993, m_3, m_992, ms_X3_parameters, by decide, by decide, by decide +kernel⟩
theorem mS_X8_withParameter : MeS y_X8_withParameter b_X8_withParameter 2 (some .int) 2 := ⟨m_996, m_5, m_995, by decide, by decide, by decide +kernel⟩
theorem mV_X7_constant : MeV y_X7_constant b_X7_constant 6 (some .int) 2 := ⟨m_1477, m_14, m_1476, ms_X7_constant, by decide, by decide, by decide +kernel⟩
theorem mV_X11_mentionCall : MeV y_X11_mentionCall b_X11_mentionCall 4 none 2 := ⟨m_1149, m_10, m_1148, ms_X11_mentionCall, by decide, by decide, by decide +kernel⟩
theorem mV_X2_fetch : MeV y_X2_fetch b_X2_fetch 3 none 2 := ⟨m_1201, m_11, m_1200, ms_X2_fetch, by decide, by decide, by decide +kernel⟩
theorem mS_X5_worked : MeS y_X5_worked b_X5_worked 3 (some .int) 3 := ⟨m_1228, m_17, m_1227, by decide, by decide, by decide +kernel⟩
theorem mV_X2_invert : MeV y_X2_invert b_X2_invert 5 none 3 := ⟨m_1265, m_11, m_1264, ms_X2_invert, by decide, by decide, by decide +kernel⟩
theorem mV_X2_fold : MeV y_X2_fold b_X2_fold 2 none 1 := ⟨m_1236, m_11, m_1235, ms_X2_fold, by decide, by decide, by decide +kernel⟩
theorem mV_X11_close : MeV y_X11_close b_X11_close 1 none 0 := ⟨m_1296, m_10, m_1295, ms_X11_close, by decide, by decide, by decide +kernel⟩
theorem mV_X1_checkSquare : MeV y_X1_checkSquare b_X1_checkSquare 2 none 1 := ⟨m_1374, m_13, m_1373, ms_X1_checkSquare, by decide, by decide, by decide +kernel⟩
theorem mV_X11_declareLocal : MeV y_X11_declareLocal b_X11_declareLocal 5 none 3 := ⟨m_1378, m_10, m_1377, ms_X11_declareLocal, by decide, by decide, by decide +kernel⟩
theorem mV_X1_storeLocal : MeV y_X1_storeLocal b_X1_storeLocal 1 none 0 := ⟨m_1383, m_13, m_1382, ms_X1_storeLocal, by decide, by decide, by decide +kernel⟩
theorem mV_X0_header : MeV y_X0_header b_X0_header 2 (some .int) 0 := ⟨m_1448, m_4, m_1447, ms_X0_header, by decide, by decide, by decide +kernel⟩
theorem mV_X11_enter : MeV y_X11_enter b_X11_enter 2 none 1 := ⟨m_1452, m_10, m_1451, ms_X11_enter, by decide, by decide, by decide +kernel⟩
theorem mV_X0_thread : MeV y_X0_thread b_X0_thread 7 none 1 := ⟨m_1472, m_4, m_1471, ms_X0_thread, by decide, by decide, by decide +kernel⟩
theorem mV_X8_symbolsOf : MeV y_X8_symbolsOf b_X8_symbolsOf 4 (some .int) 1 := ⟨m_1520, m_5, m_1519, ms_X8_symbolsOf, by decide, by decide, by decide +kernel⟩
theorem mV_X8_nameByte : MeV y_X8_nameByte b_X8_nameByte 5 (some .int) 2 := ⟨m_1538, m_5, m_1537, ms_X8_nameByte, by decide, by decide, by decide +kernel⟩
theorem mV_X5_step : MeV y_X5_step b_X5_step 4 none 0 := ⟨m_1671, m_17, m_1670, ms_X5_step, by decide, by decide, by decide +kernel⟩
theorem mV_X9_begin : MeV y_X9_begin b_X9_begin 1 none 0 := ⟨m_1647, m_16, m_1646, ms_X9_begin, by decide, by decide, by decide +kernel⟩
theorem mV_X5_plain : MeV y_X5_plain b_X5_plain 5 none 2 := ⟨m_1751, m_17, m_1750, ms_X5_plain, by decide, by decide, by decide +kernel⟩
theorem mV_X5_call : MeV y_X5_call b_X5_call 3 none 2 := ⟨m_1701, m_17, m_1700, ms_X5_call, by decide, by decide, by decide +kernel⟩
theorem mV_X9_next : MeV y_X9_next b_X9_next 1 (some .int) 0 := ⟨m_1709, m_16, m_1708, ms_X9_next, by decide, by decide, by decide +kernel⟩
theorem mV_X3_deeper : MeV y_X3_deeper b_X3_deeper 3 (some .boolean) 1 := ⟨m_946, m_3, m_945, ms_X3_deeper, by decide, by decide, by decide +kernel⟩
theorem mV_X3_call : MeV y_X3_call b_X3_call 5 none 2 := ⟨m_965, m_3, m_964, ms_X3_call, by decide, by decide, by decide +kernel⟩
theorem mV_X3_primary : MeV y_X3_primary b_X3_primary 3 none 1 := ⟨m_961, m_3, m_960, ms_X3_primary, by decide, by decide, by decide +kernel⟩
theorem mV_X3_unary : MeV y_X3_unary b_X3_unary 3 none 1 := ⟨m_942, m_3, m_941, ms_X3_unary, by decide, by decide, by decide +kernel⟩
theorem mV_X3_behind : MeV y_X3_behind b_X3_behind 5 none 1 := ⟨m_957, m_3, m_956, ms_X3_behind, by decide, by decide, by decide +kernel⟩
theorem mV_X3_cast : MeV y_X3_cast b_X3_cast 4 none 1 := ⟨m_953, m_3, m_952, ms_X3_cast, by decide, by decide, by decide +kernel⟩
theorem mV_X3_settle : MeV y_X3_settle b_X3_settle 4 none 2 := ⟨m_978, m_3, m_977, ms_X3_settle, by decide, by decide, by decide +kernel⟩
theorem mV_X3_binary : MeV y_X3_binary b_X3_binary 4 none 1 := ⟨m_938, m_3, m_937, ms_X3_binary, by decide, by decide, by decide +kernel⟩
theorem mV_X3_choice : MeV y_X3_choice b_X3_choice 3 none 1 := ⟨m_934, m_3, m_933, ms_X3_choice, by decide, by decide, by decide +kernel⟩
theorem mV_X10_skipLine : MeV y_X10_skipLine b_X10_skipLine 1 (some .boolean) 0 := ⟨m_813, m_2, m_812, ms_X10_skipLine, by decide, by decide, by decide +kernel⟩
theorem mV_X3_head : MeV y_X3_head b_X3_head 7 (some .boolean) 3 := ⟨m_989, m_3, m_988, ms_X3_head, by decide, by decide, by decide +kernel⟩
theorem mV_X2_address : MeV y_X2_address b_X2_address 3 none 1 := ⟨m_1140, m_11, m_1139, ms_X2_address, by decide, by decide, by decide +kernel⟩
theorem mS_X2_typeOf : MeS y_X2_typeOf b_X2_typeOf 4 (some .int) 3 := ⟨m_1208, m_11, m_1207, by decide, by decide, by decide +kernel⟩
theorem mS_X2_combine : MeS y_X2_combine b_X2_combine 5 none 3 := ⟨m_1221, m_11, m_1220, by decide, by decide, by decide +kernel⟩
theorem mV_X2_operate : MeV y_X2_operate b_X2_operate 5 none 3 := ⟨m_1218, m_11, m_1217, ms_X2_operate, by decide, by decide, by decide +kernel⟩
theorem mV_X2_pointed : MeV y_X2_pointed b_X2_pointed 3 none 2 := ⟨m_1253, m_11, m_1252, ms_X2_pointed, by decide, by decide, by decide +kernel⟩
theorem mV_X7_conditional : MeV y_X7_conditional b_X7_conditional 4 none 2 := ⟨m_1302, m_14, m_1301, ms_X7_conditional, by decide, by decide, by decide +kernel⟩
theorem mV_X7_exitUnless : MeV y_X7_exitUnless b_X7_exitUnless 2 none 1 := ⟨m_1316, m_14, m_1315, ms_X7_exitUnless, by decide, by decide, by decide +kernel⟩
theorem mV_X7_begin : MeV y_X7_begin b_X7_begin 2 none 1 := ⟨m_1311, m_14, m_1310, ms_X7_begin, by decide, by decide, by decide +kernel⟩
theorem mV_X1_joins : MeV y_X1_joins b_X1_joins 7 (some .boolean) 2 := ⟨m_1392, m_13, m_1391, ms_X1_joins, by decide, by decide, by decide +kernel⟩
theorem mV_X1_suits : MeV y_X1_suits b_X1_suits 2 (some .boolean) 1 := ⟨m_1419, m_13, m_1418, ms_X1_suits, by decide, by decide, by decide +kernel⟩
theorem mV_X1_putInitial : MeV y_X1_putInitial b_X1_putInitial 3 none 2 := ⟨m_1428, m_13, m_1427, ms_X1_putInitial, by decide, by decide, by decide +kernel⟩
theorem mV_X5_copyParameters : MeV y_X5_copyParameters b_X5_copyParameters 5 none 2 := ⟨m_1665, m_17, m_1664, ms_X5_copyParameters, by decide, by decide, by decide +kernel⟩
theorem mV_X5_enter : MeV y_X5_enter b_X5_enter 4 none 2 := ⟨m_1651, m_17, m_1650, ms_X5_enter, by decide, by decide, by decide +kernel⟩
theorem mV_X3_body : MeV y_X3_body b_X3_body 2 none 1 := ⟨m_1023, m_3, m_1022, ms_X3_body, by decide, by decide, by decide +kernel⟩
theorem mV_X3_counted : MeV y_X3_counted b_X3_counted 3 none 1 := ⟨m_1031, m_3, m_1030, ms_X3_counted, by decide, by decide, by decide +kernel⟩
theorem mV_X3_variables : MeV y_X3_variables b_X3_variables 10 none 3 := ⟨m_918, m_3, m_917, ms_X3_variables, by decide, by decide, by decide +kernel⟩
theorem mV_X3_bracket : MeV y_X3_bracket b_X3_bracket 4 (some .int) 0 := ⟨m_922, m_3, m_921, ms_X3_bracket, by decide, by decide, by decide +kernel⟩
theorem mV_X2_string : MeV y_X2_string b_X2_string 5 none 1 := ⟨m_1080, m_11, m_1079, ms_X2_string, by decide, by decide, by decide +kernel⟩
theorem mV_X2_named : MeV y_X2_named b_X2_named 5 none 1 := ⟨m_1107, m_11, m_1106, ms_X2_named, by decide, by decide, by decide +kernel⟩
theorem mV_X2_callee : MeV y_X2_callee b_X2_callee 4 none 1 := ⟨m_1145, m_11, m_1144, ms_X2_callee, by decide, by decide, by decide +kernel⟩
theorem mV_X2_argument : MeV y_X2_argument b_X2_argument 5 none 0 := ⟨m_1155, m_11, m_1154, ms_X2_argument, by decide, by decide, by decide +kernel⟩
theorem mV_X1_local : MeV y_X1_local b_X1_local 3 none 2 := ⟨m_1364, m_13, m_1363, ms_X1_local, by decide, by decide, by decide +kernel⟩
theorem mV_X5_inFrame : MeV y_X5_inFrame b_X5_inFrame 6 none 2 := ⟨m_1743, m_17, m_1742, ms_X5_inFrame, by decide, by decide, by decide +kernel⟩
theorem mV_X5_reach : MeV y_X5_reach b_X5_reach 6 none 2 := ⟨m_1732, m_17, m_1731, ms_X5_reach, by decide, by decide, by decide +kernel⟩
theorem mV_X5_lead : MeV y_X5_lead b_X5_lead 4 none 2 := ⟨m_1693, m_17, m_1692, ms_X5_lead, by decide, by decide, by decide +kernel⟩
theorem mV_X5_giveBack : MeV y_X5_giveBack b_X5_giveBack 2 none 0 := ⟨m_1727, m_17, m_1726, ms_X5_giveBack, by decide, by decide, by decide +kernel⟩
theorem mV_X3_simple : MeV y_X3_simple b_X3_simple 3 none 0 := ⟨m_1035, m_3, m_1034, ms_X3_simple, by decide, by decide, by decide +kernel⟩
theorem mV_X3_conditional : MeV y_X3_conditional b_X3_conditional 3 none 1 := ⟨m_1015, m_3, m_1014, ms_X3_conditional, by decide, by decide, by decide +kernel⟩
theorem mV_X3_loop : MeV y_X3_loop b_X3_loop 5 none 1 := ⟨m_1027, m_3, m_1026, ms_X3_loop, by decide, by decide, by decide +kernel⟩
theorem mV_X3_statements : MeV y_X3_statements b_X3_statements 3 none 1 := ⟨m_1007, m_3, m_1006, ms_X3_statements, by decide, by decide, by decide +kernel⟩
theorem mV_X10_token : MeV y_X10_token b_X10_token 2 (some .boolean) 0 := ⟨m_832, m_2, m_831, ms_X10_token, by decide, by decide, by decide +kernel⟩
theorem mS_X10_mayGoOn : MeS y_X10_mayGoOn b_X10_mayGoOn 1 (some .boolean) 1 := ⟨m_893, m_2, m_892, by decide, by decide, by decide +kernel⟩
theorem mV_X2_call : MeV y_X2_call b_X2_call 3 none 1 := ⟨m_1181, m_11, m_1180, ms_X2_call, by decide, by decide, by decide +kernel⟩
theorem mV_X2_left : MeV y_X2_left b_X2_left 4 none 1 := ⟨m_1193, m_11, m_1192, ms_X2_left, by decide, by decide, by decide +kernel⟩
theorem mV_X2_binary : MeV y_X2_binary b_X2_binary 6 none 1 := ⟨m_1205, m_11, m_1204, ms_X2_binary, by decide, by decide, by decide +kernel⟩
theorem mV_X2_assign : MeV y_X2_assign b_X2_assign 7 none 1 := ⟨m_1245, m_11, m_1244, ms_X2_assign, by decide, by decide, by decide +kernel⟩
theorem mV_X2_index : MeV y_X2_index b_X2_index 4 none 1 := ⟨m_1249, m_11, m_1248, ms_X2_index, by decide, by decide, by decide +kernel⟩
theorem mV_X2_unary : MeV y_X2_unary b_X2_unary 4 none 1 := ⟨m_1257, m_11, m_1256, ms_X2_unary, by decide, by decide, by decide +kernel⟩
theorem mV_X2_cast : MeV y_X2_cast b_X2_cast 4 none 2 := ⟨m_1272, m_11, m_1271, ms_X2_cast, by decide, by decide, by decide +kernel⟩
theorem mV_X2_colon : MeV y_X2_colon b_X2_colon 3 none 0 := ⟨m_1280, m_11, m_1279, ms_X2_colon, by decide, by decide, by decide +kernel⟩
theorem mV_X2_choice : MeV y_X2_choice b_X2_choice 6 none 1 := ⟨m_1284, m_11, m_1283, ms_X2_choice, by decide, by decide, by decide +kernel⟩
theorem mV_X7_whileLoop : MeV y_X7_whileLoop b_X7_whileLoop 3 none 2 := ⟨m_1335, m_14, m_1334, ms_X7_whileLoop, by decide, by decide, by decide +kernel⟩
theorem mV_X7_doLoop : MeV y_X7_doLoop b_X7_doLoop 3 none 2 := ⟨m_1347, m_14, m_1346, ms_X7_doLoop, by decide, by decide, by decide +kernel⟩
theorem mV_X7_forLoop : MeV y_X7_forLoop b_X7_forLoop 4 none 3 := ⟨m_1351, m_14, m_1350, ms_X7_forLoop, by decide, by decide, by decide +kernel⟩
theorem mV_X7_leave : MeV y_X7_leave b_X7_leave 4 none 2 := ⟨m_1326, m_14, m_1325, ms_X7_leave, by decide, by decide, by decide +kernel⟩
theorem mV_X1_item : MeV y_X1_item b_X1_item 2 none 0 := ⟨m_1414, m_13, m_1413, ms_X1_item, by decide, by decide, by decide +kernel⟩
theorem mV_X1_fill : MeV y_X1_fill b_X1_fill 4 none 1 := ⟨m_1435, m_13, m_1434, ms_X1_fill, by decide, by decide, by decide +kernel⟩
theorem mV_X1_initial : MeV y_X1_initial b_X1_initial 4 none 2 := ⟨m_1440, m_13, m_1439, ms_X1_initial, by decide, by decide, by decide +kernel⟩
theorem mV_X1_function : MeV y_X1_function b_X1_function 10 none 3 := ⟨m_1444, m_13, m_1443, ms_X1_function, by decide, by decide, by decide +kernel⟩
theorem mV_X1_parameter : MeV y_X1_parameter b_X1_parameter 3 none 2 := ⟨m_1457, m_13, m_1456, ms_X1_parameter, by decide, by decide, by decide +kernel⟩
theorem mV_X1_functionEnd : MeV y_X1_functionEnd b_X1_functionEnd 7 none 0 := ⟨m_1461, m_13, m_1460, ms_X1_functionEnd, by decide, by decide, by decide +kernel⟩
theorem mV_X4_agrees : MeV y_X4_agrees b_X4_agrees 7 (some .boolean) 2 := ⟨m_1588, m_15, m_1587, ms_X4_agrees, by decide, by decide, by decide +kernel⟩
theorem mV_X5_calculate : MeV y_X5_calculate b_X5_calculate 5 none 2 := ⟨m_1680, m_17, m_1679, ms_X5_calculate, by decide, by decide, by decide +kernel⟩
theorem mV_X10_string : MeV y_X10_string b_X10_string 3 (some .boolean) 0 := ⟨m_886, m_2, m_885, ms_X10_string, by decide, by decide, by decide +kernel⟩
theorem mV_X10_character : MeV y_X10_character b_X10_character 3 (some .boolean) 0 := ⟨m_874, m_2, m_873, ms_X10_character, by decide, by decide, by decide +kernel⟩
theorem mV_X10_digits : MeV y_X10_digits b_X10_digits 5 (some .boolean) 0 := ⟨m_864, m_2, m_863, ms_X10_digits, by decide, by decide, by decide +kernel⟩
theorem mV_X10_sixteens : MeV y_X10_sixteens b_X10_sixteens 4 (some .boolean) 0 := ⟨m_860, m_2, m_859, ms_X10_sixteens, by decide, by decide, by decide +kernel⟩
theorem mV_X10_word : MeV y_X10_word b_X10_word 3 (some .boolean) 0 := ⟨m_839, m_2, m_838, ms_X10_word, by decide, by decide, by decide +kernel⟩
theorem mV_X1_take : MeV y_X1_take b_X1_take 6 none 2 := ⟨m_1355, m_13, m_1354, ms_X1_take, by decide, by decide, by decide +kernel⟩
theorem mV_X7_take : MeV y_X7_take b_X7_take 5 none 2 := ⟨m_1288, m_14, m_1287, ms_X7_take, by decide, by decide, by decide +kernel⟩
theorem mV_X4_dataCells : MeV y_X4_dataCells b_X4_dataCells 3 (some .int) 0 := ⟨m_1596, m_15, m_1595, ms_X4_dataCells, by decide, by decide, by decide +kernel⟩
theorem mV_X4_isMain : MeV y_X4_isMain b_X4_isMain 2 (some .boolean) 1 := ⟨m_1592, m_15, m_1591, ms_X4_isMain, by decide, by decide, by decide +kernel⟩
theorem mV_X4_look : MeV y_X4_look b_X4_look 7 (some .int) 1 := ⟨m_1575, m_15, m_1574, ms_X4_look, by decide, by decide, by decide +kernel⟩
theorem mV_X5_begin : MeV y_X5_begin b_X5_begin 2 none 1 := ⟨m_1636, m_17, m_1635, ms_X5_begin, by decide, by decide, by decide +kernel⟩
theorem mV_X7_giveBack : MeV y_X7_giveBack b_X7_giveBack 5 none 2 := ⟨m_1330, m_14, m_1329, ms_X7_giveBack, by decide, by decide, by decide +kernel⟩
theorem mV_X3_read : MeV y_X3_read b_X3_read 6 (some .boolean) 0 := ⟨m_898, m_3, m_897, ms_X3_read, by decide, by decide, by decide +kernel⟩
theorem mV_X7_walk : MeV y_X7_walk b_X7_walk 6 none 1 := ⟨m_1040, m_14, m_1039, ms_X7_walk, by decide, by decide, by decide +kernel⟩
theorem mV_X11_begin : MeV y_X11_begin b_X11_begin 2 none 1 := ⟨m_1044, m_10, m_1043, ms_X11_begin, by decide, by decide, by decide +kernel⟩
theorem mV_X1_begin : MeV y_X1_begin b_X1_begin 1 none 0 := ⟨m_1052, m_13, m_1051, ms_X1_begin, by decide, by decide, by decide +kernel⟩
theorem mV_X8_keep : MeV y_X8_keep b_X8_keep 2 (some .int) 1 := ⟨m_1500, m_5, m_1499, ms_X8_keep, by decide, by decide, by decide +kernel⟩
theorem mV_X8_forget : MeV y_X8_forget b_X8_forget 1 none 0 := ⟨m_1491, m_5, m_1490, ms_X8_forget, by decide, by decide, by decide +kernel⟩
theorem mS_Preconditions_checkIndex : MeS y_Preconditions_checkIndex b_Preconditions_checkIndex 3 (some .int) 3 := ⟨m_199, m_8, m_198, by decide, by decide, by decide +kernel⟩
theorem mS_String_checkIndex : MeS y_String_checkIndex b_String_checkIndex 2 none 2 := ⟨m_194, m_6, m_193, by decide, by decide, by decide +kernel⟩
theorem mV_String_coder : MeV y_String_coder b_String_coder 1 (some .byte) 0 := ⟨m_178, m_6, m_176, m_177, by decide, by decide, by decide +kernel⟩
theorem mV_String_isLatin1 : MeV y_String_isLatin1 b_String_isLatin1 1 (some .boolean) 0 := ⟨m_188, m_6, m_186, m_187, by decide, by decide, by decide +kernel⟩
theorem mS_StringLatin1_charAt : MeS y_StringLatin1_charAt b_StringLatin1_charAt 2 (some .char) 2 := ⟨m_191, m_7, m_190, by decide, by decide, by decide +kernel⟩
end

section
/-! String.length, charAt on a constant text -/
def QS (σ τ : St) (vs : List Nat) (P : Option Value → Prop) : QR := fun v σ' τ' vs' => σ' = σ ∧ τ' = τ ∧ vs' = vs ∧ P v
def sE (own : String) (k : Nat) (tx : String) (N : Nat) (sa sv : Nat) (f : Nat → Int32) (A : Nat → Prop) (U : State) : Prop :=
  vk_R own k tx sa U ∧ va_O "java/lang/String" sa A U U.heap ∧ va_OF "java/lang/String" "coder" "B" (.int 0) sa A U U.heap ∧ va_OF "java/lang/String" "value" "[B" (.ref sv) sa A U U.heap ∧ va_T .byte sv N (fun j => .int (f j)) A U U.heap ∧ va_Z "java/lang/String" "COMPACT_STRINGS" "Z" (.int 1) A U U.heap ∧ va_Zq "jdk/internal/util/Preconditions" "SIOOBE_FORMATTER" "Ljava/util/function/BiFunction;" A U U.heap
theorem sE_ok (own : String) (k : Nat) (tx : String) (N : Nat) (sa sv : Nat) (f : Nat → Int32) : EnvOK (sE own k tx N sa sv f) := by
  intro A B s U hW hq hAB h
  obtain ⟨h1, h2, h3, h4, h5, h6, h7⟩ := h
  exact ⟨vk_R.warm hW h1, (va_O.moved hW.alike (h2.kept hq)).narrow hAB, (va_OF.moved hW.alike (h3.kept hq)).narrow hAB, (va_OF.moved hW.alike (h4.kept hq)).narrow hAB, (va_T.moved hW.alike (h5.kept hq)).narrow hAB, (va_Z.moved hW.alike (h6.kept hq)).narrow hAB, (va_Zq.moved hW.alike (h7.kept hq)).narrow hAB⟩
section GS
variable {S : Sh} {r : Nat → Nat} {E : (Nat → Prop) → State → Prop} {σ τ : St} {vs : List Nat} {own : String} {kk N sa sv : Nat} {tx : String} {f : Nat → Int32}
theorem g_i2c {X : Cx} {ex : List ExceptionTableEntry} {cc : ByteArray} {own : String} {ret : Option FieldType} {d : Nat} {Qr : QR} {Qt : QT} {L : List (Nat × Value)} {rest : List Value} {pc : Nat} (hF : Fx S r X ex cc own ret d Qr Qt E) {x : Int32} (hd : decode cc pc = .ok (.i2c, 1)) (k : G S r X σ τ vs L (.int ((x.toUInt32 % 65536).toInt32) :: rest) (pc + 1)) : G S r X σ τ vs L (.int x :: rest) pc := by
  obtain ⟨p, l, e, R, s, m, args, below, meth, c, A, D, cy, Q, nL, n0⟩ := X
  obtain ⟨hx, hb, hml, hown, hret, hlk, hR, hQ, hg, hNW, hK, hA, hE, hEo, hex⟩ := hF
  intro H locs ls hP hD hS hl h1 h2
  exact lv_i2c hx hb hd rfl (k H locs ls hP hD hS hl h1 h2)
theorem recv_str (h : ∀ A s, E A s → sE own kk tx N sa sv f A s) : Recv S r E vs "java/lang/String" sa := fun D cy A s H locs σ τ _ _ hS hE => by
  obtain ⟨cell, h1, h2, h3, -⟩ := (h A s hE).2.1.kept hS.2.1
  exact ⟨cell, h1, h2, h3⟩
theorem t_pci (hEo : EnvOK E) (hcap : vs.length ≤ CAP) (k n : Int32) (v3 : Value) (h3 : v3.category = 1) (h0 : 0 ≤ k.toInt) (h1 : k.toInt < n.toInt) (l : Launch) (D : va_G) (cy : Nat → ClassId) : Ct l D cy S r E y_Preconditions_checkIndex (Cond.code y_Preconditions_checkIndex b_Preconditions_checkIndex 3 (some .int)) 0 [.int k, .int n, v3] σ τ vs (QS σ τ vs (fun v => v = some (.int k))) (fun _ _ _ => False) := by
  refine Ct_of hEo (by decide) ?_ hcap (fun X hnn hF => ?_)
  · cases v3 <;> first | exact Nat.le_of_ble_eq_true rfl | (cases h3)
  have e9 : lv_args 0 [.int k, .int n, v3] = [(0, .int k), (1, .int n), (2, v3)] := by
    cases v3 <;> first | rfl | (cases h3)
  rw [e9]
  refine g_iload_n hF d_Preconditions_checkIndex_0 rfl 0 rfl ?_
  refine g_if_lt hF 9 d_Preconditions_checkIndex_1 (by decide) rfl (fun c => absurd c (by omega)) (fun c => ?_)
  refine g_iload_n hF d_Preconditions_checkIndex_4 rfl 0 rfl ?_
  refine g_iload_n hF d_Preconditions_checkIndex_5 rfl 1 rfl ?_
  refine g_icmp_lt hF 16 d_Preconditions_checkIndex_6 (by decide) rfl rfl (fun c => ?_) (fun c => absurd h1 (by omega))
  refine g_iload_n hF d_Preconditions_checkIndex_16 rfl 0 rfl ?_
  exact g_iret hF rfl d_Preconditions_checkIndex_17 ⟨rfl, rfl, rfl, rfl⟩
theorem t_sci (hEo : EnvOK E) (hE : ∀ A s, E A s → sE own kk tx N sa sv f A s) (hcap : vs.length ≤ CAP) (k n : Int32) (h0 : 0 ≤ k.toInt) (h1 : k.toInt < n.toInt) (l : Launch) (D : va_G) (cy : Nat → ClassId) : Ct l D cy S r E y_String_checkIndex (Cond.code y_String_checkIndex b_String_checkIndex 2 none) 1 [.int k, .int n] σ τ vs (QS σ τ vs (fun v => v = none)) (fun _ _ _ => False) := by
  refine Ct_of hEo (by decide) (Nat.le_of_ble_eq_true rfl) hcap (fun X hnn hF => ?_)
  show G S r X σ τ vs [(0, .int k), (1, .int n)] [] 0
  refine g_iload_n hF d_String_checkIndex_0 rfl 0 rfl ?_
  refine g_iload_n hF d_String_checkIndex_1 rfl 1 rfl ?_
  refine g_getsq hF (fun A s h => (hE A s h).2.2.2.2.2.2) m_195 d_String_checkIndex_2 (fun v3 h3 => ?_)
  refine g_callS (As := [.int k, .int n, v3]) (rest := []) hF (t_pci hEo hcap k n v3 h3 h0 h1) (Nat.le_of_ble_eq_true rfl) mS_Preconditions_checkIndex m_197 rfl rfl (Nat.le_of_ble_eq_true rfl) d_String_checkIndex_5 ?_ (fun _ _ _ h => h.elim)
  rintro v σ' τ' vs' ⟨rfl, rfl, rfl, rfl⟩
  refine g_pop hF d_String_checkIndex_8 rfl ?_
  exact g_vret hF rfl d_String_checkIndex_9 ⟨rfl, rfl, rfl, rfl⟩
theorem t_lch (hEo : EnvOK E) (hE : ∀ A s, E A s → sE own kk tx N sa sv f A s) (hcap : vs.length ≤ CAP) (hN : N < 2 ^ 31) (k : Int32) (h0 : 0 ≤ k.toInt) (h1 : k.toInt < N) (l : Launch) (D : va_G) (cy : Nat → ClassId) : Ct l D cy S r E y_StringLatin1_charAt (Cond.code y_StringLatin1_charAt b_StringLatin1_charAt 2 (some .char)) 2 [.ref sv, .int k] σ τ vs (QS σ τ vs (fun v => ∃ x : Int32, v = some (.int x) ∧ narrow .char (.int x) = .int x)) (fun _ _ _ => False) := by
  refine Ct_of hEo (by decide) (Nat.le_of_ble_eq_true rfl) hcap (fun X hnn hF => ?_)
  show G S r X σ τ vs [(0, .ref sv), (1, .int k)] [] 0
  refine g_iload_n hF d_StringLatin1_charAt_0 rfl 1 rfl ?_
  refine g_aload_n hF d_StringLatin1_charAt_1 rfl 0 rfl ?_
  refine g_tlen hF (fun A s h => (hE A s h).2.2.2.2.1) (v := nI N) rfl d_StringLatin1_charAt_2 ?_
  refine g_callS (As := [.int k, .int (nI N)]) (rest := []) hF (t_sci hEo hE hcap k (nI N) h0 (by rw [nI_toInt hN]; exact h1)) (Nat.le_of_ble_eq_true rfl) mS_String_checkIndex m_192 rfl rfl (Nat.le_of_ble_eq_true rfl) d_StringLatin1_charAt_3 ?_ (fun _ _ _ h => h.elim)
  rintro v σ' τ' vs' ⟨rfl, rfl, rfl, rfl⟩
  refine g_aload_n hF d_StringLatin1_charAt_6 rfl 0 rfl ?_
  refine g_iload_n hF d_StringLatin1_charAt_7 rfl 1 rfl ?_
  refine g_tb hF (fun A s h => (hE A s h).2.2.2.2.1) (s_in hN h0 h1) d_StringLatin1_charAt_8 ?_
  refine g_sipush hF (v := 255) d_StringLatin1_charAt_9 (by decide) ?_
  refine g_iand hF d_StringLatin1_charAt_12 ?_
  refine g_i2c hF d_StringLatin1_charAt_13 ?_
  exact g_zret hF rfl (pk_nc _) d_StringLatin1_charAt_14 ⟨rfl, rfl, rfl, _, rfl, pk_nc _⟩
theorem t_coder (hEo : EnvOK E) (hE : ∀ A s, E A s → sE own kk tx N sa sv f A s) (hcap : vs.length ≤ CAP) (l : Launch) (D : va_G) (cy : Nat → ClassId) : Ct l D cy S r E y_String_coder (Cond.code y_String_coder b_String_coder 1 (some .byte)) 0 [.ref sa] σ τ vs (QS σ τ vs (fun v => v = some (.int 0))) (fun _ _ _ => False) := by
  refine Ct_of hEo (by decide) (Nat.le_of_ble_eq_true rfl) hcap (fun X hnn hF => ?_)
  show G S r X σ τ vs [(0, .ref sa)] [] 0
  refine g_gets hF (fun A s h => (hE A s h).2.2.2.2.2.1) m_179 d_String_coder_0 ?_
  refine g_if_eq (xv := 1) hF 13 d_String_coder_3 (by decide) (by decide) (fun c => absurd c (by decide)) (fun _ => ?_)
  refine g_aload_n hF d_String_coder_6 rfl 0 rfl ?_
  refine g_envf hF (fun A s h => (hE A s h).2.2.1) m_2842 d_String_coder_7 ?_
  refine g_goto hF 14 d_String_coder_10 (by decide) ?_
  exact g_zret hF rfl rfl d_String_coder_14 ⟨rfl, rfl, rfl, rfl⟩
theorem t_lat (hEo : EnvOK E) (hE : ∀ A s, E A s → sE own kk tx N sa sv f A s) (hcap : vs.length ≤ CAP) (l : Launch) (D : va_G) (cy : Nat → ClassId) : Ct l D cy S r E y_String_isLatin1 (Cond.code y_String_isLatin1 b_String_isLatin1 1 (some .boolean)) 0 [.ref sa] σ τ vs (QS σ τ vs (fun v => v = some (.int 1))) (fun _ _ _ => False) := by
  refine Ct_of hEo (by decide) (Nat.le_of_ble_eq_true rfl) hcap (fun X hnn hF => ?_)
  show G S r X σ τ vs [(0, .ref sa)] [] 0
  refine g_gets hF (fun A s h => (hE A s h).2.2.2.2.2.1) m_179 d_String_isLatin1_0 ?_
  refine g_if_eq (xv := 1) hF 17 d_String_isLatin1_3 (by decide) (by decide) (fun c => absurd c (by decide)) (fun _ => ?_)
  refine g_aload_n hF d_String_isLatin1_6 rfl 0 rfl ?_
  refine g_envf hF (fun A s h => (hE A s h).2.2.1) m_2842 d_String_isLatin1_7 ?_
  refine g_if_ne (xv := 0) hF 17 d_String_isLatin1_10 (by decide) (by decide) (fun c => absurd c (by decide)) (fun _ => ?_)
  refine g_iconst hF (v := 1) d_String_isLatin1_13 (by decide) ?_
  refine g_goto hF 18 d_String_isLatin1_14 (by decide) ?_
  exact g_zret hF rfl rfl d_String_isLatin1_18 ⟨rfl, rfl, rfl, rfl⟩
theorem t_len (hEo : EnvOK E) (hE : ∀ A s, E A s → sE own kk tx N sa sv f A s) (hcap : vs.length ≤ CAP) (l : Launch) (D : va_G) (cy : Nat → ClassId) : Ct l D cy S r E y_String_length (Cond.code y_String_length b_String_length 1 (some .int)) 1 [.ref sa] σ τ vs (QS σ τ vs (fun v => v = some (.int (nI N)))) (fun _ _ _ => False) := by
  refine Ct_of hEo (by decide) (Nat.le_of_ble_eq_true rfl) hcap (fun X hnn hF => ?_)
  show G S r X σ τ vs [(0, .ref sa)] [] 0
  refine g_aload_n hF d_String_length_0 rfl 0 rfl ?_
  refine g_envf hF (fun A s h => (hE A s h).2.2.2.1) m_2841 d_String_length_1 ?_
  refine g_tlen hF (fun A s h => (hE A s h).2.2.2.2.1) (v := nI N) rfl d_String_length_4 ?_
  refine g_aload_n hF d_String_length_5 rfl 0 rfl ?_
  refine g_callV (As := []) (rest := [.int (nI N)]) hF (t_coder hEo hE hcap) (Nat.le_of_ble_eq_true rfl) mV_String_coder m_175 (recv_str hE) rfl rfl (Nat.le_of_ble_eq_true rfl) d_String_length_6 ?_ (fun _ _ _ h => h.elim)
  rintro v σ' τ' vs' ⟨rfl, rfl, rfl, rfl⟩
  refine g_ishr hF d_String_length_9 ?_
  refine g_top (v := nI N) (s_shr0 _) ?_
  exact g_iret hF rfl d_String_length_10 ⟨rfl, rfl, rfl, rfl⟩
theorem t_ch (hEo : EnvOK E) (hE : ∀ A s, E A s → sE own kk tx N sa sv f A s) (hcap : vs.length ≤ CAP) (hN : N < 2 ^ 31) (k : Int32) (h0 : 0 ≤ k.toInt) (h1 : k.toInt < N) (l : Launch) (D : va_G) (cy : Nat → ClassId) : Ct l D cy S r E y_String_charAt (Cond.code y_String_charAt b_String_charAt 2 (some .char)) 3 [.ref sa, .int k] σ τ vs (QS σ τ vs (fun v => ∃ x : Int32, v = some (.int x))) (fun _ _ _ => False) := by
  refine Ct_of hEo (by decide) (Nat.le_of_ble_eq_true rfl) hcap (fun X hnn hF => ?_)
  show G S r X σ τ vs [(0, .ref sa), (1, .int k)] [] 0
  refine g_aload_n hF d_String_charAt_0 rfl 0 rfl ?_
  refine g_callV (As := []) (rest := []) hF (t_lat hEo hE hcap) (Nat.le_of_ble_eq_true rfl) mV_String_isLatin1 m_185 (recv_str hE) rfl rfl (Nat.le_of_ble_eq_true rfl) d_String_charAt_1 ?_ (fun _ _ _ h => h.elim)
  rintro v σ' τ' vs' ⟨rfl, rfl, rfl, rfl⟩
  refine g_if_eq (xv := 1) hF 16 d_String_charAt_4 (by decide) (by decide) (fun c => absurd c (by decide)) (fun _ => ?_)
  refine g_aload_n hF d_String_charAt_7 rfl 0 rfl ?_
  refine g_envf hF (fun A s h => (hE A s h).2.2.2.1) m_2841 d_String_charAt_8 ?_
  refine g_iload_n hF d_String_charAt_11 rfl 1 rfl ?_
  refine g_callS (As := [.ref sv, .int k]) (rest := []) hF (t_lch hEo hE hcap hN k h0 h1) (Nat.le_of_ble_eq_true rfl) mS_StringLatin1_charAt m_189 rfl rfl (Nat.le_of_ble_eq_true rfl) d_String_charAt_12 ?_ (fun _ _ _ h => h.elim)
  rintro v σ' τ' vs' ⟨rfl, rfl, rfl, x, rfl, hx⟩
  exact g_zret hF rfl hx d_String_charAt_15 ⟨rfl, rfl, rfl, x, rfl⟩
theorem k_sv {X : Cx} {L : List (Nat × Value)} {rest : List Value} {pc : Nat} {v0 : Int32} (k : G S r X σ τ vs L (.int v0 :: rest) pc) : ∀ v σ' τ' vs', QS σ τ vs (fun v => v = some (.int v0)) v σ' τ' vs' → G S r X σ' τ' vs' L (v.toList ++ rest) pc := by
  rintro v σ' τ' vs' ⟨rfl, rfl, rfl, rfl⟩
  exact k
theorem k_sx {X : Cx} {L : List (Nat × Value)} {rest : List Value} {pc : Nat} (k : ∀ x : Int32, G S r X σ τ vs L (.int x :: rest) pc) : ∀ v σ' τ' vs', QS σ τ vs (fun v => ∃ x : Int32, v = some (.int x)) v σ' τ' vs' → G S r X σ' τ' vs' L (v.toList ++ rest) pc := by
  rintro v σ' τ' vs' ⟨rfl, rfl, rfl, x, rfl⟩
  exact k x
end GS
end

