theorem zo_0 : 0 < zN := by decide
theorem zo_1 : 1 < zN := by decide
theorem zo_2 : 2 < zN := by decide
theorem zo_3 : 3 < zN := by decide
theorem zo_4 : 4 < zN := by decide
theorem zo_5 : 5 < zN := by decide
theorem zo_6 : 6 < zN := by decide
theorem zo_7 : 7 < zN := by decide
theorem zo_8 : 8 < zN := by decide
theorem zo_9 : 9 < zN := by decide
theorem zo_10 : 10 < zN := by decide
theorem zo_11 : 11 < zN := by decide
theorem zo_12 : 12 < zN := by decide
theorem zo_13 : 13 < zN := by decide
theorem zo_14 : 14 < zN := by decide
theorem zo_15 : 15 < zN := by decide
theorem zo_16 : 16 < zN := by decide
theorem zo_17 : 17 < zN := by decide
theorem zo_18 : 18 < zN := by decide
theorem zo_19 : 19 < zN := by decide
theorem zo_20 : 20 < zN := by decide
theorem zo_21 : 21 < zN := by decide
theorem zo_22 : 22 < zN := by decide
theorem zo_23 : 23 < zN := by decide
theorem zo_24 : 24 < zN := by decide
theorem zo_25 : 25 < zN := by decide
theorem zo_26 : 26 < zN := by decide
theorem zo_27 : 27 < zN := by decide
theorem zo_28 : 28 < zN := by decide
theorem zo_29 : 29 < zN := by decide
theorem zo_30 : 30 < zN := by decide
theorem zo_31 : 31 < zN := by decide
theorem zo_32 : 32 < zN := by decide
theorem zo_33 : 33 < zN := by decide
theorem zo_34 : 34 < zN := by decide
theorem zo_35 : 35 < zN := by decide
theorem zo_36 : 36 < zN := by decide
theorem zo_37 : 37 < zN := by decide
theorem zo_38 : 38 < zN := by decide
theorem zo_39 : 39 < zN := by decide
theorem zo_40 : 40 < zN := by decide
theorem zo_41 : 41 < zN := by decide
theorem zo_42 : 42 < zN := by decide
theorem zo_43 : 43 < zN := by decide
theorem zo_44 : 44 < zN := by decide
theorem zo_45 : 45 < zN := by decide
theorem zo_46 : 46 < zN := by decide
theorem zo_47 : 47 < zN := by decide
theorem zo_48 : 48 < zN := by decide
theorem zo_49 : 49 < zN := by decide
theorem zo_50 : 50 < zN := by decide
theorem zo_51 : 51 < zN := by decide
theorem zo_52 : 52 < zN := by decide
theorem zo_53 : 53 < zN := by decide
theorem zo_54 : 54 < zN := by decide
theorem zo_55 : 55 < zN := by decide
theorem zo_56 : 56 < zN := by decide
theorem zo_57 : 57 < zN := by decide
theorem zo_58 : 58 < zN := by decide
theorem zo_59 : 59 < zN := by decide
theorem zo_60 : 60 < zN := by decide
theorem zo_61 : 61 < zN := by decide
theorem zo_62 : 62 < zN := by decide
theorem zo_63 : 63 < zN := by decide
theorem zo_64 : 64 < zN := by decide
theorem zo_65 : 65 < zN := by decide
theorem zo_66 : 66 < zN := by decide
theorem zo_67 : 67 < zN := by decide
theorem zo_68 : 68 < zN := by decide
theorem zo_69 : 69 < zN := by decide
theorem zo_70 : 70 < zN := by decide
theorem zo_71 : 71 < zN := by decide
theorem zo_72 : 72 < zN := by decide
theorem zo_73 : 73 < zN := by decide
theorem zo_74 : 74 < zN := by decide
theorem zo_75 : 75 < zN := by decide
theorem kd_0 : zkd 0 = 10 := by decide
theorem kd_1 : zkd 1 = 9 := by decide
theorem kd_2 : zkd 2 = 1 := by decide
theorem kd_3 : zkd 3 = 1 := by decide
theorem kd_4 : zkd 4 = 4 := by decide
theorem kd_5 : zkd 5 = 5 := by decide
theorem kd_6 : zkd 6 = 2 := by decide
theorem kd_7 : zkd 7 = 8 := by decide
theorem kd_8 : zkd 8 = 8 := by decide
theorem kd_9 : zkd 9 = 8 := by decide
theorem kd_10 : zkd 10 = 0 := by decide
theorem kd_11 : zkd 11 = 3 := by decide
theorem kd_12 : zkd 12 = 6 := by decide
theorem kd_13 : zkd 13 = 7 := by decide
theorem kd_14 : zkd 14 = 11 := by decide
theorem kd_15 : zkd 15 = 100 := by decide
theorem kd_16 : zkd 16 = 100 := by decide
theorem kd_17 : zkd 17 = 100 := by decide
theorem kd_18 : zkd 18 = 100 := by decide
theorem kd_19 : zkd 19 = 100 := by decide
theorem kd_20 : zkd 20 = 100 := by decide
theorem kd_21 : zkd 21 = 100 := by decide
theorem kd_22 : zkd 22 = 100 := by decide
theorem kd_23 : zkd 23 = 100 := by decide
theorem kd_24 : zkd 24 = 100 := by decide
theorem kd_25 : zkd 25 = 100 := by decide
theorem kd_26 : zkd 26 = 100 := by decide
theorem kd_27 : zkd 27 = 100 := by decide
theorem kd_28 : zkd 28 = 100 := by decide
theorem kd_29 : zkd 29 = 100 := by decide
theorem kd_30 : zkd 30 = 100 := by decide
theorem kd_31 : zkd 31 = 100 := by decide
theorem kd_32 : zkd 32 = 100 := by decide
theorem kd_33 : zkd 33 = 100 := by decide
theorem kd_34 : zkd 34 = 100 := by decide
theorem kd_35 : zkd 35 = 100 := by decide
theorem kd_36 : zkd 36 = 100 := by decide
theorem kd_37 : zkd 37 = 100 := by decide
theorem kd_38 : zkd 38 = 100 := by decide
theorem kd_39 : zkd 39 = 100 := by decide
theorem kd_40 : zkd 40 = 100 := by decide
theorem kd_41 : zkd 41 = 100 := by decide
theorem kd_42 : zkd 42 = 100 := by decide
theorem kd_43 : zkd 43 = 100 := by decide
theorem kd_44 : zkd 44 = 100 := by decide
theorem kd_45 : zkd 45 = 100 := by decide
theorem kd_46 : zkd 46 = 100 := by decide
theorem kd_47 : zkd 47 = 100 := by decide
theorem kd_48 : zkd 48 = 100 := by decide
theorem kd_49 : zkd 49 = 100 := by decide
theorem kd_50 : zkd 50 = 100 := by decide
theorem kd_51 : zkd 51 = 100 := by decide
theorem kd_52 : zkd 52 = 100 := by decide
theorem kd_53 : zkd 53 = 100 := by decide
theorem kd_54 : zkd 54 = 100 := by decide
theorem kd_55 : zkd 55 = 100 := by decide
theorem kd_56 : zkd 56 = 100 := by decide
theorem kd_57 : zkd 57 = 100 := by decide
theorem kd_58 : zkd 58 = 100 := by decide
theorem kd_59 : zkd 59 = 100 := by decide
theorem kd_60 : zkd 60 = 100 := by decide
theorem kd_61 : zkd 61 = 100 := by decide
theorem kd_62 : zkd 62 = 100 := by decide
theorem kd_63 : zkd 63 = 100 := by decide
theorem kd_64 : zkd 64 = 100 := by decide
theorem kd_65 : zkd 65 = 100 := by decide
theorem kd_66 : zkd 66 = 100 := by decide
theorem kd_67 : zkd 67 = 100 := by decide
theorem kd_68 : zkd 68 = 100 := by decide
theorem kd_69 : zkd 69 = 100 := by decide
theorem kd_70 : zkd 70 = 100 := by decide
theorem kd_71 : zkd 71 = 100 := by decide
theorem kd_72 : zkd 72 = 100 := by decide
theorem kd_73 : zkd 73 = 100 := by decide
theorem kd_74 : zkd 74 = 100 := by decide
theorem kd_75 : zkd 75 = 100 := by decide
theorem ln_15 : zln 15 = 240 := by decide
theorem ln_16 : zln 16 = 128 := by decide
theorem ln_17 : zln 17 = 4 := by decide
theorem ln_18 : zln 18 = 8 := by decide
theorem ln_19 : zln 19 = 128 := by decide
theorem ln_20 : zln 20 = 4 := by decide
theorem ln_21 : zln 21 = 8 := by decide
theorem ln_22 : zln 22 = 240 := by decide
theorem ln_23 : zln 23 = 48 := by decide
theorem ln_24 : zln 24 = 960 := by decide
theorem ln_25 : zln 25 = 4 := by decide
theorem ln_26 : zln 26 = 48 := by decide
theorem ln_27 : zln 27 = 192 := by decide
theorem ln_28 : zln 28 = 4 := by decide
theorem ln_29 : zln 29 = 48 := by decide
theorem ln_30 : zln 30 = 51 := by decide
theorem ln_31 : zln 31 = 420 := by decide
theorem ln_32 : zln 32 = 7 := by decide
theorem ln_33 : zln 33 = 6 := by decide
theorem ln_34 : zln 34 = 51 := by decide
theorem ln_35 : zln 35 = 0 := by decide
theorem ln_36 : zln 36 = 7 := by decide
theorem ln_37 : zln 37 = 6 := by decide
theorem ln_38 : zln 38 = 51 := by decide
theorem ln_39 : zln 39 = 420 := by decide
theorem ln_40 : zln 40 = 7 := by decide
theorem ln_41 : zln 41 = 6 := by decide
theorem ln_42 : zln 42 = 2040 := by decide
theorem ln_43 : zln 43 = 6144 := by decide
theorem ln_44 : zln 44 = 6 := by decide
theorem ln_45 : zln 45 = 8 := by decide
theorem ln_46 : zln 46 = 12 := by decide
theorem ln_47 : zln 47 = 12 := by decide
theorem ln_48 : zln 48 = 6 := by decide
theorem ln_49 : zln 49 = 240 := by decide
theorem ln_50 : zln 50 = 2600 := by decide
theorem ln_51 : zln 51 = 2600 := by decide
theorem ln_52 : zln 52 = 5 := by decide
theorem ln_53 : zln 53 = 5 := by decide
theorem ln_54 : zln 54 = 700 := by decide
theorem ln_55 : zln 55 = 700 := by decide
theorem ln_56 : zln 56 = 700 := by decide
theorem ln_57 : zln 57 = 7 := by decide
theorem ln_58 : zln 58 = 80 := by decide
theorem ln_59 : zln 59 = 2 := by decide
theorem ln_60 : zln 60 = 18 := by decide
theorem ln_61 : zln 61 = 16 := by decide
theorem ln_62 : zln 62 = 24 := by decide
theorem ln_63 : zln 63 = 2 := by decide
theorem ln_64 : zln 64 = 18 := by decide
theorem ln_65 : zln 65 = 16 := by decide
theorem ln_66 : zln 66 = 24 := by decide
theorem ln_67 : zln 67 = 240 := by decide
theorem ln_68 : zln 68 = 5 := by decide
theorem ln_69 : zln 69 = 165 := by decide
theorem ln_70 : zln 70 = 6600 := by decide
theorem ln_71 : zln 71 = 165 := by decide
theorem ln_72 : zln 72 = 6 := by decide
theorem ln_73 : zln 73 = 12 := by decide
theorem ln_74 : zln 74 = 12 := by decide
theorem ln_75 : zln 75 = 165 := by decide
theorem ln_76 : zln 76 = 3125 := by decide
theorem fr_0_0 : zfr 0 0 = 1 := by decide
theorem fr_0_1 : zfr 0 1 = 2 := by decide
theorem fr_0_2 : zfr 0 2 = 3 := by decide
theorem fr_0_3 : zfr 0 3 = 4 := by decide
theorem fr_0_4 : zfr 0 4 = 5 := by decide
theorem fr_0_5 : zfr 0 5 = 6 := by decide
theorem fr_0_6 : zfr 0 6 = 7 := by decide
theorem fr_0_7 : zfr 0 7 = 8 := by decide
theorem fr_0_8 : zfr 0 8 = 9 := by decide
theorem fr_0_9 : zfr 0 9 = 10 := by decide
theorem fr_0_10 : zfr 0 10 = 11 := by decide
theorem fr_0_11 : zfr 0 11 = 12 := by decide
theorem fr_0_12 : zfr 0 12 = 13 := by decide
theorem fr_1_0 : zfr 1 0 = 15 := by decide
theorem fr_2_0 : zfr 2 0 = 16 := by decide
theorem fr_2_1 : zfr 2 1 = 17 := by decide
theorem fr_2_2 : zfr 2 2 = 18 := by decide
theorem fr_3_0 : zfr 3 0 = 19 := by decide
theorem fr_3_1 : zfr 3 1 = 20 := by decide
theorem fr_3_2 : zfr 3 2 = 21 := by decide
theorem fr_4_0 : zfr 4 0 = 22 := by decide
theorem fr_4_2 : zfr 4 2 = 23 := by decide
theorem fr_5_2 : zfr 5 2 = 24 := by decide
theorem fr_5_3 : zfr 5 3 = 25 := by decide
theorem fr_5_4 : zfr 5 4 = 26 := by decide
theorem fr_6_1 : zfr 6 1 = 27 := by decide
theorem fr_6_2 : zfr 6 2 = 28 := by decide
theorem fr_6_3 : zfr 6 3 = 29 := by decide
theorem fr_7_0 : zfr 7 0 = 30 := by decide
theorem fr_7_1 : zfr 7 1 = 31 := by decide
theorem fr_7_2 : zfr 7 2 = 32 := by decide
theorem fr_7_3 : zfr 7 3 = 33 := by decide
theorem fr_8_0 : zfr 8 0 = 34 := by decide
theorem fr_8_1 : zfr 8 1 = 35 := by decide
theorem fr_8_2 : zfr 8 2 = 36 := by decide
theorem fr_8_3 : zfr 8 3 = 37 := by decide
theorem fr_9_0 : zfr 9 0 = 38 := by decide
theorem fr_9_1 : zfr 9 1 = 39 := by decide
theorem fr_9_2 : zfr 9 2 = 40 := by decide
theorem fr_9_3 : zfr 9 3 = 41 := by decide
theorem fr_10_1 : zfr 10 1 = 42 := by decide
theorem fr_11_0 : zfr 11 0 = 43 := by decide
theorem fr_12_0 : zfr 12 0 = 44 := by decide
theorem fr_12_1 : zfr 12 1 = 45 := by decide
theorem fr_13_1 : zfr 13 1 = 46 := by decide
theorem fr_13_2 : zfr 13 2 = 47 := by decide
theorem fr_13_3 : zfr 13 3 = 48 := by decide
theorem fr_14_1 : zfr 14 1 = 49 := by decide
theorem fr_14_6 : zfr 14 6 = 50 := by decide
theorem fr_14_7 : zfr 14 7 = 51 := by decide
theorem fr_14_8 : zfr 14 8 = 52 := by decide
theorem fr_14_9 : zfr 14 9 = 53 := by decide
theorem fr_14_10 : zfr 14 10 = 54 := by decide
theorem fr_14_11 : zfr 14 11 = 55 := by decide
theorem fr_14_12 : zfr 14 12 = 56 := by decide
theorem fr_14_15 : zfr 14 15 = 57 := by decide
theorem fr_14_16 : zfr 14 16 = 58 := by decide
theorem fr_14_17 : zfr 14 17 = 59 := by decide
theorem fr_14_18 : zfr 14 18 = 60 := by decide
theorem fr_14_19 : zfr 14 19 = 61 := by decide
theorem fr_14_20 : zfr 14 20 = 62 := by decide
theorem fr_14_24 : zfr 14 24 = 63 := by decide
theorem fr_14_25 : zfr 14 25 = 64 := by decide
theorem fr_14_26 : zfr 14 26 = 65 := by decide
theorem fr_14_27 : zfr 14 27 = 66 := by decide
theorem fr_14_31 : zfr 14 31 = 67 := by decide
theorem fr_14_32 : zfr 14 32 = 68 := by decide
theorem fr_14_34 : zfr 14 34 = 69 := by decide
theorem fr_14_37 : zfr 14 37 = 70 := by decide
theorem fr_14_39 : zfr 14 39 = 71 := by decide
theorem fr_14_43 : zfr 14 43 = 72 := by decide
theorem fr_14_44 : zfr 14 44 = 73 := by decide
theorem fr_14_45 : zfr 14 45 = 74 := by decide
theorem fr_14_48 : zfr 14 48 = 75 := by decide
theorem frl_1_0 {o : Nat} (h : o < zN) (hd : zkd o = 1) : zfr o 0 < zN := by
  have H : ∀ o, o < 76 → zkd o = 1 → zfr o 0 < 76 := by decide
  exact H o h hd
theorem frk_1_0 {o : Nat} (h : o < zN) (hd : zkd o = 1) : zkd (zfr o 0) = 100 := by
  have H : ∀ o, o < 76 → zkd o = 1 → zkd (zfr o 0) = 100 := by decide
  exact H o h hd
theorem frn_1_0 {o : Nat} (h : o < zN) (hd : zkd o = 1) : zln (zfr o 0) = 128 := by
  have H : ∀ o, o < 76 → zkd o = 1 → zln (zfr o 0) = 128 := by decide
  exact H o h hd
theorem frl_1_1 {o : Nat} (h : o < zN) (hd : zkd o = 1) : zfr o 1 < zN := by
  have H : ∀ o, o < 76 → zkd o = 1 → zfr o 1 < 76 := by decide
  exact H o h hd
theorem frk_1_1 {o : Nat} (h : o < zN) (hd : zkd o = 1) : zkd (zfr o 1) = 100 := by
  have H : ∀ o, o < 76 → zkd o = 1 → zkd (zfr o 1) = 100 := by decide
  exact H o h hd
theorem frn_1_1 {o : Nat} (h : o < zN) (hd : zkd o = 1) : zln (zfr o 1) = 4 := by
  have H : ∀ o, o < 76 → zkd o = 1 → zln (zfr o 1) = 4 := by decide
  exact H o h hd
theorem frl_1_2 {o : Nat} (h : o < zN) (hd : zkd o = 1) : zfr o 2 < zN := by
  have H : ∀ o, o < 76 → zkd o = 1 → zfr o 2 < 76 := by decide
  exact H o h hd
theorem frk_1_2 {o : Nat} (h : o < zN) (hd : zkd o = 1) : zkd (zfr o 2) = 100 := by
  have H : ∀ o, o < 76 → zkd o = 1 → zkd (zfr o 2) = 100 := by decide
  exact H o h hd
theorem frn_1_2 {o : Nat} (h : o < zN) (hd : zkd o = 1) : zln (zfr o 2) = 8 := by
  have H : ∀ o, o < 76 → zkd o = 1 → zln (zfr o 2) = 8 := by decide
  exact H o h hd
theorem frl_8_0 {o : Nat} (h : o < zN) (hd : zkd o = 8) : zfr o 0 < zN := by
  have H : ∀ o, o < 76 → zkd o = 8 → zfr o 0 < 76 := by decide
  exact H o h hd
theorem frk_8_0 {o : Nat} (h : o < zN) (hd : zkd o = 8) : zkd (zfr o 0) = 100 := by
  have H : ∀ o, o < 76 → zkd o = 8 → zkd (zfr o 0) = 100 := by decide
  exact H o h hd
theorem frn_8_0 {o : Nat} (h : o < zN) (hd : zkd o = 8) : zln (zfr o 0) = 51 := by
  have H : ∀ o, o < 76 → zkd o = 8 → zln (zfr o 0) = 51 := by decide
  exact H o h hd
theorem frl_8_1 {o : Nat} (h : o < zN) (hd : zkd o = 8) : zfr o 1 < zN := by
  have H : ∀ o, o < 76 → zkd o = 8 → zfr o 1 < 76 := by decide
  exact H o h hd
theorem frk_8_1 {o : Nat} (h : o < zN) (hd : zkd o = 8) : zkd (zfr o 1) = 100 := by
  have H : ∀ o, o < 76 → zkd o = 8 → zkd (zfr o 1) = 100 := by decide
  exact H o h hd
theorem frl_8_2 {o : Nat} (h : o < zN) (hd : zkd o = 8) : zfr o 2 < zN := by
  have H : ∀ o, o < 76 → zkd o = 8 → zfr o 2 < 76 := by decide
  exact H o h hd
theorem frk_8_2 {o : Nat} (h : o < zN) (hd : zkd o = 8) : zkd (zfr o 2) = 100 := by
  have H : ∀ o, o < 76 → zkd o = 8 → zkd (zfr o 2) = 100 := by decide
  exact H o h hd
theorem frn_8_2 {o : Nat} (h : o < zN) (hd : zkd o = 8) : zln (zfr o 2) = 7 := by
  have H : ∀ o, o < 76 → zkd o = 8 → zln (zfr o 2) = 7 := by decide
  exact H o h hd
theorem frl_8_3 {o : Nat} (h : o < zN) (hd : zkd o = 8) : zfr o 3 < zN := by
  have H : ∀ o, o < 76 → zkd o = 8 → zfr o 3 < 76 := by decide
  exact H o h hd
theorem frk_8_3 {o : Nat} (h : o < zN) (hd : zkd o = 8) : zkd (zfr o 3) = 100 := by
  have H : ∀ o, o < 76 → zkd o = 8 → zkd (zfr o 3) = 100 := by decide
  exact H o h hd
theorem frn_8_3 {o : Nat} (h : o < zN) (hd : zkd o = 8) : zln (zfr o 3) = 6 := by
  have H : ∀ o, o < 76 → zkd o = 8 → zln (zfr o 3) = 6 := by decide
  exact H o h hd
theorem clX0 : zCl 0 RX0 TX0 3 tyX0 := ⟨rfl, fun w hw => z_in (inX0 w hw) (List.all_eq_true.mp (show (wsX00).all goodWord = true by decide +kernel) w hw), by decide, by decide, tyX0_ok, nmX0⟩
theorem clX1 : zCl 1 RX1 TX1 3 tyX1 := ⟨rfl, fun w hw => z_in (inX1 w hw) (List.all_eq_true.mp (show (wsX10).all goodWord = true by decide +kernel) w hw), by decide, by decide, tyX1_ok, nmX1⟩
theorem clX2 : zCl 2 RX2 TX2 5 tyX2 := ⟨rfl, fun w hw => z_in (inX2 w hw) (List.all_eq_true.mp (show (wsX20).all goodWord = true by decide +kernel) w hw), by decide, by decide, tyX2_ok, nmX2⟩
theorem clX3 : zCl 3 RX3 TX3 1 tyX3 := ⟨rfl, fun w hw => z_in (inX3 w hw) (List.all_eq_true.mp (show (wsX30).all goodWord = true by decide +kernel) w hw), by decide, by decide, tyX3_ok, nmX3⟩
theorem clX4 : zCl 4 RX4 TX4 13 tyX4 := ⟨rfl, fun w hw => z_in (inX4 w hw) (List.all_eq_true.mp (show (wsX40).all goodWord = true by decide +kernel) w hw), by decide, by decide, tyX4_ok, nmX4⟩
theorem clX5 : zCl 5 RX5 TX5 6 tyX5 := ⟨rfl, fun w hw => z_in (inX5 w hw) (List.all_eq_true.mp (show (wsX50).all goodWord = true by decide +kernel) w hw), by decide, by decide, tyX5_ok, nmX5⟩
theorem clX6 : zCl 6 RX6 TX6 6 tyX6 := ⟨rfl, fun w hw => z_in (inX6 w hw) (List.all_eq_true.mp (show (wsX60).all goodWord = true by decide +kernel) w hw), by decide, by decide, tyX6_ok, nmX6⟩
theorem clX7 : zCl 7 RX7 TX7 4 tyX7 := ⟨rfl, fun w hw => z_in (inX7 w hw) (List.all_eq_true.mp (show (wsX70).all goodWord = true by decide +kernel) w hw), by decide, by decide, tyX7_ok, nmX7⟩
theorem clX8 : zCl 8 RX8 TX8 4 tyX8 := ⟨rfl, fun w hw => z_in (inX8 w hw) (List.all_eq_true.mp (show (wsX80).all goodWord = true by decide +kernel) w hw), by decide, by decide, tyX8_ok, nmX8⟩
theorem clX9 : zCl 9 RX9 TX9 4 tyX9 := ⟨rfl, fun w hw => z_in (inX9 w hw) (List.all_eq_true.mp (show (wsX90).all goodWord = true by decide +kernel) w hw), by decide, by decide, tyX9_ok, nmX9⟩
theorem clX10 : zCl 10 RX10 TX10 16 tyX10 := ⟨rfl, fun w hw => z_in (inX10 w hw) (List.all_eq_true.mp (show (wsX100).all goodWord = true by decide +kernel) w hw), by decide, by decide, tyX10_ok, nmX10⟩
theorem clX11 : zCl 11 RX11 TX11 50 tyX11 := ⟨rfl, fun w hw => z_in (inX11 w hw) (List.all_eq_true.mp (show (wsX110).all goodWord = true by decide +kernel) w hw), by decide, by decide, tyX11_ok, nmX11⟩
theorem bp_m63 : (Int8.ofInt (-63)).toInt32 = zi (-63) := by decide
theorem bp_m59 : (Int8.ofInt (-59)).toInt32 = zi (-59) := by decide
theorem bp_m33 : (Int8.ofInt (-33)).toInt32 = zi (-33) := by decide
theorem bp_m2 : (Int8.ofInt (-2)).toInt32 = zi (-2) := by decide
theorem bp_6 : (Int8.ofInt 6).toInt32 = zi 6 := by decide
theorem bp_7 : (Int8.ofInt 7).toInt32 = zi 7 := by decide
theorem bp_8 : (Int8.ofInt 8).toInt32 = zi 8 := by decide
theorem bp_9 : (Int8.ofInt 9).toInt32 = zi 9 := by decide
theorem bp_10 : (Int8.ofInt 10).toInt32 = zi 10 := by decide
theorem bp_11 : (Int8.ofInt 11).toInt32 = zi 11 := by decide
theorem bp_12 : (Int8.ofInt 12).toInt32 = zi 12 := by decide
theorem bp_16 : (Int8.ofInt 16).toInt32 = zi 16 := by decide
theorem bp_18 : (Int8.ofInt 18).toInt32 = zi 18 := by decide
theorem bp_20 : (Int8.ofInt 20).toInt32 = zi 20 := by decide
theorem bp_23 : (Int8.ofInt 23).toInt32 = zi 23 := by decide
theorem bp_24 : (Int8.ofInt 24).toInt32 = zi 24 := by decide
theorem bp_32 : (Int8.ofInt 32).toInt32 = zi 32 := by decide
theorem bp_33 : (Int8.ofInt 33).toInt32 = zi 33 := by decide
theorem bp_38 : (Int8.ofInt 38).toInt32 = zi 38 := by decide
theorem bp_40 : (Int8.ofInt 40).toInt32 = zi 40 := by decide
theorem bp_41 : (Int8.ofInt 41).toInt32 = zi 41 := by decide
theorem bp_42 : (Int8.ofInt 42).toInt32 = zi 42 := by decide
theorem bp_43 : (Int8.ofInt 43).toInt32 = zi 43 := by decide
theorem bp_44 : (Int8.ofInt 44).toInt32 = zi 44 := by decide
theorem bp_45 : (Int8.ofInt 45).toInt32 = zi 45 := by decide
theorem bp_47 : (Int8.ofInt 47).toInt32 = zi 47 := by decide
theorem bp_48 : (Int8.ofInt 48).toInt32 = zi 48 := by decide
theorem bp_49 : (Int8.ofInt 49).toInt32 = zi 49 := by decide
theorem bp_50 : (Int8.ofInt 50).toInt32 = zi 50 := by decide
theorem bp_51 : (Int8.ofInt 51).toInt32 = zi 51 := by decide
theorem bp_57 : (Int8.ofInt 57).toInt32 = zi 57 := by decide
theorem bp_58 : (Int8.ofInt 58).toInt32 = zi 58 := by decide
theorem bp_59 : (Int8.ofInt 59).toInt32 = zi 59 := by decide
theorem bp_60 : (Int8.ofInt 60).toInt32 = zi 60 := by decide
theorem bp_61 : (Int8.ofInt 61).toInt32 = zi 61 := by decide
theorem bp_62 : (Int8.ofInt 62).toInt32 = zi 62 := by decide
theorem bp_63 : (Int8.ofInt 63).toInt32 = zi 63 := by decide
theorem bp_80 : (Int8.ofInt 80).toInt32 = zi 80 := by decide
theorem bp_91 : (Int8.ofInt 91).toInt32 = zi 91 := by decide
theorem bp_93 : (Int8.ofInt 93).toInt32 = zi 93 := by decide
theorem bp_97 : (Int8.ofInt 97).toInt32 = zi 97 := by decide
theorem bp_99 : (Int8.ofInt 99).toInt32 = zi 99 := by decide
theorem bp_100 : (Int8.ofInt 100).toInt32 = zi 100 := by decide
theorem bp_101 : (Int8.ofInt 101).toInt32 = zi 101 := by decide
theorem bp_102 : (Int8.ofInt 102).toInt32 = zi 102 := by decide
theorem bp_104 : (Int8.ofInt 104).toInt32 = zi 104 := by decide
theorem bp_107 : (Int8.ofInt 107).toInt32 = zi 107 := by decide
theorem bp_108 : (Int8.ofInt 108).toInt32 = zi 108 := by decide
theorem bp_109 : (Int8.ofInt 109).toInt32 = zi 109 := by decide
theorem bp_110 : (Int8.ofInt 110).toInt32 = zi 110 := by decide
theorem bp_111 : (Int8.ofInt 111).toInt32 = zi 111 := by decide
theorem bp_112 : (Int8.ofInt 112).toInt32 = zi 112 := by decide
theorem bp_114 : (Int8.ofInt 114).toInt32 = zi 114 := by decide
theorem bp_115 : (Int8.ofInt 115).toInt32 = zi 115 := by decide
theorem bp_116 : (Int8.ofInt 116).toInt32 = zi 116 := by decide
theorem bp_119 : (Int8.ofInt 119).toInt32 = zi 119 := by decide
theorem bp_120 : (Int8.ofInt 120).toInt32 = zi 120 := by decide
theorem bp_121 : (Int8.ofInt 121).toInt32 = zi 121 := by decide
theorem bp_122 : (Int8.ofInt 122).toInt32 = zi 122 := by decide
theorem bp_124 : (Int8.ofInt 124).toInt32 = zi 124 := by decide
theorem sp_128 : (Int16.ofInt 128).toInt32 = zi 128 := by decide
theorem sp_140 : (Int16.ofInt 140).toInt32 = zi 140 := by decide
theorem sp_165 : (Int16.ofInt 165).toInt32 = zi 165 := by decide
theorem sp_192 : (Int16.ofInt 192).toInt32 = zi 192 := by decide
theorem sp_198 : (Int16.ofInt 198).toInt32 = zi 198 := by decide
theorem sp_240 : (Int16.ofInt 240).toInt32 = zi 240 := by decide
theorem sp_255 : (Int16.ofInt 255).toInt32 = zi 255 := by decide
theorem sp_420 : (Int16.ofInt 420).toInt32 = zi 420 := by decide
theorem sp_520 : (Int16.ofInt 520).toInt32 = zi 520 := by decide
theorem sp_700 : (Int16.ofInt 700).toInt32 = zi 700 := by decide
theorem sp_960 : (Int16.ofInt 960).toInt32 = zi 960 := by decide
theorem sp_2040 : (Int16.ofInt 2040).toInt32 = zi 2040 := by decide
theorem sp_2600 : (Int16.ofInt 2600).toInt32 = zi 2600 := by decide
theorem sp_3125 : (Int16.ofInt 3125).toInt32 = zi 3125 := by decide
theorem sp_6144 : (Int16.ofInt 6144).toInt32 = zi 6144 := by decide
theorem sp_6600 : (Int16.ofInt 6600).toInt32 = zi 6600 := by decide
theorem sp_9999 : (Int16.ofInt 9999).toInt32 = zi 9999 := by decide
theorem sp_10000 : (Int16.ofInt 10000).toInt32 = zi 10000 := by decide
theorem zwk_0 : zw 0 = ((0 : Nat) : Int) := by decide
theorem zwk_1 : zw 1 = ((1 : Nat) : Int) := by decide
theorem zwk_2 : zw 2 = ((2 : Nat) : Int) := by decide
theorem zwk_3 : zw 3 = ((3 : Nat) : Int) := by decide
theorem zwk_4 : zw 4 = ((4 : Nat) : Int) := by decide
theorem zwk_5 : zw 5 = ((5 : Nat) : Int) := by decide
theorem zwk_6 : zw 6 = ((6 : Nat) : Int) := by decide
theorem zwk_7 : zw 7 = ((7 : Nat) : Int) := by decide
theorem zwk_8 : zw 8 = ((8 : Nat) : Int) := by decide
theorem zwk_9 : zw 9 = ((9 : Nat) : Int) := by decide
theorem zwk_10 : zw 10 = ((10 : Nat) : Int) := by decide
theorem zwk_11 : zw 11 = ((11 : Nat) : Int) := by decide
theorem zwk_12 : zw 12 = ((12 : Nat) : Int) := by decide
theorem zwk_13 : zw 13 = ((13 : Nat) : Int) := by decide
theorem zwk_14 : zw 14 = ((14 : Nat) : Int) := by decide
theorem zwk_15 : zw 15 = ((15 : Nat) : Int) := by decide
theorem zwk_16 : zw 16 = ((16 : Nat) : Int) := by decide
theorem zwk_17 : zw 17 = ((17 : Nat) : Int) := by decide
theorem zwk_18 : zw 18 = ((18 : Nat) : Int) := by decide
theorem zwk_19 : zw 19 = ((19 : Nat) : Int) := by decide
theorem zwk_20 : zw 20 = ((20 : Nat) : Int) := by decide
theorem zwk_21 : zw 21 = ((21 : Nat) : Int) := by decide
theorem zwk_22 : zw 22 = ((22 : Nat) : Int) := by decide
theorem zwk_23 : zw 23 = ((23 : Nat) : Int) := by decide
theorem zwk_24 : zw 24 = ((24 : Nat) : Int) := by decide
theorem zwk_25 : zw 25 = ((25 : Nat) : Int) := by decide
theorem zwk_26 : zw 26 = ((26 : Nat) : Int) := by decide
theorem zwk_27 : zw 27 = ((27 : Nat) : Int) := by decide
theorem zwk_28 : zw 28 = ((28 : Nat) : Int) := by decide
theorem zwk_29 : zw 29 = ((29 : Nat) : Int) := by decide
theorem zwk_30 : zw 30 = ((30 : Nat) : Int) := by decide
theorem zwk_31 : zw 31 = ((31 : Nat) : Int) := by decide
theorem zwk_32 : zw 32 = ((32 : Nat) : Int) := by decide
theorem zwk_33 : zw 33 = ((33 : Nat) : Int) := by decide
theorem zwk_34 : zw 34 = ((34 : Nat) : Int) := by decide
theorem zwk_35 : zw 35 = ((35 : Nat) : Int) := by decide
theorem zwk_36 : zw 36 = ((36 : Nat) : Int) := by decide
theorem zwk_37 : zw 37 = ((37 : Nat) : Int) := by decide
theorem zwk_38 : zw 38 = ((38 : Nat) : Int) := by decide
theorem zwk_39 : zw 39 = ((39 : Nat) : Int) := by decide
theorem zwk_40 : zw 40 = ((40 : Nat) : Int) := by decide
theorem zwk_41 : zw 41 = ((41 : Nat) : Int) := by decide
theorem zwk_42 : zw 42 = ((42 : Nat) : Int) := by decide
theorem zwk_43 : zw 43 = ((43 : Nat) : Int) := by decide
theorem zwk_44 : zw 44 = ((44 : Nat) : Int) := by decide
theorem zwk_45 : zw 45 = ((45 : Nat) : Int) := by decide
theorem zwk_46 : zw 46 = ((46 : Nat) : Int) := by decide
theorem zwk_47 : zw 47 = ((47 : Nat) : Int) := by decide
theorem zwk_48 : zw 48 = ((48 : Nat) : Int) := by decide
theorem zwk_49 : zw 49 = ((49 : Nat) : Int) := by decide
theorem zwk_50 : zw 50 = ((50 : Nat) : Int) := by decide
theorem zwk_51 : zw 51 = ((51 : Nat) : Int) := by decide
theorem zwk_57 : zw 57 = ((57 : Nat) : Int) := by decide
theorem zwk_58 : zw 58 = ((58 : Nat) : Int) := by decide
theorem zwk_59 : zw 59 = ((59 : Nat) : Int) := by decide
theorem zwk_60 : zw 60 = ((60 : Nat) : Int) := by decide
theorem zwk_61 : zw 61 = ((61 : Nat) : Int) := by decide
theorem zwk_62 : zw 62 = ((62 : Nat) : Int) := by decide
theorem zwk_63 : zw 63 = ((63 : Nat) : Int) := by decide
theorem zwk_80 : zw 80 = ((80 : Nat) : Int) := by decide
theorem zwk_91 : zw 91 = ((91 : Nat) : Int) := by decide
theorem zwk_93 : zw 93 = ((93 : Nat) : Int) := by decide
theorem zwk_97 : zw 97 = ((97 : Nat) : Int) := by decide
theorem zwk_99 : zw 99 = ((99 : Nat) : Int) := by decide
theorem zwk_100 : zw 100 = ((100 : Nat) : Int) := by decide
theorem zwk_101 : zw 101 = ((101 : Nat) : Int) := by decide
theorem zwk_102 : zw 102 = ((102 : Nat) : Int) := by decide
theorem zwk_104 : zw 104 = ((104 : Nat) : Int) := by decide
theorem zwk_107 : zw 107 = ((107 : Nat) : Int) := by decide
theorem zwk_108 : zw 108 = ((108 : Nat) : Int) := by decide
theorem zwk_109 : zw 109 = ((109 : Nat) : Int) := by decide
theorem zwk_110 : zw 110 = ((110 : Nat) : Int) := by decide
theorem zwk_111 : zw 111 = ((111 : Nat) : Int) := by decide
theorem zwk_112 : zw 112 = ((112 : Nat) : Int) := by decide
theorem zwk_114 : zw 114 = ((114 : Nat) : Int) := by decide
theorem zwk_115 : zw 115 = ((115 : Nat) : Int) := by decide
theorem zwk_116 : zw 116 = ((116 : Nat) : Int) := by decide
theorem zwk_119 : zw 119 = ((119 : Nat) : Int) := by decide
theorem zwk_120 : zw 120 = ((120 : Nat) : Int) := by decide
theorem zwk_121 : zw 121 = ((121 : Nat) : Int) := by decide
theorem zwk_122 : zw 122 = ((122 : Nat) : Int) := by decide
theorem zwk_124 : zw 124 = ((124 : Nat) : Int) := by decide
theorem zwk_128 : zw 128 = ((128 : Nat) : Int) := by decide
theorem zwk_140 : zw 140 = ((140 : Nat) : Int) := by decide
theorem zwk_165 : zw 165 = ((165 : Nat) : Int) := by decide
theorem zwk_192 : zw 192 = ((192 : Nat) : Int) := by decide
theorem zwk_198 : zw 198 = ((198 : Nat) : Int) := by decide
theorem zwk_240 : zw 240 = ((240 : Nat) : Int) := by decide
theorem zwk_255 : zw 255 = ((255 : Nat) : Int) := by decide
theorem zwk_420 : zw 420 = ((420 : Nat) : Int) := by decide
theorem zwk_520 : zw 520 = ((520 : Nat) : Int) := by decide
theorem zwk_700 : zw 700 = ((700 : Nat) : Int) := by decide
theorem zwk_960 : zw 960 = ((960 : Nat) : Int) := by decide
theorem zwk_2040 : zw 2040 = ((2040 : Nat) : Int) := by decide
theorem zwk_2600 : zw 2600 = ((2600 : Nat) : Int) := by decide
theorem zwk_3125 : zw 3125 = ((3125 : Nat) : Int) := by decide
theorem zwk_6144 : zw 6144 = ((6144 : Nat) : Int) := by decide
theorem zwk_6600 : zw 6600 = ((6600 : Nat) : Int) := by decide
theorem zwk_9999 : zw 9999 = ((9999 : Nat) : Int) := by decide
theorem zwk_10000 : zw 10000 = ((10000 : Nat) : Int) := by decide
theorem kc_RX5_55 : Cond.constantLong RX5 55 (zl (-1000000)) ∈ lw_tbl := List.mem_of_getElem? (i := 869) (by decide +kernel)
theorem kc_RX5_57 : Cond.constantLong RX5 57 (zl 1000000) ∈ lw_tbl := List.mem_of_getElem? (i := 870) (by decide +kernel)
theorem kc_RX10_221 : Cond.constant RX10 221 (zi (-1000000)) ∈ lw_tbl := List.mem_of_getElem? (i := 974) (by decide +kernel)
theorem kc_RX10_312 : Cond.constantLong RX10 312 (zl 6364136223846793005) ∈ lw_tbl := List.mem_of_getElem? (i := 926) (by decide +kernel)
theorem kc_RX10_314 : Cond.constantLong RX10 314 (zl 1442695040888963407) ∈ lw_tbl := List.mem_of_getElem? (i := 927) (by decide +kernel)
theorem kc_RL_84 : Cond.constantLong RL 84 (zl 4294967295) ∈ lw_tbl := List.mem_of_getElem? (i := 1866) (by decide +kernel)
theorem kc_RX11_185 : Cond.constantLong RX11 185 (zl (-1000000)) ∈ lw_tbl := List.mem_of_getElem? (i := 1677) (by decide +kernel)
theorem kc_RX11_187 : Cond.constantLong RX11 187 (zl 1000000) ∈ lw_tbl := List.mem_of_getElem? (i := 1678) (by decide +kernel)
theorem kc_RX11_392 : Cond.constant RX11 392 (zi (-1000000)) ∈ lw_tbl := List.mem_of_getElem? (i := 1701) (by decide +kernel)
theorem kc_RX11_469 : Cond.constantLong RX11 469 (zl 6364136223846793005) ∈ lw_tbl := List.mem_of_getElem? (i := 1852) (by decide +kernel)
theorem kc_RX11_471 : Cond.constantLong RX11 471 (zl 1442695040888963407) ∈ lw_tbl := List.mem_of_getElem? (i := 1853) (by decide +kernel)
theorem kc_RJ6_265 : Cond.constant RJ6 265 (zi 1431655765) ∈ lw_tbl := List.mem_of_getElem? (i := 854) (by decide +kernel)
theorem kc_RJ6_266 : Cond.constant RJ6 266 (zi 858993459) ∈ lw_tbl := List.mem_of_getElem? (i := 855) (by decide +kernel)
theorem kc_RJ6_267 : Cond.constant RJ6 267 (zi 252645135) ∈ lw_tbl := List.mem_of_getElem? (i := 856) (by decide +kernel)
theorem mY_J9_max_7cf53 : zYS yJ9_max_7cf53 cJ9_max_7cf53 2 (some .int) 2 := ⟨⟨q_183, q_8, ⟨by decide +kernel, by decide +kernel, by decide +kernel⟩, by decide⟩, q_182⟩
theorem mY_X10_feed : zYV yX10_feed cX10_feed 7 (some .int) 5 := ⟨⟨q_323, q_1, ⟨by decide +kernel, by decide +kernel, by decide +kernel⟩, by decide⟩, q_321, q_322⟩
theorem mY_X9_bytesIn : zYS yX9_bytesIn cX9_bytesIn 3 (some .int) 1 := ⟨⟨q_326, q_2, ⟨by decide +kernel, by decide +kernel, by decide +kernel⟩, by decide⟩, q_325⟩
theorem mY_X9_append : zYV yX9_append cX9_append 4 none 1 := ⟨⟨q_330, q_2, ⟨by decide +kernel, by decide +kernel, by decide +kernel⟩, by decide⟩, q_328, q_329⟩
theorem mY_X10_put : zYS yX10_put cX10_put 3 none 3 := ⟨⟨q_333, q_1, ⟨by decide +kernel, by decide +kernel, by decide +kernel⟩, by decide⟩, q_332⟩
theorem mY_X10_end : zYV yX10_end cX10_end 2 (some .boolean) 1 := ⟨⟨q_337, q_1, ⟨by decide +kernel, by decide +kernel, by decide +kernel⟩, by decide⟩, q_335, q_336⟩
theorem mY_X10_fault : zYV yX10_fault cX10_fault 2 (some .int) 1 := ⟨⟨q_341, q_1, ⟨by decide +kernel, by decide +kernel, by decide +kernel⟩, by decide⟩, q_339, q_340⟩
theorem mY_X1_read : zYV yX1_read cX1_read 3 (some .int) 1 := ⟨⟨q_345, q_3, ⟨by decide +kernel, by decide +kernel, by decide +kernel⟩, by decide⟩, q_343, q_344⟩
theorem mY_X9_rewind : zYV yX9_rewind cX9_rewind 1 none 0 := ⟨⟨q_349, q_2, ⟨by decide +kernel, by decide +kernel, by decide +kernel⟩, by decide⟩, q_347, q_348⟩
theorem mY_J7_fill_53178 : zYS yJ7_fill_53178 cJ7_fill_53178 4 none 2 := ⟨⟨q_352, q_14, ⟨by decide +kernel, by decide +kernel, by decide +kernel⟩, by decide⟩, q_351⟩
theorem mY_X1_useUntold : zYV yX1_useUntold cX1_useUntold 4 none 2 := ⟨⟨q_356, q_3, ⟨by decide +kernel, by decide +kernel, by decide +kernel⟩, by decide⟩, q_355, q_p0⟩
theorem mY_X1_cellOf : zYS yX1_cellOf cX1_cellOf 3 (some .int) 3 := ⟨⟨q_359, q_3, ⟨by decide +kernel, by decide +kernel, by decide +kernel⟩, by decide⟩, q_358⟩
theorem mY_X10_at : zYS yX10_at cX10_at 2 (some .int) 2 := ⟨⟨q_364, q_1, ⟨by decide +kernel, by decide +kernel, by decide +kernel⟩, by decide⟩, q_363⟩
theorem mY_X1_readClause : zYV yX1_readClause cX1_readClause 4 none 1 := ⟨⟨q_369, q_3, ⟨by decide +kernel, by decide +kernel, by decide +kernel⟩, by decide⟩, q_368, q_p1⟩
theorem mY_X9_next : zYV yX9_next cX9_next 1 (some .int) 0 := ⟨⟨q_374, q_2, ⟨by decide +kernel, by decide +kernel, by decide +kernel⟩, by decide⟩, q_372, q_373⟩
theorem mY_X10_placeIn : zYS yX10_placeIn cX10_placeIn 3 (some .int) 2 := ⟨⟨q_378, q_1, ⟨by decide +kernel, by decide +kernel, by decide +kernel⟩, by decide⟩, q_377⟩
theorem mY_J0_length_8abf5 : zYV yJ0_length_8abf5 cJ0_length_8abf5 1 (some .int) 0 := ⟨⟨q_382, q_15, ⟨by decide +kernel, by decide +kernel, by decide +kernel⟩, by decide⟩, q_380, q_381⟩
theorem mY_J0_coder_7d493 : zYV yJ0_coder_7d493 cJ0_coder_7d493 1 (some .byte) 0 := ⟨⟨q_386, q_15, ⟨by decide +kernel, by decide +kernel, by decide +kernel⟩, by decide⟩, q_384, q_385⟩
theorem mY_J0_charAt_5068e : zYV yJ0_charAt_5068e cJ0_charAt_5068e 2 (some .char) 1 := ⟨⟨q_392, q_15, ⟨by decide +kernel, by decide +kernel, by decide +kernel⟩, by decide⟩, q_390, q_391⟩
theorem mY_J0_isLatin1_aae02 : zYV yJ0_isLatin1_aae02 cJ0_isLatin1_aae02 1 (some .boolean) 0 := ⟨⟨q_396, q_15, ⟨by decide +kernel, by decide +kernel, by decide +kernel⟩, by decide⟩, q_394, q_395⟩
theorem mY_J1_charAt_3b067 : zYS yJ1_charAt_3b067 cJ1_charAt_3b067 2 (some .char) 2 := ⟨⟨q_399, q_16, ⟨by decide +kernel, by decide +kernel, by decide +kernel⟩, by decide⟩, q_398⟩
theorem mY_J0_checkIndex_df160 : zYS yJ0_checkIndex_df160 cJ0_checkIndex_df160 2 none 2 := ⟨⟨q_402, q_15, ⟨by decide +kernel, by decide +kernel, by decide +kernel⟩, by decide⟩, q_401⟩
theorem mY_J3_checkIndex_8e157 : zYS yJ3_checkIndex_8e157 cJ3_checkIndex_8e157 3 (some .int) 3 := ⟨⟨q_407, q_17, ⟨by decide +kernel, by decide +kernel, by decide +kernel⟩, by decide⟩, q_406⟩
theorem mY_J2_charAt_3b067 : zYS yJ2_charAt_3b067 cJ2_charAt_3b067 2 (some .char) 2 := ⟨⟨q_410, q_18, ⟨by decide +kernel, by decide +kernel, by decide +kernel⟩, by decide⟩, q_409⟩
theorem mY_J2_checkIndex_2214a : zYS yJ2_checkIndex_2214a cJ2_checkIndex_2214a 2 none 2 := ⟨⟨q_413, q_18, ⟨by decide +kernel, by decide +kernel, by decide +kernel⟩, by decide⟩, q_412⟩
theorem mY_J2_length_9d52b : zYS yJ2_length_9d52b cJ2_length_9d52b 1 (some .int) 1 := ⟨⟨q_416, q_18, ⟨by decide +kernel, by decide +kernel, by decide +kernel⟩, by decide⟩, q_415⟩
theorem mY_J2_getChar_3b067 : zYS yJ2_getChar_3b067 cJ2_getChar_3b067 2 (some .char) 2 := ⟨⟨q_420, q_18, ⟨by decide +kernel, by decide +kernel, by decide +kernel⟩, by decide⟩, q_419⟩
theorem mY_X1_many : zYV yX1_many cX1_many 2 (some .int) 1 := ⟨⟨q_430, q_3, ⟨by decide +kernel, by decide +kernel, by decide +kernel⟩, by decide⟩, q_428, q_429⟩
theorem mY_X9_blame : zYV yX9_blame cX9_blame 2 none 1 := ⟨⟨q_436, q_2, ⟨by decide +kernel, by decide +kernel, by decide +kernel⟩, by decide⟩, q_434, q_435⟩
theorem mY_X1_readItems : zYV yX1_readItems cX1_readItems 8 none 3 := ⟨⟨q_440, q_3, ⟨by decide +kernel, by decide +kernel, by decide +kernel⟩, by decide⟩, q_439, q_p2⟩
theorem mY_X1_itemOf : zYS yX1_itemOf cX1_itemOf 4 (some .int) 2 := ⟨⟨q_443, q_3, ⟨by decide +kernel, by decide +kernel, by decide +kernel⟩, by decide⟩, q_442⟩
theorem mY_X10_isIn : zYS yX10_isIn cX10_isIn 2 (some .boolean) 2 := ⟨⟨q_449, q_1, ⟨by decide +kernel, by decide +kernel, by decide +kernel⟩, by decide⟩, q_448⟩
theorem mY_X9_number : zYV yX9_number cX9_number 5 (some .int) 1 := ⟨⟨q_453, q_2, ⟨by decide +kernel, by decide +kernel, by decide +kernel⟩, by decide⟩, q_451, q_452⟩
theorem mY_X9_isDigit : zYS yX9_isDigit cX9_isDigit 1 (some .boolean) 1 := ⟨⟨q_457, q_2, ⟨by decide +kernel, by decide +kernel, by decide +kernel⟩, by decide⟩, q_456⟩
theorem mY_X9_take : zYV yX9_take cX9_take 2 (some .boolean) 1 := ⟨⟨q_466, q_2, ⟨by decide +kernel, by decide +kernel, by decide +kernel⟩, by decide⟩, q_464, q_465⟩
theorem mY_X9_close : zYV yX9_close cX9_close 1 (some .int) 0 := ⟨⟨q_470, q_2, ⟨by decide +kernel, by decide +kernel, by decide +kernel⟩, by decide⟩, q_468, q_469⟩
theorem mY_X1_isWhole : zYV yX1_isWhole cX1_isWhole 5 (some .boolean) 0 := ⟨⟨q_474, q_3, ⟨by decide +kernel, by decide +kernel, by decide +kernel⟩, by decide⟩, q_473, q_p3⟩
theorem mY_X1_item : zYV yX1_item cX1_item 4 (some .int) 3 := ⟨⟨q_478, q_3, ⟨by decide +kernel, by decide +kernel, by decide +kernel⟩, by decide⟩, q_476, q_477⟩
theorem mY_X1_has : zYV yX1_has cX1_has 3 (some .boolean) 2 := ⟨⟨q_482, q_3, ⟨by decide +kernel, by decide +kernel, by decide +kernel⟩, by decide⟩, q_480, q_481⟩
theorem mY_X4_read : zYV yX4_read cX4_read 3 (some .int) 1 := ⟨⟨q_486, q_4, ⟨by decide +kernel, by decide +kernel, by decide +kernel⟩, by decide⟩, q_484, q_485⟩
theorem mY_X4_readClause : zYV yX4_readClause cX4_readClause 4 none 1 := ⟨⟨q_491, q_4, ⟨by decide +kernel, by decide +kernel, by decide +kernel⟩, by decide⟩, q_490, q_p4⟩
theorem mY_X4_readOperand : zYV yX4_readOperand cX4_readOperand 4 (some .boolean) 1 := ⟨⟨q_497, q_4, ⟨by decide +kernel, by decide +kernel, by decide +kernel⟩, by decide⟩, q_496, q_p5⟩
theorem mY_X4_emit : zYV yX4_emit cX4_emit 2 none 1 := ⟨⟨q_506, q_4, ⟨by decide +kernel, by decide +kernel, by decide +kernel⟩, by decide⟩, q_505, q_p6⟩
theorem mY_J9_min_7cf53 : zYS yJ9_min_7cf53 cJ9_min_7cf53 2 (some .int) 2 := ⟨⟨q_510, q_8, ⟨by decide +kernel, by decide +kernel, by decide +kernel⟩, by decide⟩, q_509⟩
theorem mY_X4_open : zYV yX4_open cX4_open 2 none 1 := ⟨⟨q_514, q_4, ⟨by decide +kernel, by decide +kernel, by decide +kernel⟩, by decide⟩, q_513, q_p7⟩
theorem mY_X4_push : zYV yX4_push cX4_push 2 none 1 := ⟨⟨q_518, q_4, ⟨by decide +kernel, by decide +kernel, by decide +kernel⟩, by decide⟩, q_517, q_p8⟩
theorem mY_X4_readJoint : zYV yX4_readJoint cX4_readJoint 3 (some .boolean) 1 := ⟨⟨q_522, q_4, ⟨by decide +kernel, by decide +kernel, by decide +kernel⟩, by decide⟩, q_521, q_p9⟩
theorem mY_X4_fits : zYV yX4_fits cX4_fits 2 (some .boolean) 1 := ⟨⟨q_526, q_4, ⟨by decide +kernel, by decide +kernel, by decide +kernel⟩, by decide⟩, q_525, q_p10⟩
theorem mY_X4_rank : zYS yX4_rank cX4_rank 1 (some .int) 1 := ⟨⟨q_529, q_4, ⟨by decide +kernel, by decide +kernel, by decide +kernel⟩, by decide⟩, q_528⟩
theorem mY_X4_reduce : zYV yX4_reduce cX4_reduce 4 none 1 := ⟨⟨q_534, q_4, ⟨by decide +kernel, by decide +kernel, by decide +kernel⟩, by decide⟩, q_533, q_p11⟩
theorem mY_X4_shut : zYV yX4_shut cX4_shut 2 none 1 := ⟨⟨q_539, q_4, ⟨by decide +kernel, by decide +kernel, by decide +kernel⟩, by decide⟩, q_538, q_p12⟩
theorem mY_X4_join : zYV yX4_join cX4_join 4 none 1 := ⟨⟨q_543, q_4, ⟨by decide +kernel, by decide +kernel, by decide +kernel⟩, by decide⟩, q_542, q_p13⟩
theorem mY_X2_read : zYV yX2_read cX2_read 3 (some .int) 1 := ⟨⟨q_548, q_6, ⟨by decide +kernel, by decide +kernel, by decide +kernel⟩, by decide⟩, q_546, q_547⟩
theorem mY_X2_readStep : zYV yX2_readStep cX2_readStep 3 none 1 := ⟨⟨q_553, q_6, ⟨by decide +kernel, by decide +kernel, by decide +kernel⟩, by decide⟩, q_552, q_p14⟩
theorem mY_X2_readDigit : zYS yX2_readDigit cX2_readDigit 2 (some .int) 1 := ⟨⟨q_561, q_6, ⟨by decide +kernel, by decide +kernel, by decide +kernel⟩, by decide⟩, q_560⟩
theorem mY_X10_text : zYV yX10_text cX10_text 3 (some .int) 1 := ⟨⟨q_569, q_1, ⟨by decide +kernel, by decide +kernel, by decide +kernel⟩, by decide⟩, q_567, q_568⟩
theorem mY_X5_add : zYV yX5_add cX5_add 3 (some .int) 1 := ⟨⟨q_574, q_5, ⟨by decide +kernel, by decide +kernel, by decide +kernel⟩, by decide⟩, q_572, q_573⟩
theorem mY_X2_add : zYV yX2_add cX2_add 2 (some .int) 0 := ⟨⟨q_580, q_6, ⟨by decide +kernel, by decide +kernel, by decide +kernel⟩, by decide⟩, q_578, q_579⟩
theorem mY_X10_beginHill : zYV yX10_beginHill cX10_beginHill 1 none 0 := ⟨⟨q_585, q_1, ⟨by decide +kernel, by decide +kernel, by decide +kernel⟩, by decide⟩, q_584, q_p15⟩
theorem mY_X1_take : zYV yX1_take cX1_take 2 none 1 := ⟨⟨q_589, q_3, ⟨by decide +kernel, by decide +kernel, by decide +kernel⟩, by decide⟩, q_587, q_588⟩
theorem mY_X8_clear : zYV yX8_clear cX8_clear 2 none 0 := ⟨⟨q_596, q_7, ⟨by decide +kernel, by decide +kernel, by decide +kernel⟩, by decide⟩, q_594, q_595⟩
theorem mY_X8_set : zYV yX8_set cX8_set 4 none 3 := ⟨⟨q_601, q_7, ⟨by decide +kernel, by decide +kernel, by decide +kernel⟩, by decide⟩, q_600, q_p16⟩
theorem mY_X0_forget : zYV yX0_forget cX0_forget 1 none 0 := ⟨⟨q_606, q_9, ⟨by decide +kernel, by decide +kernel, by decide +kernel⟩, by decide⟩, q_604, q_605⟩
theorem mY_X3_forget : zYV yX3_forget cX3_forget 1 none 0 := ⟨⟨q_610, q_10, ⟨by decide +kernel, by decide +kernel, by decide +kernel⟩, by decide⟩, q_608, q_609⟩
theorem mY_X6_forget : zYV yX6_forget cX6_forget 1 none 0 := ⟨⟨q_615, q_11, ⟨by decide +kernel, by decide +kernel, by decide +kernel⟩, by decide⟩, q_613, q_614⟩
theorem mY_X7_forget : zYV yX7_forget cX7_forget 1 none 0 := ⟨⟨q_619, q_12, ⟨by decide +kernel, by decide +kernel, by decide +kernel⟩, by decide⟩, q_617, q_618⟩
theorem mY_X10_sun : zYV yX10_sun cX10_sun 2 (some .int) 1 := ⟨⟨q_624, q_1, ⟨by decide +kernel, by decide +kernel, by decide +kernel⟩, by decide⟩, q_622, q_623⟩
theorem mY_X10_hasHill : zYV yX10_hasHill cX10_hasHill 1 (some .boolean) 0 := ⟨⟨q_628, q_1, ⟨by decide +kernel, by decide +kernel, by decide +kernel⟩, by decide⟩, q_627, q_p17⟩
theorem mY_X10_desk : zYV yX10_desk cX10_desk 3 (some .int) 2 := ⟨⟨q_633, q_1, ⟨by decide +kernel, by decide +kernel, by decide +kernel⟩, by decide⟩, q_631, q_632⟩
theorem mY_X8_backlog : zYV yX8_backlog cX8_backlog 4 (some .int) 1 := ⟨⟨q_638, q_7, ⟨by decide +kernel, by decide +kernel, by decide +kernel⟩, by decide⟩, q_636, q_637⟩
theorem mY_X8_of : zYV yX8_of cX8_of 3 (some .int) 2 := ⟨⟨q_642, q_7, ⟨by decide +kernel, by decide +kernel, by decide +kernel⟩, by decide⟩, q_640, q_641⟩
theorem mY_X8_first : zYV yX8_first cX8_first 4 (some .int) 1 := ⟨⟨q_647, q_7, ⟨by decide +kernel, by decide +kernel, by decide +kernel⟩, by decide⟩, q_645, q_646⟩
theorem mY_X8_time : zYV yX8_time cX8_time 1 (some .int) 0 := ⟨⟨q_651, q_7, ⟨by decide +kernel, by decide +kernel, by decide +kernel⟩, by decide⟩, q_649, q_650⟩
theorem mY_X1_isOpen : zYV yX1_isOpen cX1_isOpen 3 (some .boolean) 2 := ⟨⟨q_655, q_3, ⟨by decide +kernel, by decide +kernel, by decide +kernel⟩, by decide⟩, q_653, q_654⟩
theorem mY_X10_paper : zYV yX10_paper cX10_paper 4 (some .int) 2 := ⟨⟨q_659, q_1, ⟨by decide +kernel, by decide +kernel, by decide +kernel⟩, by decide⟩, q_657, q_658⟩
theorem mY_X10_rule : zYV yX10_rule cX10_rule 2 (some .boolean) 1 := ⟨⟨q_663, q_1, ⟨by decide +kernel, by decide +kernel, by decide +kernel⟩, by decide⟩, q_661, q_662⟩
theorem mY_X10_eclipse : zYV yX10_eclipse cX10_eclipse 2 (some .boolean) 1 := ⟨⟨q_667, q_1, ⟨by decide +kernel, by decide +kernel, by decide +kernel⟩, by decide⟩, q_665, q_666⟩
theorem mY_X10_file : zYV yX10_file cX10_file 3 (some .int) 2 := ⟨⟨q_671, q_1, ⟨by decide +kernel, by decide +kernel, by decide +kernel⟩, by decide⟩, q_669, q_670⟩
theorem mY_X8_allows : zYV yX8_allows cX8_allows 6 (some .boolean) 4 := ⟨⟨q_675, q_7, ⟨by decide +kernel, by decide +kernel, by decide +kernel⟩, by decide⟩, q_673, q_674⟩
theorem mY_X8_hour : zYV yX8_hour cX8_hour 1 (some .int) 0 := ⟨⟨q_679, q_7, ⟨by decide +kernel, by decide +kernel, by decide +kernel⟩, by decide⟩, q_677, q_678⟩
theorem mY_X1_wants : zYV yX1_wants cX1_wants 2 (some .int) 1 := ⟨⟨q_685, q_3, ⟨by decide +kernel, by decide +kernel, by decide +kernel⟩, by decide⟩, q_683, q_684⟩
theorem mY_X0_keep : zYV yX0_keep cX0_keep 2 none 1 := ⟨⟨q_689, q_9, ⟨by decide +kernel, by decide +kernel, by decide +kernel⟩, by decide⟩, q_687, q_688⟩
theorem mY_J9_floorMod_7cf53 : zYS yJ9_floorMod_7cf53 cJ9_floorMod_7cf53 3 (some .int) 2 := ⟨⟨q_692, q_8, ⟨by decide +kernel, by decide +kernel, by decide +kernel⟩, by decide⟩, q_691⟩
theorem mY_X8_enqueue : zYV yX8_enqueue cX8_enqueue 4 none 3 := ⟨⟨q_698, q_7, ⟨by decide +kernel, by decide +kernel, by decide +kernel⟩, by decide⟩, q_696, q_697⟩
theorem mY_X10_withdraw : zYV yX10_withdraw cX10_withdraw 2 (some .int) 1 := ⟨⟨q_704, q_1, ⟨by decide +kernel, by decide +kernel, by decide +kernel⟩, by decide⟩, q_702, q_703⟩
theorem mY_X8_leave : zYV yX8_leave cX8_leave 6 (some .int) 1 := ⟨⟨q_708, q_7, ⟨by decide +kernel, by decide +kernel, by decide +kernel⟩, by decide⟩, q_706, q_707⟩
theorem mY_X10_go : zYV yX10_go cX10_go 3 (some .int) 1 := ⟨⟨q_712, q_1, ⟨by decide +kernel, by decide +kernel, by decide +kernel⟩, by decide⟩, q_710, q_711⟩
theorem mY_X10_canPass : zYV yX10_canPass cX10_canPass 3 (some .boolean) 2 := ⟨⟨q_716, q_1, ⟨by decide +kernel, by decide +kernel, by decide +kernel⟩, by decide⟩, q_715, q_p18⟩
theorem mY_X8_pass : zYV yX8_pass cX8_pass 6 none 3 := ⟨⟨q_721, q_7, ⟨by decide +kernel, by decide +kernel, by decide +kernel⟩, by decide⟩, q_719, q_720⟩
theorem mY_X8_dawn : zYV yX8_dawn cX8_dawn 7 none 2 := ⟨⟨q_726, q_7, ⟨by decide +kernel, by decide +kernel, by decide +kernel⟩, by decide⟩, q_725, q_p19⟩
theorem mY_X1_portion : zYV yX1_portion cX1_portion 8 (some .int) 2 := ⟨⟨q_731, q_3, ⟨by decide +kernel, by decide +kernel, by decide +kernel⟩, by decide⟩, q_729, q_730⟩
theorem mY_X8_serve : zYV yX8_serve cX8_serve 6 none 3 := ⟨⟨q_737, q_7, ⟨by decide +kernel, by decide +kernel, by decide +kernel⟩, by decide⟩, q_736, q_p20⟩
theorem mY_X8_decide : zYV yX8_decide cX8_decide 7 none 4 := ⟨⟨q_742, q_7, ⟨by decide +kernel, by decide +kernel, by decide +kernel⟩, by decide⟩, q_741, q_p21⟩
theorem mY_J6_bitCount_0f7a4 : zYS yJ6_bitCount_0f7a4 cJ6_bitCount_0f7a4 1 (some .int) 1 := ⟨⟨q_746, q_24, ⟨by decide +kernel, by decide +kernel, by decide +kernel⟩, by decide⟩, q_745⟩
theorem mY_X5_worth : zYV yX5_worth cX5_worth 5 (some .int) 1 := ⟨⟨q_754, q_5, ⟨by decide +kernel, by decide +kernel, by decide +kernel⟩, by decide⟩, q_752, q_753⟩
theorem mY_X5_compute : zYV yX5_compute cX5_compute 5 none 2 := ⟨⟨q_758, q_5, ⟨by decide +kernel, by decide +kernel, by decide +kernel⟩, by decide⟩, q_757, q_p22⟩
theorem mY_X5_joined : zYS yX5_joined cX5_joined 3 (some .long) 3 := ⟨⟨q_761, q_5, ⟨by decide +kernel, by decide +kernel, by decide +kernel⟩, by decide⟩, q_760⟩
theorem mY_J9_min_f86c9 : zYS yJ9_min_f86c9 cJ9_min_f86c9 4 (some .long) 2 := ⟨⟨q_766, q_8, ⟨by decide +kernel, by decide +kernel, by decide +kernel⟩, by decide⟩, q_765⟩
theorem mY_J9_max_f86c9 : zYS yJ9_max_f86c9 cJ9_max_f86c9 4 (some .long) 2 := ⟨⟨q_769, q_8, ⟨by decide +kernel, by decide +kernel, by decide +kernel⟩, by decide⟩, q_768⟩
theorem mY_X10_toil : zYV yX10_toil cX10_toil 4 (some .int) 1 := ⟨⟨q_773, q_1, ⟨by decide +kernel, by decide +kernel, by decide +kernel⟩, by decide⟩, q_771, q_772⟩
theorem mY_X8_isIdle : zYV yX8_isIdle cX8_isIdle 3 (some .boolean) 2 := ⟨⟨q_777, q_7, ⟨by decide +kernel, by decide +kernel, by decide +kernel⟩, by decide⟩, q_775, q_776⟩
theorem mY_X10_fileSoonest : zYV yX10_fileSoonest cX10_fileSoonest 3 none 1 := ⟨⟨q_781, q_1, ⟨by decide +kernel, by decide +kernel, by decide +kernel⟩, by decide⟩, q_780, q_p23⟩
theorem mY_X10_lacksOf : zYV yX10_lacksOf cX10_lacksOf 3 (some .int) 2 := ⟨⟨q_785, q_1, ⟨by decide +kernel, by decide +kernel, by decide +kernel⟩, by decide⟩, q_784, q_p24⟩
theorem mY_X1_lacks : zYV yX1_lacks cX1_lacks 7 (some .int) 2 := ⟨⟨q_790, q_3, ⟨by decide +kernel, by decide +kernel, by decide +kernel⟩, by decide⟩, q_788, q_789⟩
theorem mY_X3_first : zYV yX3_first cX3_first 8 (some .int) 3 := ⟨⟨q_795, q_10, ⟨by decide +kernel, by decide +kernel, by decide +kernel⟩, by decide⟩, q_793, q_794⟩
theorem mY_X3_fewest : zYS yX3_fewest cX3_fewest 10 (some .int) 5 := ⟨⟨q_798, q_10, ⟨by decide +kernel, by decide +kernel, by decide +kernel⟩, by decide⟩, q_797⟩
theorem mY_X3_isNext : zYS yX3_isNext cX3_isNext 3 (some .boolean) 3 := ⟨⟨q_803, q_10, ⟨by decide +kernel, by decide +kernel, by decide +kernel⟩, by decide⟩, q_802⟩
theorem mY_X1_span : zYV yX1_span cX1_span 10 (some .int) 2 := ⟨⟨q_809, q_3, ⟨by decide +kernel, by decide +kernel, by decide +kernel⟩, by decide⟩, q_807, q_808⟩
theorem mY_X10_years : zYV yX10_years cX10_years 6 (some .int) 2 := ⟨⟨q_814, q_1, ⟨by decide +kernel, by decide +kernel, by decide +kernel⟩, by decide⟩, q_812, q_813⟩
theorem mY_X10_draw : zYV yX10_draw cX10_draw 2 (some .int) 1 := ⟨⟨q_818, q_1, ⟨by decide +kernel, by decide +kernel, by decide +kernel⟩, by decide⟩, q_817, q_p25⟩
theorem mY_X10_undo : zYV yX10_undo cX10_undo 1 (some .int) 0 := ⟨⟨q_824, q_1, ⟨by decide +kernel, by decide +kernel, by decide +kernel⟩, by decide⟩, q_822, q_823⟩
theorem mY_X0_restore : zYV yX0_restore cX0_restore 2 (some .int) 1 := ⟨⟨q_828, q_9, ⟨by decide +kernel, by decide +kernel, by decide +kernel⟩, by decide⟩, q_826, q_827⟩
theorem mY_X10_log : zYV yX10_log cX10_log 4 (some .int) 2 := ⟨⟨q_832, q_1, ⟨by decide +kernel, by decide +kernel, by decide +kernel⟩, by decide⟩, q_830, q_831⟩
theorem mY_X8_logLength : zYV yX8_logLength cX8_logLength 1 (some .int) 0 := ⟨⟨q_836, q_7, ⟨by decide +kernel, by decide +kernel, by decide +kernel⟩, by decide⟩, q_834, q_835⟩
theorem mY_X8_whoHadLight : zYV yX8_whoHadLight cX8_whoHadLight 2 (some .int) 1 := ⟨⟨q_840, q_7, ⟨by decide +kernel, by decide +kernel, by decide +kernel⟩, by decide⟩, q_838, q_839⟩
theorem mY_X8_hoursOfLight : zYV yX8_hoursOfLight cX8_hoursOfLight 2 (some .int) 1 := ⟨⟨q_845, q_7, ⟨by decide +kernel, by decide +kernel, by decide +kernel⟩, by decide⟩, q_843, q_844⟩
theorem mY_X10_step : zYV yX10_step cX10_step 4 (some .int) 3 := ⟨⟨q_849, q_1, ⟨by decide +kernel, by decide +kernel, by decide +kernel⟩, by decide⟩, q_847, q_848⟩
theorem mY_X2_part : zYV yX2_part cX2_part 4 (some .int) 3 := ⟨⟨q_853, q_6, ⟨by decide +kernel, by decide +kernel, by decide +kernel⟩, by decide⟩, q_851, q_852⟩
theorem mY_X2_length : zYV yX2_length cX2_length 2 (some .int) 1 := ⟨⟨q_857, q_6, ⟨by decide +kernel, by decide +kernel, by decide +kernel⟩, by decide⟩, q_855, q_856⟩
theorem mY_X2_has : zYV yX2_has cX2_has 2 (some .boolean) 1 := ⟨⟨q_861, q_6, ⟨by decide +kernel, by decide +kernel, by decide +kernel⟩, by decide⟩, q_859, q_860⟩
theorem mY_X10_run : zYV yX10_run cX10_run 3 (some .int) 1 := ⟨⟨q_865, q_1, ⟨by decide +kernel, by decide +kernel, by decide +kernel⟩, by decide⟩, q_863, q_864⟩
theorem mY_X8_take : zYV yX8_take cX8_take 2 none 1 := ⟨⟨q_871, q_7, ⟨by decide +kernel, by decide +kernel, by decide +kernel⟩, by decide⟩, q_869, q_870⟩
theorem mY_X10_canStep : zYV yX10_canStep cX10_canStep 4 (some .boolean) 3 := ⟨⟨q_877, q_1, ⟨by decide +kernel, by decide +kernel, by decide +kernel⟩, by decide⟩, q_876, q_p26⟩
theorem mY_X10_takeStep : zYV yX10_takeStep cX10_takeStep 5 none 3 := ⟨⟨q_881, q_1, ⟨by decide +kernel, by decide +kernel, by decide +kernel⟩, by decide⟩, q_880, q_p27⟩
theorem mY_X10_perform : zYV yX10_perform cX10_perform 3 (some .int) 1 := ⟨⟨q_885, q_1, ⟨by decide +kernel, by decide +kernel, by decide +kernel⟩, by decide⟩, q_883, q_884⟩
theorem mY_X10_ahead : zYV yX10_ahead cX10_ahead 5 (some .int) 3 := ⟨⟨q_889, q_1, ⟨by decide +kernel, by decide +kernel, by decide +kernel⟩, by decide⟩, q_887, q_888⟩
theorem mY_X10_needed : zYV yX10_needed cX10_needed 2 (some .int) 1 := ⟨⟨q_893, q_1, ⟨by decide +kernel, by decide +kernel, by decide +kernel⟩, by decide⟩, q_891, q_892⟩
theorem mY_X10_ring : zYV yX10_ring cX10_ring 3 (some .int) 0 := ⟨⟨q_897, q_1, ⟨by decide +kernel, by decide +kernel, by decide +kernel⟩, by decide⟩, q_895, q_896⟩
theorem mY_X10_soonest : zYV yX10_soonest cX10_soonest 5 (some .int) 2 := ⟨⟨q_902, q_1, ⟨by decide +kernel, by decide +kernel, by decide +kernel⟩, by decide⟩, q_900, q_901⟩
theorem mY_X3_hours : zYV yX3_hours cX3_hours 4 (some .int) 3 := ⟨⟨q_906, q_10, ⟨by decide +kernel, by decide +kernel, by decide +kernel⟩, by decide⟩, q_904, q_905⟩
theorem mY_X3_row : zYV yX3_row cX3_row 9 (some .int) 3 := ⟨⟨q_910, q_10, ⟨by decide +kernel, by decide +kernel, by decide +kernel⟩, by decide⟩, q_908, q_909⟩
theorem mY_X1_fees : zYV yX1_fees cX1_fees 4 (some .int) 1 := ⟨⟨q_915, q_3, ⟨by decide +kernel, by decide +kernel, by decide +kernel⟩, by decide⟩, q_913, q_914⟩
theorem mY_X10_waived : zYV yX10_waived cX10_waived 3 (some .int) 1 := ⟨⟨q_919, q_1, ⟨by decide +kernel, by decide +kernel, by decide +kernel⟩, by decide⟩, q_917, q_918⟩
theorem mY_X10_hasRow : zYV yX10_hasRow cX10_hasRow 3 (some .boolean) 2 := ⟨⟨q_923, q_1, ⟨by decide +kernel, by decide +kernel, by decide +kernel⟩, by decide⟩, q_922, q_p28⟩
theorem mY_X10_earliest : zYV yX10_earliest cX10_earliest 5 (some .int) 0 := ⟨⟨q_927, q_1, ⟨by decide +kernel, by decide +kernel, by decide +kernel⟩, by decide⟩, q_925, q_926⟩
theorem mY_X10_share : zYV yX10_share cX10_share 3 (some .int) 2 := ⟨⟨q_931, q_1, ⟨by decide +kernel, by decide +kernel, by decide +kernel⟩, by decide⟩, q_929, q_930⟩
theorem mY_X6_choose : zYV yX6_choose cX6_choose 6 (some .boolean) 2 := ⟨⟨q_935, q_11, ⟨by decide +kernel, by decide +kernel, by decide +kernel⟩, by decide⟩, q_933, q_934⟩
theorem mY_X6_formsOf : zYS yX6_formsOf cX6_formsOf 3 (some .int) 1 := ⟨⟨q_938, q_11, ⟨by decide +kernel, by decide +kernel, by decide +kernel⟩, by decide⟩, q_937⟩
theorem mY_X10_rests : zYV yX10_rests cX10_rests 3 (some .int) 1 := ⟨⟨q_947, q_1, ⟨by decide +kernel, by decide +kernel, by decide +kernel⟩, by decide⟩, q_945, q_946⟩
theorem mY_X6_findRests : zYV yX6_findRests cX6_findRests 5 (some .int) 1 := ⟨⟨q_951, q_11, ⟨by decide +kernel, by decide +kernel, by decide +kernel⟩, by decide⟩, q_949, q_950⟩
theorem mY_X6_listForms : zYV yX6_listForms cX6_listForms 4 none 1 := ⟨⟨q_955, q_11, ⟨by decide +kernel, by decide +kernel, by decide +kernel⟩, by decide⟩, q_954, q_p29⟩
theorem mY_X6_chooseNth : zYV yX6_chooseNth cX6_chooseNth 7 (some .int) 2 := ⟨⟨q_959, q_11, ⟨by decide +kernel, by decide +kernel, by decide +kernel⟩, by decide⟩, q_958, q_p30⟩
theorem mY_X6_isAtRest : zYV yX6_isAtRest cX6_isAtRest 7 (some .boolean) 1 := ⟨⟨q_964, q_11, ⟨by decide +kernel, by decide +kernel, by decide +kernel⟩, by decide⟩, q_963, q_p31⟩
theorem mY_X6_rest : zYV yX6_rest cX6_rest 2 (some .int) 1 := ⟨⟨q_969, q_11, ⟨by decide +kernel, by decide +kernel, by decide +kernel⟩, by decide⟩, q_967, q_968⟩
theorem mY_X10_bribes : zYV yX10_bribes cX10_bribes 9 (some .int) 4 := ⟨⟨q_973, q_1, ⟨by decide +kernel, by decide +kernel, by decide +kernel⟩, by decide⟩, q_971, q_972⟩
theorem mY_X10_isStake : zYS yX10_isStake cX10_isStake 1 (some .boolean) 1 := ⟨⟨q_976, q_1, ⟨by decide +kernel, by decide +kernel, by decide +kernel⟩, by decide⟩, q_975⟩
theorem mY_X10_divisor : zYS yX10_divisor cX10_divisor 6 (some .int) 2 := ⟨⟨q_979, q_1, ⟨by decide +kernel, by decide +kernel, by decide +kernel⟩, by decide⟩, q_978⟩
theorem mY_X10_see : zYV yX10_see cX10_see 3 (some .int) 2 := ⟨⟨q_983, q_1, ⟨by decide +kernel, by decide +kernel, by decide +kernel⟩, by decide⟩, q_981, q_982⟩
theorem mY_X7_add : zYV yX7_add cX7_add 3 (some .int) 2 := ⟨⟨q_987, q_12, ⟨by decide +kernel, by decide +kernel, by decide +kernel⟩, by decide⟩, q_985, q_986⟩
theorem mY_X10_could : zYV yX10_could cX10_could 4 (some .int) 1 := ⟨⟨q_992, q_1, ⟨by decide +kernel, by decide +kernel, by decide +kernel⟩, by decide⟩, q_990, q_991⟩
theorem mY_X7_falsehoods : zYV yX7_falsehoods cX7_falsehoods 5 (some .int) 2 := ⟨⟨q_996, q_12, ⟨by decide +kernel, by decide +kernel, by decide +kernel⟩, by decide⟩, q_994, q_995⟩
theorem mY_X10_sure : zYV yX10_sure cX10_sure 3 (some .int) 0 := ⟨⟨q_1005, q_1, ⟨by decide +kernel, by decide +kernel, by decide +kernel⟩, by decide⟩, q_1003, q_1004⟩
theorem mY_X10_wrong : zYV yX10_wrong cX10_wrong 3 (some .int) 0 := ⟨⟨q_1009, q_1, ⟨by decide +kernel, by decide +kernel, by decide +kernel⟩, by decide⟩, q_1007, q_1008⟩
theorem mY_X10_works : zYV yX10_works cX10_works 8 (some .int) 2 := ⟨⟨q_1014, q_1, ⟨by decide +kernel, by decide +kernel, by decide +kernel⟩, by decide⟩, q_1012, q_1013⟩
theorem mY_X10_image : zYV yX10_image cX10_image 1 (some .int) 0 := ⟨⟨q_1018, q_1, ⟨by decide +kernel, by decide +kernel, by decide +kernel⟩, by decide⟩, q_1016, q_1017⟩
theorem mY_X10_back : zYV yX10_back cX10_back 1 (some .int) 0 := ⟨⟨q_1022, q_1, ⟨by decide +kernel, by decide +kernel, by decide +kernel⟩, by decide⟩, q_1020, q_1021⟩
theorem mY_X10_count : zYV yX10_count cX10_count 2 (some .int) 1 := ⟨⟨q_1026, q_1, ⟨by decide +kernel, by decide +kernel, by decide +kernel⟩, by decide⟩, q_1024, q_1025⟩
theorem mY_X10_parish : zYV yX10_parish cX10_parish 3 (some .int) 2 := ⟨⟨q_1034, q_1, ⟨by decide +kernel, by decide +kernel, by decide +kernel⟩, by decide⟩, q_1032, q_1033⟩
theorem mY_X11_thrown : zYV yX11_thrown cX11_thrown 1 (some .int) 0 := ⟨⟨q_1256, q_13, ⟨by decide +kernel, by decide +kernel, by decide +kernel⟩, by decide⟩, q_1254, q_1255⟩
theorem mY_X11_feed : zYV yX11_feed cX11_feed 9 (some .int) 5 := ⟨⟨q_1260, q_13, ⟨by decide +kernel, by decide +kernel, by decide +kernel⟩, by decide⟩, q_1258, q_1259⟩
theorem mY_X11_byteOf : zYS yX11_byteOf cX11_byteOf 7 (some .int) 6 := ⟨⟨q_1263, q_13, ⟨by decide +kernel, by decide +kernel, by decide +kernel⟩, by decide⟩, q_1262⟩
theorem mY_X11_end : zYV yX11_end cX11_end 2 (some .boolean) 1 := ⟨⟨q_1267, q_13, ⟨by decide +kernel, by decide +kernel, by decide +kernel⟩, by decide⟩, q_1265, q_1266⟩
theorem mY_X11_fault : zYV yX11_fault cX11_fault 2 (some .int) 1 := ⟨⟨q_1271, q_13, ⟨by decide +kernel, by decide +kernel, by decide +kernel⟩, by decide⟩, q_1269, q_1270⟩
theorem mY_X11_readHill : zYV yX11_readHill cX11_readHill 4 (some .int) 0 := ⟨⟨q_1275, q_13, ⟨by decide +kernel, by decide +kernel, by decide +kernel⟩, by decide⟩, q_1274, q_p33⟩
theorem mY_X11_usual : zYS yX11_usual cX11_usual 2 (some .int) 2 := ⟨⟨q_1278, q_13, ⟨by decide +kernel, by decide +kernel, by decide +kernel⟩, by decide⟩, q_1277⟩
theorem mY_X11_look : zYV yX11_look cX11_look 1 (some .int) 0 := ⟨⟨q_1282, q_13, ⟨by decide +kernel, by decide +kernel, by decide +kernel⟩, by decide⟩, q_1281, q_p34⟩
theorem mY_X11_here : zYV yX11_here cX11_here 1 (some .int) 0 := ⟨⟨q_1286, q_13, ⟨by decide +kernel, by decide +kernel, by decide +kernel⟩, by decide⟩, q_1285, q_p35⟩
theorem mY_X11_items : zYV yX11_items cX11_items 7 none 4 := ⟨⟨q_1290, q_13, ⟨by decide +kernel, by decide +kernel, by decide +kernel⟩, by decide⟩, q_1289, q_p36⟩
theorem mY_X11_itemOf : zYS yX11_itemOf cX11_itemOf 2 (some .int) 2 := ⟨⟨q_1293, q_13, ⟨by decide +kernel, by decide +kernel, by decide +kernel⟩, by decide⟩, q_1292⟩
theorem mY_X11_has : zYS yX11_has cX11_has 2 (some .boolean) 2 := ⟨⟨q_1296, q_13, ⟨by decide +kernel, by decide +kernel, by decide +kernel⟩, by decide⟩, q_1295⟩
theorem mY_X11_lowest : zYS yX11_lowest cX11_lowest 3 (some .int) 2 := ⟨⟨q_1299, q_13, ⟨by decide +kernel, by decide +kernel, by decide +kernel⟩, by decide⟩, q_1298⟩
theorem mY_X11_highest : zYS yX11_highest cX11_highest 2 (some .int) 2 := ⟨⟨q_1302, q_13, ⟨by decide +kernel, by decide +kernel, by decide +kernel⟩, by decide⟩, q_1301⟩
theorem mY_X11_number : zYV yX11_number cX11_number 4 (some .int) 2 := ⟨⟨q_1306, q_13, ⟨by decide +kernel, by decide +kernel, by decide +kernel⟩, by decide⟩, q_1305, q_p37⟩
theorem mY_X11_isDigit : zYS yX11_isDigit cX11_isDigit 1 (some .boolean) 1 := ⟨⟨q_1309, q_13, ⟨by decide +kernel, by decide +kernel, by decide +kernel⟩, by decide⟩, q_1308⟩
theorem mY_X11_bad : zYV yX11_bad cX11_bad 1 none 0 := ⟨⟨q_1313, q_13, ⟨by decide +kernel, by decide +kernel, by decide +kernel⟩, by decide⟩, q_1312, q_p38⟩
theorem mY_X11_in : zYS yX11_in cX11_in 3 (some .boolean) 3 := ⟨⟨q_1316, q_13, ⟨by decide +kernel, by decide +kernel, by decide +kernel⟩, by decide⟩, q_1315⟩
theorem mY_X11_isWhole : zYV yX11_isWhole cX11_isWhole 3 (some .boolean) 0 := ⟨⟨q_1320, q_13, ⟨by decide +kernel, by decide +kernel, by decide +kernel⟩, by decide⟩, q_1319, q_p39⟩
theorem mY_X11_isTold : zYS yX11_isTold cX11_isTold 2 (some .boolean) 2 := ⟨⟨q_1323, q_13, ⟨by decide +kernel, by decide +kernel, by decide +kernel⟩, by decide⟩, q_1322⟩
theorem mY_X11_readLaw : zYV yX11_readLaw cX11_readLaw 2 (some .int) 1 := ⟨⟨q_1327, q_13, ⟨by decide +kernel, by decide +kernel, by decide +kernel⟩, by decide⟩, q_1326, q_p40⟩
theorem mY_X11_open : zYV yX11_open cX11_open 2 none 1 := ⟨⟨q_1331, q_13, ⟨by decide +kernel, by decide +kernel, by decide +kernel⟩, by decide⟩, q_1330, q_p41⟩
theorem mY_X11_clause : zYV yX11_clause cX11_clause 3 none 0 := ⟨⟨q_1335, q_13, ⟨by decide +kernel, by decide +kernel, by decide +kernel⟩, by decide⟩, q_1334, q_p42⟩
theorem mY_X11_condition : zYV yX11_condition cX11_condition 1 none 0 := ⟨⟨q_1339, q_13, ⟨by decide +kernel, by decide +kernel, by decide +kernel⟩, by decide⟩, q_1338, q_p43⟩
theorem mY_X11_unit : zYV yX11_unit cX11_unit 2 none 0 := ⟨⟨q_1343, q_13, ⟨by decide +kernel, by decide +kernel, by decide +kernel⟩, by decide⟩, q_1342, q_p44⟩
theorem mY_X11_opens : zYV yX11_opens cX11_opens 1 none 0 := ⟨⟨q_1347, q_13, ⟨by decide +kernel, by decide +kernel, by decide +kernel⟩, by decide⟩, q_1346, q_p45⟩
theorem mY_X11_put : zYV yX11_put cX11_put 3 none 2 := ⟨⟨q_1351, q_13, ⟨by decide +kernel, by decide +kernel, by decide +kernel⟩, by decide⟩, q_1350, q_p46⟩
theorem mY_X11_closes : zYV yX11_closes cX11_closes 2 none 1 := ⟨⟨q_1355, q_13, ⟨by decide +kernel, by decide +kernel, by decide +kernel⟩, by decide⟩, q_1354, q_p47⟩
theorem mY_X11_sum : zYV yX11_sum cX11_sum 2 none 0 := ⟨⟨q_1359, q_13, ⟨by decide +kernel, by decide +kernel, by decide +kernel⟩, by decide⟩, q_1358, q_p48⟩
theorem mY_X11_term : zYV yX11_term cX11_term 2 none 0 := ⟨⟨q_1363, q_13, ⟨by decide +kernel, by decide +kernel, by decide +kernel⟩, by decide⟩, q_1362, q_p49⟩
theorem mY_X11_atom : zYV yX11_atom cX11_atom 2 none 0 := ⟨⟨q_1367, q_13, ⟨by decide +kernel, by decide +kernel, by decide +kernel⟩, by decide⟩, q_1366, q_p50⟩
theorem mY_X11_plainNumber : zYV yX11_plainNumber cX11_plainNumber 3 (some .int) 0 := ⟨⟨q_1371, q_13, ⟨by decide +kernel, by decide +kernel, by decide +kernel⟩, by decide⟩, q_1370, q_p51⟩
theorem mY_X11_letterOf : zYS yX11_letterOf cX11_letterOf 1 (some .int) 1 := ⟨⟨q_1374, q_13, ⟨by decide +kernel, by decide +kernel, by decide +kernel⟩, by decide⟩, q_1373⟩
theorem mY_X11_compare : zYV yX11_compare cX11_compare 2 none 0 := ⟨⟨q_1378, q_13, ⟨by decide +kernel, by decide +kernel, by decide +kernel⟩, by decide⟩, q_1377, q_p52⟩
theorem mY_X11_isSign : zYS yX11_isSign cX11_isSign 1 (some .boolean) 1 := ⟨⟨q_1381, q_13, ⟨by decide +kernel, by decide +kernel, by decide +kernel⟩, by decide⟩, q_1380⟩
theorem mY_X11_goOnAnd : zYV yX11_goOnAnd cX11_goOnAnd 1 none 0 := ⟨⟨q_1385, q_13, ⟨by decide +kernel, by decide +kernel, by decide +kernel⟩, by decide⟩, q_1384, q_p53⟩
theorem mY_X11_goOnOr : zYV yX11_goOnOr cX11_goOnOr 1 none 0 := ⟨⟨q_1389, q_13, ⟨by decide +kernel, by decide +kernel, by decide +kernel⟩, by decide⟩, q_1388, q_p54⟩
theorem mY_X11_atEnd : zYV yX11_atEnd cX11_atEnd 1 (some .int) 0 := ⟨⟨q_1393, q_13, ⟨by decide +kernel, by decide +kernel, by decide +kernel⟩, by decide⟩, q_1392, q_p55⟩
theorem mY_X11_readOrders : zYV yX11_readOrders cX11_readOrders 3 (some .int) 1 := ⟨⟨q_1397, q_13, ⟨by decide +kernel, by decide +kernel, by decide +kernel⟩, by decide⟩, q_1396, q_p56⟩
theorem mY_X11_stepText : zYV yX11_stepText cX11_stepText 4 none 1 := ⟨⟨q_1401, q_13, ⟨by decide +kernel, by decide +kernel, by decide +kernel⟩, by decide⟩, q_1400, q_p57⟩
theorem mY_X11_figure : zYV yX11_figure cX11_figure 2 (some .int) 0 := ⟨⟨q_1405, q_13, ⟨by decide +kernel, by decide +kernel, by decide +kernel⟩, by decide⟩, q_1404, q_p58⟩
theorem mY_X11_text : zYV yX11_text cX11_text 2 (some .int) 1 := ⟨⟨q_1409, q_13, ⟨by decide +kernel, by decide +kernel, by decide +kernel⟩, by decide⟩, q_1407, q_1408⟩
theorem mY_X11_takeHill : zYV yX11_takeHill cX11_takeHill 2 (some .int) 0 := ⟨⟨q_1413, q_13, ⟨by decide +kernel, by decide +kernel, by decide +kernel⟩, by decide⟩, q_1412, q_p59⟩
theorem mY_X11_put_ : zYV yX11_put_ cX11_put_ 4 none 3 := ⟨⟨q_1417, q_13, ⟨by decide +kernel, by decide +kernel, by decide +kernel⟩, by decide⟩, q_1416, q_p60⟩
theorem mY_X11_sun : zYV yX11_sun cX11_sun 2 (some .int) 1 := ⟨⟨q_1421, q_13, ⟨by decide +kernel, by decide +kernel, by decide +kernel⟩, by decide⟩, q_1419, q_1420⟩
theorem mY_X11_parish : zYV yX11_parish cX11_parish 3 (some .int) 2 := ⟨⟨q_1425, q_13, ⟨by decide +kernel, by decide +kernel, by decide +kernel⟩, by decide⟩, q_1423, q_1424⟩
theorem mY_X11_isParish : zYV yX11_isParish cX11_isParish 2 (some .boolean) 1 := ⟨⟨q_1429, q_13, ⟨by decide +kernel, by decide +kernel, by decide +kernel⟩, by decide⟩, q_1428, q_p61⟩
theorem mY_X11_of : zYV yX11_of cX11_of 3 (some .int) 2 := ⟨⟨q_1433, q_13, ⟨by decide +kernel, by decide +kernel, by decide +kernel⟩, by decide⟩, q_1432, q_p62⟩
theorem mY_X11_desk : zYV yX11_desk cX11_desk 3 (some .int) 2 := ⟨⟨q_1437, q_13, ⟨by decide +kernel, by decide +kernel, by decide +kernel⟩, by decide⟩, q_1435, q_1436⟩
theorem mY_X11_backlog : zYV yX11_backlog cX11_backlog 4 (some .int) 1 := ⟨⟨q_1441, q_13, ⟨by decide +kernel, by decide +kernel, by decide +kernel⟩, by decide⟩, q_1440, q_p63⟩
theorem mY_X11_isAt : zYV yX11_isAt cX11_isAt 3 (some .boolean) 2 := ⟨⟨q_1445, q_13, ⟨by decide +kernel, by decide +kernel, by decide +kernel⟩, by decide⟩, q_1444, q_p64⟩
theorem mY_X11_deskOf : zYV yX11_deskOf cX11_deskOf 2 (some .int) 1 := ⟨⟨q_1449, q_13, ⟨by decide +kernel, by decide +kernel, by decide +kernel⟩, by decide⟩, q_1448, q_p65⟩
theorem mY_X11_firstAt : zYV yX11_firstAt cX11_firstAt 4 (some .int) 1 := ⟨⟨q_1453, q_13, ⟨by decide +kernel, by decide +kernel, by decide +kernel⟩, by decide⟩, q_1452, q_p66⟩
theorem mY_X11_time : zYV yX11_time cX11_time 1 (some .int) 0 := ⟨⟨q_1457, q_13, ⟨by decide +kernel, by decide +kernel, by decide +kernel⟩, by decide⟩, q_1456, q_p67⟩
theorem mY_X11_isOpen : zYV yX11_isOpen cX11_isOpen 3 (some .boolean) 2 := ⟨⟨q_1461, q_13, ⟨by decide +kernel, by decide +kernel, by decide +kernel⟩, by decide⟩, q_1460, q_p68⟩
theorem mY_X11_paper : zYV yX11_paper cX11_paper 4 (some .int) 2 := ⟨⟨q_1465, q_13, ⟨by decide +kernel, by decide +kernel, by decide +kernel⟩, by decide⟩, q_1463, q_1464⟩
theorem mY_X11_isPaper : zYV yX11_isPaper cX11_isPaper 2 (some .boolean) 1 := ⟨⟨q_1469, q_13, ⟨by decide +kernel, by decide +kernel, by decide +kernel⟩, by decide⟩, q_1468, q_p69⟩
theorem mY_X11_rule : zYV yX11_rule cX11_rule 2 (some .boolean) 1 := ⟨⟨q_1473, q_13, ⟨by decide +kernel, by decide +kernel, by decide +kernel⟩, by decide⟩, q_1471, q_1472⟩
theorem mY_X11_eclipse : zYV yX11_eclipse cX11_eclipse 2 (some .boolean) 1 := ⟨⟨q_1477, q_13, ⟨by decide +kernel, by decide +kernel, by decide +kernel⟩, by decide⟩, q_1475, q_1476⟩
theorem mY_X11_file : zYV yX11_file cX11_file 3 (some .int) 2 := ⟨⟨q_1481, q_13, ⟨by decide +kernel, by decide +kernel, by decide +kernel⟩, by decide⟩, q_1479, q_1480⟩
theorem mY_X11_canFile : zYV yX11_canFile cX11_canFile 3 (some .boolean) 2 := ⟨⟨q_1485, q_13, ⟨by decide +kernel, by decide +kernel, by decide +kernel⟩, by decide⟩, q_1484, q_p70⟩
theorem mY_X11_wants : zYV yX11_wants cX11_wants 4 (some .int) 1 := ⟨⟨q_1489, q_13, ⟨by decide +kernel, by decide +kernel, by decide +kernel⟩, by decide⟩, q_1488, q_p71⟩
theorem mY_X11_keep : zYV yX11_keep cX11_keep 2 none 0 := ⟨⟨q_1493, q_13, ⟨by decide +kernel, by decide +kernel, by decide +kernel⟩, by decide⟩, q_1492, q_p72⟩
theorem mY_X11_fileNow : zYV yX11_fileNow cX11_fileNow 3 none 2 := ⟨⟨q_1497, q_13, ⟨by decide +kernel, by decide +kernel, by decide +kernel⟩, by decide⟩, q_1496, q_p73⟩
theorem mY_X11_withdraw : zYV yX11_withdraw cX11_withdraw 3 (some .int) 1 := ⟨⟨q_1501, q_13, ⟨by decide +kernel, by decide +kernel, by decide +kernel⟩, by decide⟩, q_1499, q_1500⟩
theorem mY_X11_canWithdraw : zYV yX11_canWithdraw cX11_canWithdraw 2 (some .boolean) 1 := ⟨⟨q_1505, q_13, ⟨by decide +kernel, by decide +kernel, by decide +kernel⟩, by decide⟩, q_1504, q_p74⟩
theorem mY_X11_goAway : zYV yX11_goAway cX11_goAway 2 none 1 := ⟨⟨q_1509, q_13, ⟨by decide +kernel, by decide +kernel, by decide +kernel⟩, by decide⟩, q_1508, q_p75⟩
theorem mY_X11_go : zYV yX11_go cX11_go 3 (some .int) 1 := ⟨⟨q_1513, q_13, ⟨by decide +kernel, by decide +kernel, by decide +kernel⟩, by decide⟩, q_1511, q_1512⟩
theorem mY_X11_areHours : zYV yX11_areHours cX11_areHours 3 (some .boolean) 2 := ⟨⟨q_1517, q_13, ⟨by decide +kernel, by decide +kernel, by decide +kernel⟩, by decide⟩, q_1516, q_p76⟩
theorem mY_X11_pass : zYV yX11_pass cX11_pass 3 none 1 := ⟨⟨q_1521, q_13, ⟨by decide +kernel, by decide +kernel, by decide +kernel⟩, by decide⟩, q_1520, q_p77⟩
theorem mY_X11_isDawn : zYV yX11_isDawn cX11_isDawn 1 (some .boolean) 0 := ⟨⟨q_1525, q_13, ⟨by decide +kernel, by decide +kernel, by decide +kernel⟩, by decide⟩, q_1524, q_p78⟩
theorem mY_X11_dawn : zYV yX11_dawn cX11_dawn 5 none 1 := ⟨⟨q_1529, q_13, ⟨by decide +kernel, by decide +kernel, by decide +kernel⟩, by decide⟩, q_1528, q_p79⟩
theorem mY_X11_form : zYV yX11_form cX11_form 2 (some .int) 1 := ⟨⟨q_1533, q_13, ⟨by decide +kernel, by decide +kernel, by decide +kernel⟩, by decide⟩, q_1532, q_p80⟩
theorem mY_X11_hoursBy : zYV yX11_hoursBy cX11_hoursBy 7 (some .int) 2 := ⟨⟨q_1537, q_13, ⟨by decide +kernel, by decide +kernel, by decide +kernel⟩, by decide⟩, q_1536, q_p81⟩
theorem mY_X11_shareOf : zYV yX11_shareOf cX11_shareOf 5 (some .int) 3 := ⟨⟨q_1541, q_13, ⟨by decide +kernel, by decide +kernel, by decide +kernel⟩, by decide⟩, q_1540, q_p82⟩
theorem mY_X11_note : zYV yX11_note cX11_note 4 none 2 := ⟨⟨q_1546, q_13, ⟨by decide +kernel, by decide +kernel, by decide +kernel⟩, by decide⟩, q_1545, q_p83⟩
theorem mY_X11_serve : zYV yX11_serve cX11_serve 5 none 1 := ⟨⟨q_1550, q_13, ⟨by decide +kernel, by decide +kernel, by decide +kernel⟩, by decide⟩, q_1549, q_p84⟩
theorem mY_X11_isGranted : zYV yX11_isGranted cX11_isGranted 4 (some .boolean) 3 := ⟨⟨q_1554, q_13, ⟨by decide +kernel, by decide +kernel, by decide +kernel⟩, by decide⟩, q_1553, q_p85⟩
theorem mY_X11_worthOf : zYV yX11_worthOf cX11_worthOf 3 (some .int) 1 := ⟨⟨q_1559, q_13, ⟨by decide +kernel, by decide +kernel, by decide +kernel⟩, by decide⟩, q_1558, q_p86⟩
theorem mY_X11_workOut : zYV yX11_workOut cX11_workOut 6 (some .int) 3 := ⟨⟨q_1563, q_13, ⟨by decide +kernel, by decide +kernel, by decide +kernel⟩, by decide⟩, q_1562, q_p87⟩
theorem mY_X11_worked : zYS yX11_worked cX11_worked 5 (some .int) 3 := ⟨⟨q_1566, q_13, ⟨by decide +kernel, by decide +kernel, by decide +kernel⟩, by decide⟩, q_1565⟩
theorem mY_X11_bounded : zYS yX11_bounded cX11_bounded 2 (some .int) 1 := ⟨⟨q_1569, q_13, ⟨by decide +kernel, by decide +kernel, by decide +kernel⟩, by decide⟩, q_1568⟩
theorem mY_X11_undo : zYV yX11_undo cX11_undo 2 (some .int) 0 := ⟨⟨q_1577, q_13, ⟨by decide +kernel, by decide +kernel, by decide +kernel⟩, by decide⟩, q_1575, q_1576⟩
theorem mY_X11_log : zYV yX11_log cX11_log 3 (some .int) 2 := ⟨⟨q_1581, q_13, ⟨by decide +kernel, by decide +kernel, by decide +kernel⟩, by decide⟩, q_1579, q_1580⟩
theorem mY_X11_step : zYV yX11_step cX11_step 4 (some .int) 3 := ⟨⟨q_1585, q_13, ⟨by decide +kernel, by decide +kernel, by decide +kernel⟩, by decide⟩, q_1583, q_1584⟩
theorem mY_X11_isOrders : zYV yX11_isOrders cX11_isOrders 2 (some .boolean) 1 := ⟨⟨q_1589, q_13, ⟨by decide +kernel, by decide +kernel, by decide +kernel⟩, by decide⟩, q_1588, q_p88⟩
theorem mY_X11_run : zYV yX11_run cX11_run 3 (some .int) 1 := ⟨⟨q_1593, q_13, ⟨by decide +kernel, by decide +kernel, by decide +kernel⟩, by decide⟩, q_1591, q_1592⟩
theorem mY_X11_putAside : zYV yX11_putAside cX11_putAside 2 none 0 := ⟨⟨q_1598, q_13, ⟨by decide +kernel, by decide +kernel, by decide +kernel⟩, by decide⟩, q_1597, q_p89⟩
theorem mY_X11_canStep : zYV yX11_canStep cX11_canStep 3 (some .boolean) 1 := ⟨⟨q_1602, q_13, ⟨by decide +kernel, by decide +kernel, by decide +kernel⟩, by decide⟩, q_1601, q_p90⟩
theorem mY_X11_doStep : zYV yX11_doStep cX11_doStep 2 none 1 := ⟨⟨q_1606, q_13, ⟨by decide +kernel, by decide +kernel, by decide +kernel⟩, by decide⟩, q_1605, q_p91⟩
theorem mY_X11_takeBack : zYV yX11_takeBack cX11_takeBack 2 none 0 := ⟨⟨q_1610, q_13, ⟨by decide +kernel, by decide +kernel, by decide +kernel⟩, by decide⟩, q_1609, q_p92⟩
theorem mY_X11_perform : zYV yX11_perform cX11_perform 3 (some .int) 1 := ⟨⟨q_1614, q_13, ⟨by decide +kernel, by decide +kernel, by decide +kernel⟩, by decide⟩, q_1612, q_1613⟩
theorem mY_X11_ahead : zYV yX11_ahead cX11_ahead 5 (some .int) 3 := ⟨⟨q_1618, q_13, ⟨by decide +kernel, by decide +kernel, by decide +kernel⟩, by decide⟩, q_1616, q_1617⟩
theorem mY_X11_needed : zYV yX11_needed cX11_needed 2 (some .int) 1 := ⟨⟨q_1622, q_13, ⟨by decide +kernel, by decide +kernel, by decide +kernel⟩, by decide⟩, q_1620, q_1621⟩
theorem mY_X11_neededFor : zYV yX11_neededFor cX11_neededFor 5 (some .int) 1 := ⟨⟨q_1626, q_13, ⟨by decide +kernel, by decide +kernel, by decide +kernel⟩, by decide⟩, q_1625, q_p93⟩
theorem mY_X11_ring : zYV yX11_ring cX11_ring 3 (some .int) 0 := ⟨⟨q_1630, q_13, ⟨by decide +kernel, by decide +kernel, by decide +kernel⟩, by decide⟩, q_1628, q_1629⟩
theorem mY_X11_soonest : zYV yX11_soonest cX11_soonest 3 (some .int) 2 := ⟨⟨q_1634, q_13, ⟨by decide +kernel, by decide +kernel, by decide +kernel⟩, by decide⟩, q_1632, q_1633⟩
theorem mY_X11_laySoonest : zYV yX11_laySoonest cX11_laySoonest 4 none 2 := ⟨⟨q_1638, q_13, ⟨by decide +kernel, by decide +kernel, by decide +kernel⟩, by decide⟩, q_1637, q_p94⟩
theorem mY_X11_lacks : zYV yX11_lacks cX11_lacks 6 (some .int) 2 := ⟨⟨q_1642, q_13, ⟨by decide +kernel, by decide +kernel, by decide +kernel⟩, by decide⟩, q_1641, q_p95⟩
theorem mY_X11_tryRows : zYV yX11_tryRows cX11_tryRows 7 none 5 := ⟨⟨q_1646, q_13, ⟨by decide +kernel, by decide +kernel, by decide +kernel⟩, by decide⟩, q_1645, q_p96⟩
theorem mY_X11_hadBy : zYV yX11_hadBy cX11_hadBy 5 (some .int) 2 := ⟨⟨q_1650, q_13, ⟨by decide +kernel, by decide +kernel, by decide +kernel⟩, by decide⟩, q_1649, q_p97⟩
theorem mY_X11_waived : zYV yX11_waived cX11_waived 5 (some .int) 1 := ⟨⟨q_1654, q_13, ⟨by decide +kernel, by decide +kernel, by decide +kernel⟩, by decide⟩, q_1652, q_1653⟩
theorem mY_X11_hasRow : zYV yX11_hasRow cX11_hasRow 7 (some .boolean) 2 := ⟨⟨q_1658, q_13, ⟨by decide +kernel, by decide +kernel, by decide +kernel⟩, by decide⟩, q_1657, q_p98⟩
theorem mY_X11_earliest : zYV yX11_earliest cX11_earliest 4 (some .int) 0 := ⟨⟨q_1662, q_13, ⟨by decide +kernel, by decide +kernel, by decide +kernel⟩, by decide⟩, q_1660, q_1661⟩
theorem mY_X11_share : zYV yX11_share cX11_share 3 (some .int) 2 := ⟨⟨q_1666, q_13, ⟨by decide +kernel, by decide +kernel, by decide +kernel⟩, by decide⟩, q_1664, q_1665⟩
theorem mY_X11_layRow : zYV yX11_layRow cX11_layRow 4 (some .boolean) 1 := ⟨⟨q_1670, q_13, ⟨by decide +kernel, by decide +kernel, by decide +kernel⟩, by decide⟩, q_1669, q_p99⟩
theorem mY_X11_ten : zYS yX11_ten cX11_ten 3 (some .int) 1 := ⟨⟨q_1673, q_13, ⟨by decide +kernel, by decide +kernel, by decide +kernel⟩, by decide⟩, q_1672⟩
theorem mY_X11_isForm : zYV yX11_isForm cX11_isForm 3 (some .boolean) 1 := ⟨⟨q_1677, q_13, ⟨by decide +kernel, by decide +kernel, by decide +kernel⟩, by decide⟩, q_1676, q_p100⟩
theorem mY_X11_chosenHours : zYV yX11_chosenHours cX11_chosenHours 5 (some .int) 1 := ⟨⟨q_1681, q_13, ⟨by decide +kernel, by decide +kernel, by decide +kernel⟩, by decide⟩, q_1680, q_p101⟩
theorem mY_X11_rests : zYV yX11_rests cX11_rests 4 (some .int) 1 := ⟨⟨q_1685, q_13, ⟨by decide +kernel, by decide +kernel, by decide +kernel⟩, by decide⟩, q_1683, q_1684⟩
theorem mY_X11_isRest : zYV yX11_isRest cX11_isRest 6 (some .boolean) 0 := ⟨⟨q_1689, q_13, ⟨by decide +kernel, by decide +kernel, by decide +kernel⟩, by decide⟩, q_1688, q_p102⟩
theorem mY_X11_bribes : zYV yX11_bribes cX11_bribes 6 (some .int) 4 := ⟨⟨q_1693, q_13, ⟨by decide +kernel, by decide +kernel, by decide +kernel⟩, by decide⟩, q_1691, q_1692⟩
theorem mY_X11_divisor : zYS yX11_divisor cX11_divisor 2 (some .int) 2 := ⟨⟨q_1696, q_13, ⟨by decide +kernel, by decide +kernel, by decide +kernel⟩, by decide⟩, q_1695⟩
theorem mY_X11_see : zYV yX11_see cX11_see 3 (some .int) 2 := ⟨⟨q_1700, q_13, ⟨by decide +kernel, by decide +kernel, by decide +kernel⟩, by decide⟩, q_1698, q_1699⟩
theorem mY_X11_could : zYV yX11_could cX11_could 4 (some .int) 1 := ⟨⟨q_1704, q_13, ⟨by decide +kernel, by decide +kernel, by decide +kernel⟩, by decide⟩, q_1702, q_1703⟩
theorem mY_X11_falseBy : zYV yX11_falseBy cX11_falseBy 4 (some .int) 1 := ⟨⟨q_1708, q_13, ⟨by decide +kernel, by decide +kernel, by decide +kernel⟩, by decide⟩, q_1707, q_p103⟩
theorem mY_X11_sure : zYV yX11_sure cX11_sure 3 (some .int) 0 := ⟨⟨q_1712, q_13, ⟨by decide +kernel, by decide +kernel, by decide +kernel⟩, by decide⟩, q_1710, q_1711⟩
theorem mY_X11_wrong : zYV yX11_wrong cX11_wrong 3 (some .int) 0 := ⟨⟨q_1716, q_13, ⟨by decide +kernel, by decide +kernel, by decide +kernel⟩, by decide⟩, q_1714, q_1715⟩
theorem mY_X11_works : zYV yX11_works cX11_works 8 (some .int) 2 := ⟨⟨q_1720, q_13, ⟨by decide +kernel, by decide +kernel, by decide +kernel⟩, by decide⟩, q_1718, q_1719⟩
theorem mY_X11_toil : zYV yX11_toil cX11_toil 4 (some .int) 1 := ⟨⟨q_1725, q_13, ⟨by decide +kernel, by decide +kernel, by decide +kernel⟩, by decide⟩, q_1723, q_1724⟩
theorem mY_X11_isIdle : zYV yX11_isIdle cX11_isIdle 2 (some .boolean) 1 := ⟨⟨q_1729, q_13, ⟨by decide +kernel, by decide +kernel, by decide +kernel⟩, by decide⟩, q_1728, q_p104⟩
theorem mY_X11_fileSoonest : zYV yX11_fileSoonest cX11_fileSoonest 3 none 1 := ⟨⟨q_1733, q_13, ⟨by decide +kernel, by decide +kernel, by decide +kernel⟩, by decide⟩, q_1732, q_p105⟩
theorem mY_X11_firstDigit : zYS yX11_firstDigit cX11_firstDigit 2 (some .int) 2 := ⟨⟨q_1736, q_13, ⟨by decide +kernel, by decide +kernel, by decide +kernel⟩, by decide⟩, q_1735⟩
theorem mY_X11_years : zYV yX11_years cX11_years 6 (some .int) 2 := ⟨⟨q_1740, q_13, ⟨by decide +kernel, by decide +kernel, by decide +kernel⟩, by decide⟩, q_1738, q_1739⟩
theorem mY_X11_draw : zYV yX11_draw cX11_draw 2 (some .int) 1 := ⟨⟨q_1744, q_13, ⟨by decide +kernel, by decide +kernel, by decide +kernel⟩, by decide⟩, q_1743, q_p106⟩
theorem mY_X11_image : zYV yX11_image cX11_image 2 (some .int) 0 := ⟨⟨q_1750, q_13, ⟨by decide +kernel, by decide +kernel, by decide +kernel⟩, by decide⟩, q_1748, q_1749⟩
theorem mY_X11_back : zYV yX11_back cX11_back 2 (some .int) 0 := ⟨⟨q_1754, q_13, ⟨by decide +kernel, by decide +kernel, by decide +kernel⟩, by decide⟩, q_1752, q_1753⟩
theorem mY_X11_count : zYV yX11_count cX11_count 2 (some .int) 1 := ⟨⟨q_1758, q_13, ⟨by decide +kernel, by decide +kernel, by decide +kernel⟩, by decide⟩, q_1756, q_1757⟩
