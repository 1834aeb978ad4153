/-! OWN LAYER, 7: words by their places in the tables (printed by program) -/
theorem o_c1 {w : Cond} {i : Nat} (h : tables_1_1[i]? = some w) : w ∈ tables_1 := List.mem_append_left _ (List.mem_of_getElem? h)
theorem o_c2 {w : Cond} {i : Nat} (h : tables_1_2[i]? = some w) : w ∈ tables_1 := List.mem_append_right _ (List.mem_append_left _ (List.mem_of_getElem? h))
theorem o_c3 {w : Cond} {i : Nat} (h : tables_1_3[i]? = some w) : w ∈ tables_1 := List.mem_append_right _ (List.mem_append_right _ (List.mem_append_left _ (List.mem_of_getElem? h)))
theorem o_c4 {w : Cond} {i : Nat} (h : tables_1_4[i]? = some w) : w ∈ tables_1 := List.mem_append_right _ (List.mem_append_right _ (List.mem_append_right _ (List.mem_append_left _ (List.mem_of_getElem? h))))
theorem o_c5 {w : Cond} {i : Nat} (h : tables_1_5[i]? = some w) : w ∈ tables_1 := List.mem_append_right _ (List.mem_append_right _ (List.mem_append_right _ (List.mem_append_right _ (List.mem_append_left _ (List.mem_of_getElem? h)))))
theorem o_c6 {w : Cond} {i : Nat} (h : tables_1_6[i]? = some w) : w ∈ tables_1 := List.mem_append_right _ (List.mem_append_right _ (List.mem_append_right _ (List.mem_append_right _ (List.mem_append_right _ (List.mem_append_left _ (List.mem_of_getElem? h))))))
theorem o_c7 {w : Cond} {i : Nat} (h : tables_1_7[i]? = some w) : w ∈ tables_1 := List.mem_append_right _ (List.mem_append_right _ (List.mem_append_right _ (List.mem_append_right _ (List.mem_append_right _ (List.mem_append_right _ (List.mem_of_getElem? h))))))
theorem o_wT {w : Cond} (h : w ∈ tables_1) (hg : goodWord w = true) : w ∈ o_T := List.mem_filter.mpr ⟨List.mem_append_right _ h, hg⟩
theorem o_wN {w : Cond} (h : w ∈ tables_1) (hg : o_isN w = true) : w ∈ o_N := List.mem_filter.mpr ⟨List.mem_append_right _ h, hg⟩
theorem o_wS {w : Cond} {i : Nat} (h : (k2_sels lw_privs)[i]? = some w) (hg : goodWord w = true) : w ∈ o_T := List.mem_filter.mpr ⟨List.mem_append_left _ (List.mem_of_getElem? h), hg⟩
theorem o_wA {ws : List Cond} {is : List Nat} (h : ws = is.filterMap (fun i => tables_1[i]?)) (hg : ws.all goodWord = true) : ∀ w ∈ ws, w ∈ o_T := fun w hw => by
  have h1 := List.all_eq_true.mp hg w hw
  rw [h] at hw
  obtain ⟨i, -, hi⟩ := List.mem_filterMap.mp hw
  exact o_wT (List.mem_of_getElem? hi) h1
theorem iT0 : ∀ w ∈ u_ws RX0 TX0 3, w ∈ o_T := o_wA (is := [164, 166, 168]) (by decide +kernel) (by decide +kernel)
theorem iT1 : ∀ w ∈ u_ws RX1 TX1 4, w ∈ o_T := o_wA (is := [146, 148, 150, 152]) (by decide +kernel) (by decide +kernel)
theorem iT2 : ∀ w ∈ u_ws RX2 TX2 6, w ∈ o_T := o_wA (is := [585, 587, 589, 591, 593, 595]) (by decide +kernel) (by decide +kernel)
theorem iT3 : ∀ w ∈ u_ws RX3 TX3 12, w ∈ o_T := o_wA (is := [61, 63, 65, 67, 69, 71, 73, 75, 77, 79, 81, 83]) (by decide +kernel) (by decide +kernel)
theorem iT4 : ∀ w ∈ u_ws RX4 TX4 3, w ∈ o_T := o_wA (is := [97, 99, 101]) (by decide +kernel) (by decide +kernel)
theorem iT5 : ∀ w ∈ u_ws RX5 TX5 7, w ∈ o_T := o_wA (is := [119, 121, 123, 125, 127, 129, 131]) (by decide +kernel) (by decide +kernel)
theorem iT6 : ∀ w ∈ u_ws RX6 TX6 12, w ∈ o_T := o_wA (is := [650, 652, 654, 656, 658, 660, 662, 664, 666, 668, 670, 672]) (by decide +kernel) (by decide +kernel)
theorem iT7 : ∀ w ∈ u_ws RX7 TX7 6, w ∈ o_T := o_wA (is := [435, 437, 439, 441, 443, 445]) (by decide +kernel) (by decide +kernel)
theorem iT9 : ∀ w ∈ u_ws RX9 TX9 6, w ∈ o_T := o_wA (is := [188, 190, 192, 194, 196, 198]) (by decide +kernel) (by decide +kernel)
theorem iT10 : ∀ w ∈ u_ws RX10 TX10 6, w ∈ o_T := o_wA (is := [534, 536, 538, 540, 542, 544]) (by decide +kernel) (by decide +kernel)
theorem iT11 : ∀ w ∈ u_ws RX11 TX11 18, w ∈ o_T := o_wA (is := [470, 472, 474, 476, 478, 480, 482, 484, 486, 488, 490, 492, 494, 496, 498, 500, 502, 504]) (by decide +kernel) (by decide +kernel)
theorem iT12 : ∀ w ∈ u_ws RX12 TX12 58, w ∈ o_T := o_wA (is := [1221, 1223, 1225, 1227, 1229, 1231, 1233, 1235, 1237, 1239, 1241, 1243, 1245, 1247, 1249, 1251, 1253, 1255, 1257, 1259, 1261, 1263, 1265, 1267, 1269, 1271, 1273, 1275, 1277, 1279, 1281, 1283, 1285, 1287, 1289, 1291, 1293, 1295, 1297, 1299, 1301, 1303, 1305, 1307, 1309, 1311, 1313, 1315, 1317, 1319, 1321, 1323, 1325, 1327, 1329, 1331, 1333, 1335]) (by decide +kernel) (by decide +kernel)
theorem flX3_9 : o_FL RX3 9 3 0 := ⟨RX3, TX3, 12, rfl, rfl, by decide, iT3, tyX3_ok, nmX3, Or.inl (o_wT (o_c1 (i := 45) rfl) rfl)⟩
theorem fnX3_9 : o_FN RX3 9 3 0 := o_wT (o_c1 (i := 45) rfl) rfl
theorem flX3_15 : o_FL RX3 15 3 1 := ⟨RX3, TX3, 12, rfl, rfl, by decide, iT3, tyX3_ok, nmX3, Or.inl (o_wT (o_c1 (i := 47) rfl) rfl)⟩
theorem fnX3_15 : o_FN RX3 15 3 1 := o_wT (o_c1 (i := 47) rfl) rfl
theorem flX3_18 : o_FL RX3 18 3 2 := ⟨RX3, TX3, 12, rfl, rfl, by decide, iT3, tyX3_ok, nmX3, Or.inl (o_wT (o_c1 (i := 49) rfl) rfl)⟩
theorem flX3_22 : o_FL RX3 22 3 3 := ⟨RX3, TX3, 12, rfl, rfl, by decide, iT3, tyX3_ok, nmX3, Or.inl (o_wT (o_c1 (i := 50) rfl) rfl)⟩
theorem flX3_26 : o_FL RX3 26 3 4 := ⟨RX3, TX3, 12, rfl, rfl, by decide, iT3, tyX3_ok, nmX3, Or.inl (o_wT (o_c1 (i := 51) rfl) rfl)⟩
theorem flX3_29 : o_FL RX3 29 3 5 := ⟨RX3, TX3, 12, rfl, rfl, by decide, iT3, tyX3_ok, nmX3, Or.inl (o_wT (o_c1 (i := 53) rfl) rfl)⟩
theorem flX3_34 : o_FL RX3 34 3 6 := ⟨RX3, TX3, 12, rfl, rfl, by decide, iT3, tyX3_ok, nmX3, Or.inl (o_wT (o_c1 (i := 55) rfl) rfl)⟩
theorem flX3_37 : o_FL RX3 37 3 7 := ⟨RX3, TX3, 12, rfl, rfl, by decide, iT3, tyX3_ok, nmX3, Or.inl (o_wT (o_c1 (i := 56) rfl) rfl)⟩
theorem flX3_40 : o_FL RX3 40 3 8 := ⟨RX3, TX3, 12, rfl, rfl, by decide, iT3, tyX3_ok, nmX3, Or.inl (o_wT (o_c1 (i := 57) rfl) rfl)⟩
theorem flX3_43 : o_FL RX3 43 3 9 := ⟨RX3, TX3, 12, rfl, rfl, by decide, iT3, tyX3_ok, nmX3, Or.inl (o_wT (o_c1 (i := 58) rfl) rfl)⟩
theorem flX3_46 : o_FL RX3 46 3 10 := ⟨RX3, TX3, 12, rfl, rfl, by decide, iT3, tyX3_ok, nmX3, Or.inl (o_wT (o_c1 (i := 59) rfl) rfl)⟩
theorem flX3_49 : o_FL RX3 49 3 11 := ⟨RX3, TX3, 12, rfl, rfl, by decide, iT3, tyX3_ok, nmX3, Or.inl (o_wT (o_c1 (i := 60) rfl) rfl)⟩
theorem flX4_11 : o_FL RX4 11 4 0 := ⟨RX4, TX4, 3, rfl, rfl, by decide, iT4, tyX4_ok, nmX4, Or.inl (o_wT (o_c1 (i := 94) rfl) rfl)⟩
theorem fnX4_11 : o_FN RX4 11 4 0 := o_wT (o_c1 (i := 94) rfl) rfl
theorem flX4_17 : o_FL RX4 17 4 1 := ⟨RX4, TX4, 3, rfl, rfl, by decide, iT4, tyX4_ok, nmX4, Or.inl (o_wT (o_c1 (i := 95) rfl) rfl)⟩
theorem fnX4_17 : o_FN RX4 17 4 1 := o_wT (o_c1 (i := 95) rfl) rfl
theorem flX4_20 : o_FL RX4 20 4 2 := ⟨RX4, TX4, 3, rfl, rfl, by decide, iT4, tyX4_ok, nmX4, Or.inl (o_wT (o_c1 (i := 96) rfl) rfl)⟩
theorem flX5_9 : o_FL RX5 9 5 0 := ⟨RX5, TX5, 7, rfl, rfl, by decide, iT5, tyX5_ok, nmX5, Or.inl (o_wT (o_c1 (i := 111) rfl) rfl)⟩
theorem fnX5_9 : o_FN RX5 9 5 0 := o_wT (o_c1 (i := 111) rfl) rfl
theorem flX5_15 : o_FL RX5 15 5 1 := ⟨RX5, TX5, 7, rfl, rfl, by decide, iT5, tyX5_ok, nmX5, Or.inl (o_wT (o_c1 (i := 112) rfl) rfl)⟩
theorem fnX5_15 : o_FN RX5 15 5 1 := o_wT (o_c1 (i := 112) rfl) rfl
theorem flX5_18 : o_FL RX5 18 5 2 := ⟨RX5, TX5, 7, rfl, rfl, by decide, iT5, tyX5_ok, nmX5, Or.inl (o_wT (o_c1 (i := 114) rfl) rfl)⟩
theorem fnX5_18 : o_FN RX5 18 5 2 := o_wT (o_c1 (i := 114) rfl) rfl
theorem flX5_21 : o_FL RX5 21 5 3 := ⟨RX5, TX5, 7, rfl, rfl, by decide, iT5, tyX5_ok, nmX5, Or.inl (o_wT (o_c1 (i := 115) rfl) rfl)⟩
theorem fnX5_21 : o_FN RX5 21 5 3 := o_wT (o_c1 (i := 115) rfl) rfl
theorem flX5_24 : o_FL RX5 24 5 4 := ⟨RX5, TX5, 7, rfl, rfl, by decide, iT5, tyX5_ok, nmX5, Or.inl (o_wT (o_c1 (i := 116) rfl) rfl)⟩
theorem fnX5_24 : o_FN RX5 24 5 4 := o_wT (o_c1 (i := 116) rfl) rfl
theorem flX5_27 : o_FL RX5 27 5 5 := ⟨RX5, TX5, 7, rfl, rfl, by decide, iT5, tyX5_ok, nmX5, Or.inl (o_wT (o_c1 (i := 117) rfl) rfl)⟩
theorem flX5_31 : o_FL RX5 31 5 6 := ⟨RX5, TX5, 7, rfl, rfl, by decide, iT5, tyX5_ok, nmX5, Or.inl (o_wT (o_c1 (i := 118) rfl) rfl)⟩
theorem flX1_9 : o_FL RX1 9 1 0 := ⟨RX1, TX1, 4, rfl, rfl, by decide, iT1, tyX1_ok, nmX1, Or.inl (o_wT (o_c1 (i := 140) rfl) rfl)⟩
theorem fnX1_9 : o_FN RX1 9 1 0 := o_wT (o_c1 (i := 140) rfl) rfl
theorem flX1_15 : o_FL RX1 15 1 1 := ⟨RX1, TX1, 4, rfl, rfl, by decide, iT1, tyX1_ok, nmX1, Or.inl (o_wT (o_c1 (i := 141) rfl) rfl)⟩
theorem fnX1_15 : o_FN RX1 15 1 1 := o_wT (o_c1 (i := 141) rfl) rfl
theorem flX1_18 : o_FL RX1 18 1 2 := ⟨RX1, TX1, 4, rfl, rfl, by decide, iT1, tyX1_ok, nmX1, Or.inl (o_wT (o_c1 (i := 143) rfl) rfl)⟩
theorem flX1_22 : o_FL RX1 22 1 3 := ⟨RX1, TX1, 4, rfl, rfl, by decide, iT1, tyX1_ok, nmX1, Or.inl (o_wT (o_c1 (i := 144) rfl) rfl)⟩
theorem flX0_9 : o_FL RX0 9 0 0 := ⟨RX0, TX0, 3, rfl, rfl, by decide, iT0, tyX0_ok, nmX0, Or.inl (o_wT (o_c1 (i := 161) rfl) rfl)⟩
theorem fnX0_9 : o_FN RX0 9 0 0 := o_wT (o_c1 (i := 161) rfl) rfl
theorem flX0_15 : o_FL RX0 15 0 1 := ⟨RX0, TX0, 3, rfl, rfl, by decide, iT0, tyX0_ok, nmX0, Or.inl (o_wT (o_c1 (i := 162) rfl) rfl)⟩
theorem fnX0_15 : o_FN RX0 15 0 1 := o_wT (o_c1 (i := 162) rfl) rfl
theorem flX0_18 : o_FL RX0 18 0 2 := ⟨RX0, TX0, 3, rfl, rfl, by decide, iT0, tyX0_ok, nmX0, Or.inl (o_wT (o_c1 (i := 163) rfl) rfl)⟩
theorem flX9_9 : o_FL RX9 9 9 0 := ⟨RX9, TX9, 6, rfl, rfl, by decide, iT9, tyX9_ok, nmX9, Or.inl (o_wT (o_c1 (i := 176) rfl) rfl)⟩
theorem fnX9_9 : o_FN RX9 9 9 0 := o_wT (o_c1 (i := 176) rfl) rfl
theorem flX9_15 : o_FL RX9 15 9 1 := ⟨RX9, TX9, 6, rfl, rfl, by decide, iT9, tyX9_ok, nmX9, Or.inl (o_wT (o_c1 (i := 178) rfl) rfl)⟩
theorem flX9_19 : o_FL RX9 19 9 2 := ⟨RX9, TX9, 6, rfl, rfl, by decide, iT9, tyX9_ok, nmX9, Or.inl (o_wT (o_c1 (i := 180) rfl) rfl)⟩
theorem flX9_23 : o_FL RX9 23 9 3 := ⟨RX9, TX9, 6, rfl, rfl, by decide, iT9, tyX9_ok, nmX9, Or.inl (o_wT (o_c1 (i := 182) rfl) rfl)⟩
theorem flX9_27 : o_FL RX9 27 9 4 := ⟨RX9, TX9, 6, rfl, rfl, by decide, iT9, tyX9_ok, nmX9, Or.inl (o_wT (o_c1 (i := 184) rfl) rfl)⟩
theorem flX9_30 : o_FL RX9 30 9 5 := ⟨RX9, TX9, 6, rfl, rfl, by decide, iT9, tyX9_ok, nmX9, Or.inl (o_wT (o_c1 (i := 186) rfl) rfl)⟩
theorem flX7_16 : o_FL RX7 16 7 0 := ⟨RX7, TX7, 6, rfl, rfl, by decide, iT7, tyX7_ok, nmX7, Or.inl (o_wT (o_c2 (i := 184) rfl) rfl)⟩
theorem fnX7_16 : o_FN RX7 16 7 0 := o_wT (o_c2 (i := 184) rfl) rfl
theorem flX7_20 : o_FL RX7 20 7 1 := ⟨RX7, TX7, 6, rfl, rfl, by decide, iT7, tyX7_ok, nmX7, Or.inl (o_wT (o_c2 (i := 186) rfl) rfl)⟩
theorem fnX7_20 : o_FN RX7 20 7 1 := o_wT (o_c2 (i := 186) rfl) rfl
theorem flX7_24 : o_FL RX7 24 7 2 := ⟨RX7, TX7, 6, rfl, rfl, by decide, iT7, tyX7_ok, nmX7, Or.inl (o_wT (o_c2 (i := 188) rfl) rfl)⟩
theorem fnX7_24 : o_FN RX7 24 7 2 := o_wT (o_c2 (i := 188) rfl) rfl
theorem flX7_27 : o_FL RX7 27 7 3 := ⟨RX7, TX7, 6, rfl, rfl, by decide, iT7, tyX7_ok, nmX7, Or.inl (o_wT (o_c2 (i := 189) rfl) rfl)⟩
theorem fnX7_27 : o_FN RX7 27 7 3 := o_wT (o_c2 (i := 189) rfl) rfl
theorem flX7_7 : o_FL RX7 7 7 4 := ⟨RX7, TX7, 6, rfl, rfl, by decide, iT7, tyX7_ok, nmX7, Or.inl (o_wT (o_c2 (i := 191) rfl) rfl)⟩
theorem flX7_13 : o_FL RX7 13 7 5 := ⟨RX7, TX7, 6, rfl, rfl, by decide, iT7, tyX7_ok, nmX7, Or.inl (o_wT (o_c2 (i := 193) rfl) rfl)⟩
theorem flX11_11 : o_FL RX11 11 11 0 := ⟨RX11, TX11, 18, rfl, rfl, by decide, iT11, tyX11_ok, nmX11, Or.inl (o_wT (o_c2 (i := 212) rfl) rfl)⟩
theorem fnX11_11 : o_FN RX11 11 11 0 := o_wT (o_c2 (i := 212) rfl) rfl
theorem flX11_17 : o_FL RX11 17 11 1 := ⟨RX11, TX11, 18, rfl, rfl, by decide, iT11, tyX11_ok, nmX11, Or.inl (o_wT (o_c2 (i := 213) rfl) rfl)⟩
theorem fnX11_17 : o_FN RX11 17 11 1 := o_wT (o_c2 (i := 213) rfl) rfl
theorem flX11_23 : o_FL RX11 23 11 2 := ⟨RX11, TX11, 18, rfl, rfl, by decide, iT11, tyX11_ok, nmX11, Or.inl (o_wT (o_c2 (i := 214) rfl) rfl)⟩
theorem fnX11_23 : o_FN RX11 23 11 2 := o_wT (o_c2 (i := 214) rfl) rfl
theorem flX11_29 : o_FL RX11 29 11 3 := ⟨RX11, TX11, 18, rfl, rfl, by decide, iT11, tyX11_ok, nmX11, Or.inl (o_wT (o_c2 (i := 215) rfl) rfl)⟩
theorem fnX11_29 : o_FN RX11 29 11 3 := o_wT (o_c2 (i := 215) rfl) rfl
theorem flX11_35 : o_FL RX11 35 11 4 := ⟨RX11, TX11, 18, rfl, rfl, by decide, iT11, tyX11_ok, nmX11, Or.inl (o_wT (o_c2 (i := 216) rfl) rfl)⟩
theorem fnX11_35 : o_FN RX11 35 11 4 := o_wT (o_c2 (i := 216) rfl) rfl
theorem flX11_39 : o_FL RX11 39 11 5 := ⟨RX11, TX11, 18, rfl, rfl, by decide, iT11, tyX11_ok, nmX11, Or.inl (o_wT (o_c2 (i := 217) rfl) rfl)⟩
theorem fnX11_39 : o_FN RX11 39 11 5 := o_wT (o_c2 (i := 217) rfl) rfl
theorem flX11_46 : o_FL RX11 46 11 6 := ⟨RX11, TX11, 18, rfl, rfl, by decide, iT11, tyX11_ok, nmX11, Or.inl (o_wT (o_c2 (i := 218) rfl) rfl)⟩
theorem fnX11_46 : o_FN RX11 46 11 6 := o_wT (o_c2 (i := 218) rfl) rfl
theorem flX11_53 : o_FL RX11 53 11 7 := ⟨RX11, TX11, 18, rfl, rfl, by decide, iT11, tyX11_ok, nmX11, Or.inl (o_wT (o_c2 (i := 219) rfl) rfl)⟩
theorem fnX11_53 : o_FN RX11 53 11 7 := o_wT (o_c2 (i := 219) rfl) rfl
theorem flX11_60 : o_FL RX11 60 11 8 := ⟨RX11, TX11, 18, rfl, rfl, by decide, iT11, tyX11_ok, nmX11, Or.inl (o_wT (o_c2 (i := 220) rfl) rfl)⟩
theorem fnX11_60 : o_FN RX11 60 11 8 := o_wT (o_c2 (i := 220) rfl) rfl
theorem flX11_67 : o_FL RX11 67 11 9 := ⟨RX11, TX11, 18, rfl, rfl, by decide, iT11, tyX11_ok, nmX11, Or.inl (o_wT (o_c2 (i := 221) rfl) rfl)⟩
theorem fnX11_67 : o_FN RX11 67 11 9 := o_wT (o_c2 (i := 221) rfl) rfl
theorem flX11_74 : o_FL RX11 74 11 10 := ⟨RX11, TX11, 18, rfl, rfl, by decide, iT11, tyX11_ok, nmX11, Or.inl (o_wT (o_c2 (i := 222) rfl) rfl)⟩
theorem fnX11_74 : o_FN RX11 74 11 10 := o_wT (o_c2 (i := 222) rfl) rfl
theorem flX11_78 : o_FL RX11 78 11 11 := ⟨RX11, TX11, 18, rfl, rfl, by decide, iT11, tyX11_ok, nmX11, Or.inl (o_wT (o_c2 (i := 223) rfl) rfl)⟩
theorem flX11_82 : o_FL RX11 82 11 12 := ⟨RX11, TX11, 18, rfl, rfl, by decide, iT11, tyX11_ok, nmX11, Or.inl (o_wT (o_c2 (i := 224) rfl) rfl)⟩
theorem flX11_85 : o_FL RX11 85 11 13 := ⟨RX11, TX11, 18, rfl, rfl, by decide, iT11, tyX11_ok, nmX11, Or.inl (o_wT (o_c2 (i := 225) rfl) rfl)⟩
theorem flX11_88 : o_FL RX11 88 11 14 := ⟨RX11, TX11, 18, rfl, rfl, by decide, iT11, tyX11_ok, nmX11, Or.inl (o_wT (o_c2 (i := 226) rfl) rfl)⟩
theorem flX11_91 : o_FL RX11 91 11 15 := ⟨RX11, TX11, 18, rfl, rfl, by decide, iT11, tyX11_ok, nmX11, Or.inl (o_wT (o_c2 (i := 227) rfl) rfl)⟩
theorem flX11_94 : o_FL RX11 94 11 16 := ⟨RX11, TX11, 18, rfl, rfl, by decide, iT11, tyX11_ok, nmX11, Or.inl (o_wT (o_c2 (i := 228) rfl) rfl)⟩
theorem flX11_97 : o_FL RX11 97 11 17 := ⟨RX11, TX11, 18, rfl, rfl, by decide, iT11, tyX11_ok, nmX11, Or.inl (o_wT (o_c2 (i := 229) rfl) rfl)⟩
theorem flX10_21 : o_FL RX10 21 10 0 := ⟨RX10, TX10, 6, rfl, rfl, by decide, iT10, tyX10_ok, nmX10, Or.inl (o_wT (o_c3 (i := 39) rfl) rfl)⟩
theorem fnX10_21 : o_FN RX10 21 10 0 := o_wT (o_c3 (i := 39) rfl) rfl
theorem flX10_24 : o_FL RX10 24 10 1 := ⟨RX10, TX10, 6, rfl, rfl, by decide, iT10, tyX10_ok, nmX10, Or.inl (o_wT (o_c3 (i := 43) rfl) rfl)⟩
theorem fnX10_24 : o_FN RX10 24 10 1 := o_wT (o_c3 (i := 43) rfl) rfl
theorem flX10_27 : o_FL RX10 27 10 2 := ⟨RX10, TX10, 6, rfl, rfl, by decide, iT10, tyX10_ok, nmX10, Or.inl (o_wT (o_c3 (i := 46) rfl) rfl)⟩
theorem fnX10_27 : o_FN RX10 27 10 2 := o_wT (o_c3 (i := 46) rfl) rfl
theorem flX10_9 : o_FL RX10 9 10 3 := ⟨RX10, TX10, 6, rfl, rfl, by decide, iT10, tyX10_ok, nmX10, Or.inl (o_wT (o_c3 (i := 48) rfl) rfl)⟩
theorem flX10_15 : o_FL RX10 15 10 4 := ⟨RX10, TX10, 6, rfl, rfl, by decide, iT10, tyX10_ok, nmX10, Or.inl (o_wT (o_c3 (i := 50) rfl) rfl)⟩
theorem flX10_18 : o_FL RX10 18 10 5 := ⟨RX10, TX10, 6, rfl, rfl, by decide, iT10, tyX10_ok, nmX10, Or.inl (o_wT (o_c3 (i := 52) rfl) rfl)⟩
theorem flX2_22 : o_FL RX2 22 2 0 := ⟨RX2, TX2, 6, rfl, rfl, by decide, iT2, tyX2_ok, nmX2, Or.inl (o_wT (o_c3 (i := 93) rfl) rfl)⟩
theorem fnX2_22 : o_FN RX2 22 2 0 := o_wT (o_c3 (i := 93) rfl) rfl
theorem flX2_25 : o_FL RX2 25 2 1 := ⟨RX2, TX2, 6, rfl, rfl, by decide, iT2, tyX2_ok, nmX2, Or.inl (o_wT (o_c3 (i := 96) rfl) rfl)⟩
theorem fnX2_25 : o_FN RX2 25 2 1 := o_wT (o_c3 (i := 96) rfl) rfl
theorem flX2_28 : o_FL RX2 28 2 2 := ⟨RX2, TX2, 6, rfl, rfl, by decide, iT2, tyX2_ok, nmX2, Or.inl (o_wT (o_c3 (i := 98) rfl) rfl)⟩
theorem fnX2_28 : o_FN RX2 28 2 2 := o_wT (o_c3 (i := 98) rfl) rfl
theorem flX2_9 : o_FL RX2 9 2 3 := ⟨RX2, TX2, 6, rfl, rfl, by decide, iT2, tyX2_ok, nmX2, Or.inl (o_wT (o_c3 (i := 101) rfl) rfl)⟩
theorem fnX2_9 : o_FN RX2 9 2 3 := o_wT (o_c3 (i := 101) rfl) rfl
theorem flX2_15 : o_FL RX2 15 2 4 := ⟨RX2, TX2, 6, rfl, rfl, by decide, iT2, tyX2_ok, nmX2, Or.inl (o_wT (o_c3 (i := 102) rfl) rfl)⟩
theorem fnX2_15 : o_FN RX2 15 2 4 := o_wT (o_c3 (i := 102) rfl) rfl
theorem flX2_18 : o_FL RX2 18 2 5 := ⟨RX2, TX2, 6, rfl, rfl, by decide, iT2, tyX2_ok, nmX2, Or.inl (o_wT (o_c3 (i := 103) rfl) rfl)⟩
theorem flX6_38 : o_FL RX6 38 6 0 := ⟨RX6, TX6, 12, rfl, rfl, by decide, iT6, tyX6_ok, nmX6, Or.inl (o_wT (o_c3 (i := 141) rfl) rfl)⟩
theorem fnX6_38 : o_FN RX6 38 6 0 := o_wT (o_c3 (i := 141) rfl) rfl
theorem flX6_41 : o_FL RX6 41 6 1 := ⟨RX6, TX6, 12, rfl, rfl, by decide, iT6, tyX6_ok, nmX6, Or.inl (o_wT (o_c3 (i := 144) rfl) rfl)⟩
theorem fnX6_41 : o_FN RX6 41 6 1 := o_wT (o_c3 (i := 144) rfl) rfl
theorem flX6_44 : o_FL RX6 44 6 2 := ⟨RX6, TX6, 12, rfl, rfl, by decide, iT6, tyX6_ok, nmX6, Or.inl (o_wT (o_c3 (i := 147) rfl) rfl)⟩
theorem fnX6_44 : o_FN RX6 44 6 2 := o_wT (o_c3 (i := 147) rfl) rfl
theorem flX6_47 : o_FL RX6 47 6 3 := ⟨RX6, TX6, 12, rfl, rfl, by decide, iT6, tyX6_ok, nmX6, Or.inl (o_wT (o_c3 (i := 150) rfl) rfl)⟩
theorem fnX6_47 : o_FN RX6 47 6 3 := o_wT (o_c3 (i := 150) rfl) rfl
theorem flX6_9 : o_FL RX6 9 6 4 := ⟨RX6, TX6, 12, rfl, rfl, by decide, iT6, tyX6_ok, nmX6, Or.inl (o_wT (o_c3 (i := 153) rfl) rfl)⟩
theorem fnX6_9 : o_FN RX6 9 6 4 := o_wT (o_c3 (i := 153) rfl) rfl
theorem flX6_15 : o_FL RX6 15 6 5 := ⟨RX6, TX6, 12, rfl, rfl, by decide, iT6, tyX6_ok, nmX6, Or.inl (o_wT (o_c3 (i := 155) rfl) rfl)⟩
theorem fnX6_15 : o_FN RX6 15 6 5 := o_wT (o_c3 (i := 155) rfl) rfl
theorem flX6_18 : o_FL RX6 18 6 6 := ⟨RX6, TX6, 12, rfl, rfl, by decide, iT6, tyX6_ok, nmX6, Or.inl (o_wT (o_c3 (i := 158) rfl) rfl)⟩
theorem fnX6_18 : o_FN RX6 18 6 6 := o_wT (o_c3 (i := 158) rfl) rfl
theorem flX6_21 : o_FL RX6 21 6 7 := ⟨RX6, TX6, 12, rfl, rfl, by decide, iT6, tyX6_ok, nmX6, Or.inl (o_wT (o_c3 (i := 160) rfl) rfl)⟩
theorem flX6_25 : o_FL RX6 25 6 8 := ⟨RX6, TX6, 12, rfl, rfl, by decide, iT6, tyX6_ok, nmX6, Or.inl (o_wT (o_c3 (i := 163) rfl) rfl)⟩
theorem flX6_28 : o_FL RX6 28 6 9 := ⟨RX6, TX6, 12, rfl, rfl, by decide, iT6, tyX6_ok, nmX6, Or.inl (o_wT (o_c3 (i := 165) rfl) rfl)⟩
theorem flX6_31 : o_FL RX6 31 6 10 := ⟨RX6, TX6, 12, rfl, rfl, by decide, iT6, tyX6_ok, nmX6, Or.inl (o_wT (o_c3 (i := 167) rfl) rfl)⟩
theorem flX6_34 : o_FL RX6 34 6 11 := ⟨RX6, TX6, 12, rfl, rfl, by decide, iT6, tyX6_ok, nmX6, Or.inl (o_wT (o_c3 (i := 168) rfl) rfl)⟩
theorem flX12_152 : o_FL RX12 152 12 0 := ⟨RX12, TX12, 58, rfl, rfl, by decide, iT12, tyX12_ok, nmX12, Or.inl (o_wT (o_c5 (i := 203) rfl) rfl)⟩
theorem flX12_7 : o_FL RX12 7 12 1 := ⟨RX12, TX12, 58, rfl, rfl, by decide, iT12, tyX12_ok, nmX12, Or.inl (o_wT (o_c5 (i := 204) rfl) rfl)⟩
theorem fnX12_7 : o_FN RX12 7 12 1 := o_wT (o_c5 (i := 204) rfl) rfl
theorem flX12_13 : o_FL RX12 13 12 2 := ⟨RX12, TX12, 58, rfl, rfl, by decide, iT12, tyX12_ok, nmX12, Or.inl (o_wT (o_c5 (i := 205) rfl) rfl)⟩
theorem fnX12_13 : o_FN RX12 13 12 2 := o_wT (o_c5 (i := 205) rfl) rfl
theorem flX12_16 : o_FL RX12 16 12 3 := ⟨RX12, TX12, 58, rfl, rfl, by decide, iT12, tyX12_ok, nmX12, Or.inl (o_wT (o_c5 (i := 206) rfl) rfl)⟩
theorem fnX12_16 : o_FN RX12 16 12 3 := o_wT (o_c5 (i := 206) rfl) rfl
theorem flX12_19 : o_FL RX12 19 12 4 := ⟨RX12, TX12, 58, rfl, rfl, by decide, iT12, tyX12_ok, nmX12, Or.inl (o_wT (o_c5 (i := 207) rfl) rfl)⟩
theorem fnX12_19 : o_FN RX12 19 12 4 := o_wT (o_c5 (i := 207) rfl) rfl
theorem flX12_22 : o_FL RX12 22 12 5 := ⟨RX12, TX12, 58, rfl, rfl, by decide, iT12, tyX12_ok, nmX12, Or.inl (o_wT (o_c5 (i := 208) rfl) rfl)⟩
theorem fnX12_22 : o_FN RX12 22 12 5 := o_wT (o_c5 (i := 208) rfl) rfl
theorem flX12_25 : o_FL RX12 25 12 6 := ⟨RX12, TX12, 58, rfl, rfl, by decide, iT12, tyX12_ok, nmX12, Or.inl (o_wT (o_c5 (i := 209) rfl) rfl)⟩
theorem fnX12_25 : o_FN RX12 25 12 6 := o_wT (o_c5 (i := 209) rfl) rfl
theorem flX12_159 : o_FL RX12 159 12 7 := ⟨RX12, TX12, 58, rfl, rfl, by decide, iT12, tyX12_ok, nmX12, Or.inl (o_wT (o_c5 (i := 210) rfl) rfl)⟩
theorem flX12_28 : o_FL RX12 28 12 8 := ⟨RX12, TX12, 58, rfl, rfl, by decide, iT12, tyX12_ok, nmX12, Or.inl (o_wT (o_c5 (i := 211) rfl) rfl)⟩
theorem fnX12_28 : o_FN RX12 28 12 8 := o_wT (o_c5 (i := 211) rfl) rfl
theorem flX12_31 : o_FL RX12 31 12 9 := ⟨RX12, TX12, 58, rfl, rfl, by decide, iT12, tyX12_ok, nmX12, Or.inl (o_wT (o_c5 (i := 212) rfl) rfl)⟩
theorem fnX12_31 : o_FN RX12 31 12 9 := o_wT (o_c5 (i := 212) rfl) rfl
theorem flX12_34 : o_FL RX12 34 12 10 := ⟨RX12, TX12, 58, rfl, rfl, by decide, iT12, tyX12_ok, nmX12, Or.inl (o_wT (o_c5 (i := 213) rfl) rfl)⟩
theorem fnX12_34 : o_FN RX12 34 12 10 := o_wT (o_c5 (i := 213) rfl) rfl
theorem flX12_37 : o_FL RX12 37 12 11 := ⟨RX12, TX12, 58, rfl, rfl, by decide, iT12, tyX12_ok, nmX12, Or.inl (o_wT (o_c5 (i := 214) rfl) rfl)⟩
theorem fnX12_37 : o_FN RX12 37 12 11 := o_wT (o_c5 (i := 214) rfl) rfl
theorem flX12_40 : o_FL RX12 40 12 12 := ⟨RX12, TX12, 58, rfl, rfl, by decide, iT12, tyX12_ok, nmX12, Or.inl (o_wT (o_c5 (i := 215) rfl) rfl)⟩
theorem fnX12_40 : o_FN RX12 40 12 12 := o_wT (o_c5 (i := 215) rfl) rfl
theorem flX12_43 : o_FL RX12 43 12 13 := ⟨RX12, TX12, 58, rfl, rfl, by decide, iT12, tyX12_ok, nmX12, Or.inl (o_wT (o_c5 (i := 216) rfl) rfl)⟩
theorem fnX12_43 : o_FN RX12 43 12 13 := o_wT (o_c5 (i := 216) rfl) rfl
theorem flX12_162 : o_FL RX12 162 12 14 := ⟨RX12, TX12, 58, rfl, rfl, by decide, iT12, tyX12_ok, nmX12, Or.inl (o_wT (o_c5 (i := 217) rfl) rfl)⟩
theorem flX12_46 : o_FL RX12 46 12 15 := ⟨RX12, TX12, 58, rfl, rfl, by decide, iT12, tyX12_ok, nmX12, Or.inl (o_wT (o_c5 (i := 218) rfl) rfl)⟩
theorem fnX12_46 : o_FN RX12 46 12 15 := o_wT (o_c5 (i := 218) rfl) rfl
theorem flX12_49 : o_FL RX12 49 12 16 := ⟨RX12, TX12, 58, rfl, rfl, by decide, iT12, tyX12_ok, nmX12, Or.inl (o_wT (o_c5 (i := 219) rfl) rfl)⟩
theorem fnX12_49 : o_FN RX12 49 12 16 := o_wT (o_c5 (i := 219) rfl) rfl
theorem flX12_52 : o_FL RX12 52 12 17 := ⟨RX12, TX12, 58, rfl, rfl, by decide, iT12, tyX12_ok, nmX12, Or.inl (o_wT (o_c5 (i := 220) rfl) rfl)⟩
theorem fnX12_52 : o_FN RX12 52 12 17 := o_wT (o_c5 (i := 220) rfl) rfl
theorem flX12_55 : o_FL RX12 55 12 18 := ⟨RX12, TX12, 58, rfl, rfl, by decide, iT12, tyX12_ok, nmX12, Or.inl (o_wT (o_c5 (i := 221) rfl) rfl)⟩
theorem fnX12_55 : o_FN RX12 55 12 18 := o_wT (o_c5 (i := 221) rfl) rfl
theorem flX12_58 : o_FL RX12 58 12 19 := ⟨RX12, TX12, 58, rfl, rfl, by decide, iT12, tyX12_ok, nmX12, Or.inl (o_wT (o_c5 (i := 222) rfl) rfl)⟩
theorem fnX12_58 : o_FN RX12 58 12 19 := o_wT (o_c5 (i := 222) rfl) rfl
theorem flX12_61 : o_FL RX12 61 12 20 := ⟨RX12, TX12, 58, rfl, rfl, by decide, iT12, tyX12_ok, nmX12, Or.inl (o_wT (o_c5 (i := 223) rfl) rfl)⟩
theorem fnX12_61 : o_FN RX12 61 12 20 := o_wT (o_c5 (i := 223) rfl) rfl
theorem flX12_64 : o_FL RX12 64 12 21 := ⟨RX12, TX12, 58, rfl, rfl, by decide, iT12, tyX12_ok, nmX12, Or.inl (o_wT (o_c5 (i := 224) rfl) rfl)⟩
theorem fnX12_64 : o_FN RX12 64 12 21 := o_wT (o_c5 (i := 224) rfl) rfl
theorem flX12_67 : o_FL RX12 67 12 22 := ⟨RX12, TX12, 58, rfl, rfl, by decide, iT12, tyX12_ok, nmX12, Or.inl (o_wT (o_c5 (i := 225) rfl) rfl)⟩
theorem fnX12_67 : o_FN RX12 67 12 22 := o_wT (o_c5 (i := 225) rfl) rfl
theorem flX12_71 : o_FL RX12 71 12 23 := ⟨RX12, TX12, 58, rfl, rfl, by decide, iT12, tyX12_ok, nmX12, Or.inl (o_wT (o_c5 (i := 226) rfl) rfl)⟩
theorem fnX12_71 : o_FN RX12 71 12 23 := o_wT (o_c5 (i := 226) rfl) rfl
theorem flX12_301 : o_FL RX12 301 12 24 := ⟨RX12, TX12, 58, rfl, rfl, by decide, iT12, tyX12_ok, nmX12, Or.inl (o_wT (o_c5 (i := 227) rfl) rfl)⟩
theorem flX12_145 : o_FL RX12 145 12 25 := ⟨RX12, TX12, 58, rfl, rfl, by decide, iT12, tyX12_ok, nmX12, Or.inl (o_wT (o_c5 (i := 228) rfl) rfl)⟩
theorem flX12_74 : o_FL RX12 74 12 26 := ⟨RX12, TX12, 58, rfl, rfl, by decide, iT12, tyX12_ok, nmX12, Or.inl (o_wT (o_c5 (i := 229) rfl) rfl)⟩
theorem fnX12_74 : o_FN RX12 74 12 26 := o_wT (o_c5 (i := 229) rfl) rfl
theorem flX12_77 : o_FL RX12 77 12 27 := ⟨RX12, TX12, 58, rfl, rfl, by decide, iT12, tyX12_ok, nmX12, Or.inl (o_wT (o_c5 (i := 230) rfl) rfl)⟩
theorem fnX12_77 : o_FN RX12 77 12 27 := o_wT (o_c5 (i := 230) rfl) rfl
theorem flX12_80 : o_FL RX12 80 12 28 := ⟨RX12, TX12, 58, rfl, rfl, by decide, iT12, tyX12_ok, nmX12, Or.inl (o_wT (o_c5 (i := 231) rfl) rfl)⟩
theorem fnX12_80 : o_FN RX12 80 12 28 := o_wT (o_c5 (i := 231) rfl) rfl
theorem flX12_83 : o_FL RX12 83 12 29 := ⟨RX12, TX12, 58, rfl, rfl, by decide, iT12, tyX12_ok, nmX12, Or.inl (o_wT (o_c5 (i := 232) rfl) rfl)⟩
theorem fnX12_83 : o_FN RX12 83 12 29 := o_wT (o_c5 (i := 232) rfl) rfl
theorem flX12_86 : o_FL RX12 86 12 30 := ⟨RX12, TX12, 58, rfl, rfl, by decide, iT12, tyX12_ok, nmX12, Or.inl (o_wT (o_c5 (i := 233) rfl) rfl)⟩
theorem fnX12_86 : o_FN RX12 86 12 30 := o_wT (o_c5 (i := 233) rfl) rfl
theorem flX12_89 : o_FL RX12 89 12 31 := ⟨RX12, TX12, 58, rfl, rfl, by decide, iT12, tyX12_ok, nmX12, Or.inl (o_wT (o_c5 (i := 234) rfl) rfl)⟩
theorem fnX12_89 : o_FN RX12 89 12 31 := o_wT (o_c5 (i := 234) rfl) rfl
theorem flX12_92 : o_FL RX12 92 12 32 := ⟨RX12, TX12, 58, rfl, rfl, by decide, iT12, tyX12_ok, nmX12, Or.inl (o_wT (o_c5 (i := 235) rfl) rfl)⟩
theorem fnX12_92 : o_FN RX12 92 12 32 := o_wT (o_c5 (i := 235) rfl) rfl
theorem flX12_95 : o_FL RX12 95 12 33 := ⟨RX12, TX12, 58, rfl, rfl, by decide, iT12, tyX12_ok, nmX12, Or.inl (o_wT (o_c5 (i := 236) rfl) rfl)⟩
theorem fnX12_95 : o_FN RX12 95 12 33 := o_wT (o_c5 (i := 236) rfl) rfl
theorem flX12_149 : o_FL RX12 149 12 34 := ⟨RX12, TX12, 58, rfl, rfl, by decide, iT12, tyX12_ok, nmX12, Or.inl (o_wT (o_c5 (i := 237) rfl) rfl)⟩
theorem flX12_98 : o_FL RX12 98 12 35 := ⟨RX12, TX12, 58, rfl, rfl, by decide, iT12, tyX12_ok, nmX12, Or.inl (o_wT (o_c5 (i := 238) rfl) rfl)⟩
theorem fnX12_98 : o_FN RX12 98 12 35 := o_wT (o_c5 (i := 238) rfl) rfl
theorem flX12_101 : o_FL RX12 101 12 36 := ⟨RX12, TX12, 58, rfl, rfl, by decide, iT12, tyX12_ok, nmX12, Or.inl (o_wT (o_c5 (i := 239) rfl) rfl)⟩
theorem fnX12_101 : o_FN RX12 101 12 36 := o_wT (o_c5 (i := 239) rfl) rfl
theorem flX12_104 : o_FL RX12 104 12 37 := ⟨RX12, TX12, 58, rfl, rfl, by decide, iT12, tyX12_ok, nmX12, Or.inl (o_wT (o_c6 (i := 0) rfl) rfl)⟩
theorem fnX12_104 : o_FN RX12 104 12 37 := o_wT (o_c6 (i := 0) rfl) rfl
theorem flX12_107 : o_FL RX12 107 12 38 := ⟨RX12, TX12, 58, rfl, rfl, by decide, iT12, tyX12_ok, nmX12, Or.inl (o_wT (o_c6 (i := 1) rfl) rfl)⟩
theorem fnX12_107 : o_FN RX12 107 12 38 := o_wT (o_c6 (i := 1) rfl) rfl
theorem flX12_357 : o_FL RX12 357 12 39 := ⟨RX12, TX12, 58, rfl, rfl, by decide, iT12, tyX12_ok, nmX12, Or.inl (o_wT (o_c6 (i := 2) rfl) rfl)⟩
theorem flX12_111 : o_FL RX12 111 12 40 := ⟨RX12, TX12, 58, rfl, rfl, by decide, iT12, tyX12_ok, nmX12, Or.inl (o_wT (o_c6 (i := 3) rfl) rfl)⟩
theorem fnX12_111 : o_FN RX12 111 12 40 := o_wT (o_c6 (i := 3) rfl) rfl
theorem flX12_114 : o_FL RX12 114 12 41 := ⟨RX12, TX12, 58, rfl, rfl, by decide, iT12, tyX12_ok, nmX12, Or.inl (o_wT (o_c6 (i := 4) rfl) rfl)⟩
theorem fnX12_114 : o_FN RX12 114 12 41 := o_wT (o_c6 (i := 4) rfl) rfl
theorem flX12_203 : o_FL RX12 203 12 42 := ⟨RX12, TX12, 58, rfl, rfl, by decide, iT12, tyX12_ok, nmX12, Or.inl (o_wT (o_c6 (i := 5) rfl) rfl)⟩
theorem flX12_206 : o_FL RX12 206 12 43 := ⟨RX12, TX12, 58, rfl, rfl, by decide, iT12, tyX12_ok, nmX12, Or.inl (o_wT (o_c6 (i := 6) rfl) rfl)⟩
theorem flX12_212 : o_FL RX12 212 12 44 := ⟨RX12, TX12, 58, rfl, rfl, by decide, iT12, tyX12_ok, nmX12, Or.inl (o_wT (o_c6 (i := 7) rfl) rfl)⟩
theorem flX12_215 : o_FL RX12 215 12 45 := ⟨RX12, TX12, 58, rfl, rfl, by decide, iT12, tyX12_ok, nmX12, Or.inl (o_wT (o_c6 (i := 8) rfl) rfl)⟩
theorem flX12_230 : o_FL RX12 230 12 46 := ⟨RX12, TX12, 58, rfl, rfl, by decide, iT12, tyX12_ok, nmX12, Or.inl (o_wT (o_c6 (i := 9) rfl) rfl)⟩
theorem flX12_233 : o_FL RX12 233 12 47 := ⟨RX12, TX12, 58, rfl, rfl, by decide, iT12, tyX12_ok, nmX12, Or.inl (o_wT (o_c6 (i := 10) rfl) rfl)⟩
theorem flX12_246 : o_FL RX12 246 12 48 := ⟨RX12, TX12, 58, rfl, rfl, by decide, iT12, tyX12_ok, nmX12, Or.inl (o_wT (o_c6 (i := 11) rfl) rfl)⟩
theorem flX12_249 : o_FL RX12 249 12 49 := ⟨RX12, TX12, 58, rfl, rfl, by decide, iT12, tyX12_ok, nmX12, Or.inl (o_wT (o_c6 (i := 12) rfl) rfl)⟩
theorem flX12_117 : o_FL RX12 117 12 50 := ⟨RX12, TX12, 58, rfl, rfl, by decide, iT12, tyX12_ok, nmX12, Or.inl (o_wT (o_c6 (i := 13) rfl) rfl)⟩
theorem fnX12_117 : o_FN RX12 117 12 50 := o_wT (o_c6 (i := 13) rfl) rfl
theorem flX12_120 : o_FL RX12 120 12 51 := ⟨RX12, TX12, 58, rfl, rfl, by decide, iT12, tyX12_ok, nmX12, Or.inl (o_wT (o_c6 (i := 14) rfl) rfl)⟩
theorem fnX12_120 : o_FN RX12 120 12 51 := o_wT (o_c6 (i := 14) rfl) rfl
theorem flX12_123 : o_FL RX12 123 12 52 := ⟨RX12, TX12, 58, rfl, rfl, by decide, iT12, tyX12_ok, nmX12, Or.inl (o_wT (o_c6 (i := 15) rfl) rfl)⟩
theorem fnX12_123 : o_FN RX12 123 12 52 := o_wT (o_c6 (i := 15) rfl) rfl
theorem flX12_126 : o_FL RX12 126 12 53 := ⟨RX12, TX12, 58, rfl, rfl, by decide, iT12, tyX12_ok, nmX12, Or.inl (o_wT (o_c6 (i := 16) rfl) rfl)⟩
theorem fnX12_126 : o_FN RX12 126 12 53 := o_wT (o_c6 (i := 16) rfl) rfl
theorem flX12_129 : o_FL RX12 129 12 54 := ⟨RX12, TX12, 58, rfl, rfl, by decide, iT12, tyX12_ok, nmX12, Or.inl (o_wT (o_c6 (i := 17) rfl) rfl)⟩
theorem fnX12_129 : o_FN RX12 129 12 54 := o_wT (o_c6 (i := 17) rfl) rfl
theorem flX12_132 : o_FL RX12 132 12 55 := ⟨RX12, TX12, 58, rfl, rfl, by decide, iT12, tyX12_ok, nmX12, Or.inl (o_wT (o_c6 (i := 18) rfl) rfl)⟩
theorem fnX12_132 : o_FN RX12 132 12 55 := o_wT (o_c6 (i := 18) rfl) rfl
theorem flX12_135 : o_FL RX12 135 12 56 := ⟨RX12, TX12, 58, rfl, rfl, by decide, iT12, tyX12_ok, nmX12, Or.inl (o_wT (o_c6 (i := 19) rfl) rfl)⟩
theorem fnX12_135 : o_FN RX12 135 12 56 := o_wT (o_c6 (i := 19) rfl) rfl
theorem flX12_138 : o_FL RX12 138 12 57 := ⟨RX12, TX12, 58, rfl, rfl, by decide, iT12, tyX12_ok, nmX12, Or.inl (o_wT (o_c6 (i := 20) rfl) rfl)⟩
theorem fnX12_138 : o_FN RX12 138 12 57 := o_wT (o_c6 (i := 20) rfl) rfl
theorem flX11_369 : o_FL RX11 369 3 0 := ⟨RX3, TX3, 12, rfl, rfl, by decide, iT3, tyX3_ok, nmX3, Or.inr ⟨"OrchestraYear", o_wN (o_c1 (i := 46) rfl) rfl⟩⟩
theorem flX11_378 : o_FL RX11 378 3 1 := ⟨RX3, TX3, 12, rfl, rfl, by decide, iT3, tyX3_ok, nmX3, Or.inr ⟨"OrchestraYear", o_wN (o_c1 (i := 48) rfl) rfl⟩⟩
theorem flX11_372 : o_FL RX11 372 3 4 := ⟨RX3, TX3, 12, rfl, rfl, by decide, iT3, tyX3_ok, nmX3, Or.inr ⟨"OrchestraYear", o_wN (o_c1 (i := 52) rfl) rfl⟩⟩
theorem flX11_381 : o_FL RX11 381 3 5 := ⟨RX3, TX3, 12, rfl, rfl, by decide, iT3, tyX3_ok, nmX3, Or.inr ⟨"OrchestraYear", o_wN (o_c1 (i := 54) rfl) rfl⟩⟩
theorem flX11_268 : o_FL RX11 268 5 1 := ⟨RX5, TX5, 7, rfl, rfl, by decide, iT5, tyX5_ok, nmX5, Or.inr ⟨"OrchestraYear", o_wN (o_c1 (i := 113) rfl) rfl⟩⟩
theorem flX11_289 : o_FL RX11 289 1 1 := ⟨RX1, TX1, 4, rfl, rfl, by decide, iT1, tyX1_ok, nmX1, Or.inr ⟨"OrchestraYear", o_wN (o_c1 (i := 142) rfl) rfl⟩⟩
theorem flX11_286 : o_FL RX11 286 1 3 := ⟨RX1, TX1, 4, rfl, rfl, by decide, iT1, tyX1_ok, nmX1, Or.inr ⟨"OrchestraYear", o_wN (o_c1 (i := 145) rfl) rfl⟩⟩
theorem flX11_452 : o_FL RX11 452 9 0 := ⟨RX9, TX9, 6, rfl, rfl, by decide, iT9, tyX9_ok, nmX9, Or.inr ⟨"OrchestraYear", o_wN (o_c1 (i := 177) rfl) rfl⟩⟩
theorem flX11_322 : o_FL RX11 322 9 1 := ⟨RX9, TX9, 6, rfl, rfl, by decide, iT9, tyX9_ok, nmX9, Or.inr ⟨"OrchestraYear", o_wN (o_c1 (i := 179) rfl) rfl⟩⟩
theorem flX11_448 : o_FL RX11 448 9 2 := ⟨RX9, TX9, 6, rfl, rfl, by decide, iT9, tyX9_ok, nmX9, Or.inr ⟨"OrchestraYear", o_wN (o_c1 (i := 181) rfl) rfl⟩⟩
theorem flX11_456 : o_FL RX11 456 9 3 := ⟨RX9, TX9, 6, rfl, rfl, by decide, iT9, tyX9_ok, nmX9, Or.inr ⟨"OrchestraYear", o_wN (o_c1 (i := 183) rfl) rfl⟩⟩
theorem flX11_449 : o_FL RX11 449 9 4 := ⟨RX9, TX9, 6, rfl, rfl, by decide, iT9, tyX9_ok, nmX9, Or.inr ⟨"OrchestraYear", o_wN (o_c1 (i := 185) rfl) rfl⟩⟩
theorem flX11_319 : o_FL RX11 319 9 5 := ⟨RX9, TX9, 6, rfl, rfl, by decide, iT9, tyX9_ok, nmX9, Or.inr ⟨"OrchestraYear", o_wN (o_c1 (i := 187) rfl) rfl⟩⟩
theorem flX11_445 : o_FL RX11 445 7 0 := ⟨RX7, TX7, 6, rfl, rfl, by decide, iT7, tyX7_ok, nmX7, Or.inr ⟨"OrchestraYear", o_wN (o_c2 (i := 185) rfl) rfl⟩⟩
theorem flX4_55 : o_FL RX4 55 7 1 := ⟨RX7, TX7, 6, rfl, rfl, by decide, iT7, tyX7_ok, nmX7, Or.inr ⟨"OrchestraYear", o_wN (o_c2 (i := 187) rfl) rfl⟩⟩
theorem flX11_247 : o_FL RX11 247 7 3 := ⟨RX7, TX7, 6, rfl, rfl, by decide, iT7, tyX7_ok, nmX7, Or.inr ⟨"OrchestraYear", o_wN (o_c2 (i := 190) rfl) rfl⟩⟩
theorem flX11_387 : o_FL RX11 387 7 4 := ⟨RX7, TX7, 6, rfl, rfl, by decide, iT7, tyX7_ok, nmX7, Or.inr ⟨"OrchestraYear", o_wN (o_c2 (i := 192) rfl) rfl⟩⟩
theorem flX11_390 : o_FL RX11 390 7 5 := ⟨RX7, TX7, 6, rfl, rfl, by decide, iT7, tyX7_ok, nmX7, Or.inr ⟨"OrchestraYear", o_wN (o_c2 (i := 194) rfl) rfl⟩⟩
theorem flX0_41 : o_FL RX0 41 10 0 := ⟨RX10, TX10, 6, rfl, rfl, by decide, iT10, tyX10_ok, nmX10, Or.inr ⟨"OrchestraYear", o_wN (o_c3 (i := 40) rfl) rfl⟩⟩
theorem flX1_65 : o_FL RX1 65 10 0 := ⟨RX10, TX10, 6, rfl, rfl, by decide, iT10, tyX10_ok, nmX10, Or.inr ⟨"OrchestraYear", o_wN (o_c3 (i := 41) rfl) rfl⟩⟩
theorem flX11_193 : o_FL RX11 193 10 0 := ⟨RX10, TX10, 6, rfl, rfl, by decide, iT10, tyX10_ok, nmX10, Or.inr ⟨"OrchestraYear", o_wN (o_c3 (i := 42) rfl) rfl⟩⟩
theorem flX0_35 : o_FL RX0 35 10 1 := ⟨RX10, TX10, 6, rfl, rfl, by decide, iT10, tyX10_ok, nmX10, Or.inr ⟨"OrchestraYear", o_wN (o_c3 (i := 44) rfl) rfl⟩⟩
theorem flX11_196 : o_FL RX11 196 10 1 := ⟨RX10, TX10, 6, rfl, rfl, by decide, iT10, tyX10_ok, nmX10, Or.inr ⟨"OrchestraYear", o_wN (o_c3 (i := 45) rfl) rfl⟩⟩
theorem flX11_199 : o_FL RX11 199 10 2 := ⟨RX10, TX10, 6, rfl, rfl, by decide, iT10, tyX10_ok, nmX10, Or.inr ⟨"OrchestraYear", o_wN (o_c3 (i := 47) rfl) rfl⟩⟩
theorem flX11_139 : o_FL RX11 139 10 3 := ⟨RX10, TX10, 6, rfl, rfl, by decide, iT10, tyX10_ok, nmX10, Or.inr ⟨"OrchestraYear", o_wN (o_c3 (i := 49) rfl) rfl⟩⟩
theorem flX11_142 : o_FL RX11 142 10 4 := ⟨RX10, TX10, 6, rfl, rfl, by decide, iT10, tyX10_ok, nmX10, Or.inr ⟨"OrchestraYear", o_wN (o_c3 (i := 51) rfl) rfl⟩⟩
theorem flX11_145 : o_FL RX11 145 10 5 := ⟨RX10, TX10, 6, rfl, rfl, by decide, iT10, tyX10_ok, nmX10, Or.inr ⟨"OrchestraYear", o_wN (o_c3 (i := 53) rfl) rfl⟩⟩
theorem flX4_38 : o_FL RX4 38 2 0 := ⟨RX2, TX2, 6, rfl, rfl, by decide, iT2, tyX2_ok, nmX2, Or.inr ⟨"OrchestraYear", o_wN (o_c3 (i := 94) rfl) rfl⟩⟩
theorem flX11_205 : o_FL RX11 205 2 0 := ⟨RX2, TX2, 6, rfl, rfl, by decide, iT2, tyX2_ok, nmX2, Or.inr ⟨"OrchestraYear", o_wN (o_c3 (i := 95) rfl) rfl⟩⟩
theorem flX11_208 : o_FL RX11 208 2 1 := ⟨RX2, TX2, 6, rfl, rfl, by decide, iT2, tyX2_ok, nmX2, Or.inr ⟨"OrchestraYear", o_wN (o_c3 (i := 97) rfl) rfl⟩⟩
theorem flX4_43 : o_FL RX4 43 2 2 := ⟨RX2, TX2, 6, rfl, rfl, by decide, iT2, tyX2_ok, nmX2, Or.inr ⟨"OrchestraYear", o_wN (o_c3 (i := 99) rfl) rfl⟩⟩
theorem flX11_211 : o_FL RX11 211 2 2 := ⟨RX2, TX2, 6, rfl, rfl, by decide, iT2, tyX2_ok, nmX2, Or.inr ⟨"OrchestraYear", o_wN (o_c3 (i := 100) rfl) rfl⟩⟩
theorem flX11_157 : o_FL RX11 157 2 5 := ⟨RX2, TX2, 6, rfl, rfl, by decide, iT2, tyX2_ok, nmX2, Or.inr ⟨"OrchestraYear", o_wN (o_c3 (i := 104) rfl) rfl⟩⟩
theorem flX4_24 : o_FL RX4 24 6 0 := ⟨RX6, TX6, 12, rfl, rfl, by decide, iT6, tyX6_ok, nmX6, Or.inr ⟨"OrchestraYear", o_wN (o_c3 (i := 142) rfl) rfl⟩⟩
theorem flX11_218 : o_FL RX11 218 6 0 := ⟨RX6, TX6, 12, rfl, rfl, by decide, iT6, tyX6_ok, nmX6, Or.inr ⟨"OrchestraYear", o_wN (o_c3 (i := 143) rfl) rfl⟩⟩
theorem flX4_29 : o_FL RX4 29 6 1 := ⟨RX6, TX6, 12, rfl, rfl, by decide, iT6, tyX6_ok, nmX6, Or.inr ⟨"OrchestraYear", o_wN (o_c3 (i := 145) rfl) rfl⟩⟩
theorem flX11_221 : o_FL RX11 221 6 1 := ⟨RX6, TX6, 12, rfl, rfl, by decide, iT6, tyX6_ok, nmX6, Or.inr ⟨"OrchestraYear", o_wN (o_c3 (i := 146) rfl) rfl⟩⟩
theorem flX4_32 : o_FL RX4 32 6 2 := ⟨RX6, TX6, 12, rfl, rfl, by decide, iT6, tyX6_ok, nmX6, Or.inr ⟨"OrchestraYear", o_wN (o_c3 (i := 148) rfl) rfl⟩⟩
theorem flX11_224 : o_FL RX11 224 6 2 := ⟨RX6, TX6, 12, rfl, rfl, by decide, iT6, tyX6_ok, nmX6, Or.inr ⟨"OrchestraYear", o_wN (o_c3 (i := 149) rfl) rfl⟩⟩
theorem flX4_35 : o_FL RX4 35 6 3 := ⟨RX6, TX6, 12, rfl, rfl, by decide, iT6, tyX6_ok, nmX6, Or.inr ⟨"OrchestraYear", o_wN (o_c3 (i := 151) rfl) rfl⟩⟩
theorem flX11_227 : o_FL RX11 227 6 3 := ⟨RX6, TX6, 12, rfl, rfl, by decide, iT6, tyX6_ok, nmX6, Or.inr ⟨"OrchestraYear", o_wN (o_c3 (i := 152) rfl) rfl⟩⟩
theorem flX1_49 : o_FL RX1 49 6 4 := ⟨RX6, TX6, 12, rfl, rfl, by decide, iT6, tyX6_ok, nmX6, Or.inr ⟨"OrchestraYear", o_wN (o_c3 (i := 154) rfl) rfl⟩⟩
theorem flX1_52 : o_FL RX1 52 6 5 := ⟨RX6, TX6, 12, rfl, rfl, by decide, iT6, tyX6_ok, nmX6, Or.inr ⟨"OrchestraYear", o_wN (o_c3 (i := 156) rfl) rfl⟩⟩
theorem flX11_424 : o_FL RX11 424 6 5 := ⟨RX6, TX6, 12, rfl, rfl, by decide, iT6, tyX6_ok, nmX6, Or.inr ⟨"OrchestraYear", o_wN (o_c3 (i := 157) rfl) rfl⟩⟩
theorem flX11_265 : o_FL RX11 265 6 6 := ⟨RX6, TX6, 12, rfl, rfl, by decide, iT6, tyX6_ok, nmX6, Or.inr ⟨"OrchestraYear", o_wN (o_c3 (i := 159) rfl) rfl⟩⟩
theorem flX1_44 : o_FL RX1 44 6 7 := ⟨RX6, TX6, 12, rfl, rfl, by decide, iT6, tyX6_ok, nmX6, Or.inr ⟨"OrchestraYear", o_wN (o_c3 (i := 161) rfl) rfl⟩⟩
theorem flX11_188 : o_FL RX11 188 6 7 := ⟨RX6, TX6, 12, rfl, rfl, by decide, iT6, tyX6_ok, nmX6, Or.inr ⟨"OrchestraYear", o_wN (o_c3 (i := 162) rfl) rfl⟩⟩
theorem flX11_229 : o_FL RX11 229 6 8 := ⟨RX6, TX6, 12, rfl, rfl, by decide, iT6, tyX6_ok, nmX6, Or.inr ⟨"OrchestraYear", o_wN (o_c3 (i := 164) rfl) rfl⟩⟩
theorem flX11_232 : o_FL RX11 232 6 9 := ⟨RX6, TX6, 12, rfl, rfl, by decide, iT6, tyX6_ok, nmX6, Or.inr ⟨"OrchestraYear", o_wN (o_c3 (i := 166) rfl) rfl⟩⟩
theorem flX11_177 : o_FL RX11 177 6 11 := ⟨RX6, TX6, 12, rfl, rfl, by decide, iT6, tyX6_ok, nmX6, Or.inr ⟨"OrchestraYear", o_wN (o_c3 (i := 169) rfl) rfl⟩⟩
theorem mt_X11_init : o_mt yX11_init cX11_init 2 none 0 := ⟨o_wT (o_c1 (i := 25) rfl) rfl, o_wT (o_c1 (i := 1) rfl) rfl, by decide, by decide, by decide +kernel⟩
theorem ii_X11_init : Cond.instanceMethod yX11_init ∈ o_T := o_wT (o_c1 (i := 24) rfl) rfl
theorem mt_X3_init : o_mt yX3_init cX3_init 1 none 0 := ⟨o_wT (o_c1 (i := 43) rfl) rfl, o_wT (o_c1 (i := 2) rfl) rfl, by decide, by decide, by decide +kernel⟩
theorem ii_X3_init : Cond.instanceMethod yX3_init ∈ o_T := o_wT (o_c1 (i := 42) rfl) rfl
theorem mt_X4_init : o_mt yX4_init cX4_init 1 none 0 := ⟨o_wT (o_c1 (i := 92) rfl) rfl, o_wT (o_c1 (i := 3) rfl) rfl, by decide, by decide, by decide +kernel⟩
theorem ii_X4_init : Cond.instanceMethod yX4_init ∈ o_T := o_wT (o_c1 (i := 91) rfl) rfl
theorem mt_X5_init : o_mt yX5_init cX5_init 1 none 0 := ⟨o_wT (o_c1 (i := 109) rfl) rfl, o_wT (o_c1 (i := 4) rfl) rfl, by decide, by decide, by decide +kernel⟩
theorem ii_X5_init : Cond.instanceMethod yX5_init ∈ o_T := o_wT (o_c1 (i := 108) rfl) rfl
theorem mt_X1_init : o_mt yX1_init cX1_init 1 none 0 := ⟨o_wT (o_c1 (i := 138) rfl) rfl, o_wT (o_c1 (i := 5) rfl) rfl, by decide, by decide, by decide +kernel⟩
theorem ii_X1_init : Cond.instanceMethod yX1_init ∈ o_T := o_wT (o_c1 (i := 137) rfl) rfl
theorem mt_X0_init : o_mt yX0_init cX0_init 1 none 0 := ⟨o_wT (o_c1 (i := 159) rfl) rfl, o_wT (o_c1 (i := 6) rfl) rfl, by decide, by decide, by decide +kernel⟩
theorem ii_X0_init : Cond.instanceMethod yX0_init ∈ o_T := o_wT (o_c1 (i := 158) rfl) rfl
theorem mt_X9_init : o_mt yX9_init cX9_init 1 none 0 := ⟨o_wT (o_c1 (i := 174) rfl) rfl, o_wT (o_c1 (i := 7) rfl) rfl, by decide, by decide, by decide +kernel⟩
theorem ii_X9_init : Cond.instanceMethod yX9_init ∈ o_T := o_wT (o_c1 (i := 173) rfl) rfl
theorem mt_J0_length_8abf5 : o_mt yJ0_length_8abf5 cJ0_length_8abf5 1 (some .int) 0 := ⟨o_wT (o_c1 (i := 205) rfl) rfl, o_wT (o_c1 (i := 8) rfl) rfl, by decide, by decide, by decide +kernel⟩
theorem in_J0_length_8abf5 : o_in yJ0_length_8abf5 := ⟨o_wT (o_c1 (i := 203) rfl) rfl, o_wT (o_c1 (i := 204) rfl) rfl⟩
theorem mt_J0_coder_7d493 : o_mt yJ0_coder_7d493 cJ0_coder_7d493 1 (some .byte) 0 := ⟨o_wT (o_c1 (i := 209) rfl) rfl, o_wT (o_c1 (i := 8) rfl) rfl, by decide, by decide, by decide +kernel⟩
theorem in_J0_coder_7d493 : o_in yJ0_coder_7d493 := ⟨o_wT (o_c1 (i := 207) rfl) rfl, o_wT (o_c1 (i := 208) rfl) rfl⟩
theorem mt_J0_charAt_5068e : o_mt yJ0_charAt_5068e cJ0_charAt_5068e 2 (some .char) 1 := ⟨o_wT (o_c1 (i := 215) rfl) rfl, o_wT (o_c1 (i := 8) rfl) rfl, by decide, by decide, by decide +kernel⟩
theorem in_J0_charAt_5068e : o_in yJ0_charAt_5068e := ⟨o_wT (o_c1 (i := 213) rfl) rfl, o_wT (o_c1 (i := 214) rfl) rfl⟩
theorem mt_J0_isLatin1_aae02 : o_mt yJ0_isLatin1_aae02 cJ0_isLatin1_aae02 1 (some .boolean) 0 := ⟨o_wT (o_c1 (i := 219) rfl) rfl, o_wT (o_c1 (i := 8) rfl) rfl, by decide, by decide, by decide +kernel⟩
theorem in_J0_isLatin1_aae02 : o_in yJ0_isLatin1_aae02 := ⟨o_wT (o_c1 (i := 217) rfl) rfl, o_wT (o_c1 (i := 218) rfl) rfl⟩
theorem mt_J1_charAt_3b067 : o_mt yJ1_charAt_3b067 cJ1_charAt_3b067 2 (some .char) 2 := ⟨o_wT (o_c1 (i := 222) rfl) rfl, o_wT (o_c1 (i := 9) rfl) rfl, by decide, by decide, by decide +kernel⟩
theorem is_J1_charAt_3b067 : Cond.static yJ1_charAt_3b067 ∈ o_T := o_wT (o_c1 (i := 221) rfl) rfl
theorem mt_J0_checkIndex_df160 : o_mt yJ0_checkIndex_df160 cJ0_checkIndex_df160 2 none 2 := ⟨o_wT (o_c1 (i := 225) rfl) rfl, o_wT (o_c1 (i := 8) rfl) rfl, by decide, by decide, by decide +kernel⟩
theorem is_J0_checkIndex_df160 : Cond.static yJ0_checkIndex_df160 ∈ o_T := o_wT (o_c1 (i := 224) rfl) rfl
theorem mt_J3_checkIndex_8e157 : o_mt yJ3_checkIndex_8e157 cJ3_checkIndex_8e157 3 (some .int) 3 := ⟨o_wT (o_c1 (i := 230) rfl) rfl, o_wT (o_c1 (i := 10) rfl) rfl, by decide, by decide, by decide +kernel⟩
theorem is_J3_checkIndex_8e157 : Cond.static yJ3_checkIndex_8e157 ∈ o_T := o_wT (o_c1 (i := 229) rfl) rfl
theorem mt_J2_charAt_3b067 : o_mt yJ2_charAt_3b067 cJ2_charAt_3b067 2 (some .char) 2 := ⟨o_wT (o_c1 (i := 233) rfl) rfl, o_wT (o_c1 (i := 11) rfl) rfl, by decide, by decide, by decide +kernel⟩
theorem is_J2_charAt_3b067 : Cond.static yJ2_charAt_3b067 ∈ o_T := o_wT (o_c1 (i := 232) rfl) rfl
theorem mt_J2_checkIndex_2214a : o_mt yJ2_checkIndex_2214a cJ2_checkIndex_2214a 2 none 2 := ⟨o_wT (o_c1 (i := 236) rfl) rfl, o_wT (o_c1 (i := 11) rfl) rfl, by decide, by decide, by decide +kernel⟩
theorem is_J2_checkIndex_2214a : Cond.static yJ2_checkIndex_2214a ∈ o_T := o_wT (o_c1 (i := 235) rfl) rfl
theorem mt_J2_length_9d52b : o_mt yJ2_length_9d52b cJ2_length_9d52b 1 (some .int) 1 := ⟨o_wT (o_c1 (i := 239) rfl) rfl, o_wT (o_c1 (i := 11) rfl) rfl, by decide, by decide, by decide +kernel⟩
theorem is_J2_length_9d52b : Cond.static yJ2_length_9d52b ∈ o_T := o_wT (o_c1 (i := 238) rfl) rfl
theorem mt_J2_getChar_3b067 : o_mt yJ2_getChar_3b067 cJ2_getChar_3b067 2 (some .char) 2 := ⟨o_wT (o_c2 (i := 3) rfl) rfl, o_wT (o_c1 (i := 11) rfl) rfl, by decide, by decide, by decide +kernel⟩
theorem is_J2_getChar_3b067 : Cond.static yJ2_getChar_3b067 ∈ o_T := o_wT (o_c2 (i := 2) rfl) rfl
theorem mt_X3_readTape : o_mt yX3_readTape cX3_readTape 4 (some .int) 2 := ⟨o_wT (o_c2 (i := 13) rfl) rfl, o_wT (o_c1 (i := 2) rfl) rfl, by decide, by decide, by decide +kernel⟩
theorem in_X3_readTape : o_in yX3_readTape := ⟨o_wT (o_c2 (i := 11) rfl) rfl, o_wT (o_c2 (i := 12) rfl) rfl⟩
theorem mt_X3_advance : o_mt yX3_advance cX3_advance 1 none 0 := ⟨o_wT (o_c2 (i := 17) rfl) rfl, o_wT (o_c1 (i := 2) rfl) rfl, by decide, by decide, by decide +kernel⟩
theorem in_X3_advance : o_in yX3_advance := ⟨o_wT (o_c2 (i := 16) rfl) rfl, o_wS (i := 0) (by decide +kernel) rfl⟩
theorem mt_X3_isBlank : o_mt yX3_isBlank cX3_isBlank 1 (some .boolean) 1 := ⟨o_wT (o_c2 (i := 20) rfl) rfl, o_wT (o_c1 (i := 2) rfl) rfl, by decide, by decide, by decide +kernel⟩
theorem is_X3_isBlank : Cond.static yX3_isBlank ∈ o_T := o_wT (o_c2 (i := 19) rfl) rfl
theorem mt_X3_isLetter : o_mt yX3_isLetter cX3_isLetter 1 (some .boolean) 1 := ⟨o_wT (o_c2 (i := 23) rfl) rfl, o_wT (o_c1 (i := 2) rfl) rfl, by decide, by decide, by decide +kernel⟩
theorem is_X3_isLetter : Cond.static yX3_isLetter ∈ o_T := o_wT (o_c2 (i := 22) rfl) rfl
theorem mt_X3_takeWord : o_mt yX3_takeWord cX3_takeWord 2 none 0 := ⟨o_wT (o_c2 (i := 27) rfl) rfl, o_wT (o_c1 (i := 2) rfl) rfl, by decide, by decide, by decide +kernel⟩
theorem in_X3_takeWord : o_in yX3_takeWord := ⟨o_wT (o_c2 (i := 26) rfl) rfl, o_wS (i := 1) (by decide +kernel) rfl⟩
theorem mt_X3_spells : o_mt yX3_spells cX3_spells 4 (some .boolean) 1 := ⟨o_wT (o_c2 (i := 31) rfl) rfl, o_wT (o_c1 (i := 2) rfl) rfl, by decide, by decide, by decide +kernel⟩
theorem in_X3_spells : o_in yX3_spells := ⟨o_wT (o_c2 (i := 30) rfl) rfl, o_wS (i := 2) (by decide +kernel) rfl⟩
theorem mt_X3_isDigit : o_mt yX3_isDigit cX3_isDigit 1 (some .boolean) 1 := ⟨o_wT (o_c2 (i := 36) rfl) rfl, o_wT (o_c1 (i := 2) rfl) rfl, by decide, by decide, by decide +kernel⟩
theorem is_X3_isDigit : Cond.static yX3_isDigit ∈ o_T := o_wT (o_c2 (i := 35) rfl) rfl
theorem mt_X3_takeNumber : o_mt yX3_takeNumber cX3_takeNumber 1 none 0 := ⟨o_wT (o_c2 (i := 40) rfl) rfl, o_wT (o_c1 (i := 2) rfl) rfl, by decide, by decide, by decide +kernel⟩
theorem in_X3_takeNumber : o_in yX3_takeNumber := ⟨o_wT (o_c2 (i := 39) rfl) rfl, o_wS (i := 3) (by decide +kernel) rfl⟩
theorem mt_X3_takeSign : o_mt yX3_takeSign cX3_takeSign 2 none 0 := ⟨o_wT (o_c2 (i := 44) rfl) rfl, o_wT (o_c1 (i := 2) rfl) rfl, by decide, by decide, by decide +kernel⟩
theorem in_X3_takeSign : o_in yX3_takeSign := ⟨o_wT (o_c2 (i := 43) rfl) rfl, o_wS (i := 4) (by decide +kernel) rfl⟩
theorem mt_J0_indexOf_0f7a4 : o_mt yJ0_indexOf_0f7a4 cJ0_indexOf_0f7a4 2 (some .int) 1 := ⟨o_wT (o_c2 (i := 49) rfl) rfl, o_wT (o_c1 (i := 8) rfl) rfl, by decide, by decide, by decide +kernel⟩
theorem in_J0_indexOf_0f7a4 : o_in yJ0_indexOf_0f7a4 := ⟨o_wT (o_c2 (i := 47) rfl) rfl, o_wT (o_c2 (i := 48) rfl) rfl⟩
theorem mt_J0_indexOf_7cf53 : o_mt yJ0_indexOf_7cf53 cJ0_indexOf_7cf53 3 (some .int) 2 := ⟨o_wT (o_c2 (i := 53) rfl) rfl, o_wT (o_c1 (i := 8) rfl) rfl, by decide, by decide, by decide +kernel⟩
theorem in_J0_indexOf_7cf53 : o_in yJ0_indexOf_7cf53 := ⟨o_wT (o_c2 (i := 51) rfl) rfl, o_wT (o_c2 (i := 52) rfl) rfl⟩
theorem mt_J1_indexOf_4cfef : o_mt yJ1_indexOf_4cfef cJ1_indexOf_4cfef 4 (some .int) 4 := ⟨o_wT (o_c2 (i := 57) rfl) rfl, o_wT (o_c1 (i := 9) rfl) rfl, by decide, by decide, by decide +kernel⟩
theorem is_J1_indexOf_4cfef : Cond.static yJ1_indexOf_4cfef ∈ o_T := o_wT (o_c2 (i := 56) rfl) rfl
theorem mt_J1_canEncode_9a6ad : o_mt yJ1_canEncode_9a6ad cJ1_canEncode_9a6ad 1 (some .boolean) 1 := ⟨o_wT (o_c2 (i := 60) rfl) rfl, o_wT (o_c1 (i := 9) rfl) rfl, by decide, by decide, by decide +kernel⟩
theorem is_J1_canEncode_9a6ad : Cond.static yJ1_canEncode_9a6ad ∈ o_T := o_wT (o_c2 (i := 59) rfl) rfl
theorem mt_J9_max_7cf53 : o_mt yJ9_max_7cf53 cJ9_max_7cf53 2 (some .int) 2 := ⟨o_wT (o_c2 (i := 63) rfl) rfl, o_wT (o_c1 (i := 12) rfl) rfl, by decide, by decide, by decide +kernel⟩
theorem is_J9_max_7cf53 : Cond.static yJ9_max_7cf53 ∈ o_T := o_wT (o_c2 (i := 62) rfl) rfl
theorem mt_J9_min_7cf53 : o_mt yJ9_min_7cf53 cJ9_min_7cf53 2 (some .int) 2 := ⟨o_wT (o_c2 (i := 66) rfl) rfl, o_wT (o_c1 (i := 12) rfl) rfl, by decide, by decide, by decide +kernel⟩
theorem is_J9_min_7cf53 : Cond.static yJ9_min_7cf53 ∈ o_T := o_wT (o_c2 (i := 65) rfl) rfl
theorem mt_J1_indexOfChar_4cfef : o_mt yJ1_indexOfChar_4cfef cJ1_indexOfChar_4cfef 6 (some .int) 4 := ⟨o_wT (o_c2 (i := 69) rfl) rfl, o_wT (o_c1 (i := 9) rfl) rfl, by decide, by decide, by decide +kernel⟩
theorem is_J1_indexOfChar_4cfef : Cond.static yJ1_indexOfChar_4cfef ∈ o_T := o_wT (o_c2 (i := 68) rfl) rfl
theorem mt_J2_indexOf_4cfef : o_mt yJ2_indexOf_4cfef cJ2_indexOf_4cfef 4 (some .int) 4 := ⟨o_wT (o_c2 (i := 72) rfl) rfl, o_wT (o_c1 (i := 11) rfl) rfl, by decide, by decide, by decide +kernel⟩
theorem is_J2_indexOf_4cfef : Cond.static yJ2_indexOf_4cfef ∈ o_T := o_wT (o_c2 (i := 71) rfl) rfl
theorem mt_J2_indexOfChar_4cfef : o_mt yJ2_indexOfChar_4cfef cJ2_indexOfChar_4cfef 4 (some .int) 4 := ⟨o_wT (o_c2 (i := 78) rfl) rfl, o_wT (o_c1 (i := 11) rfl) rfl, by decide, by decide, by decide +kernel⟩
theorem is_J2_indexOfChar_4cfef : Cond.static yJ2_indexOfChar_4cfef ∈ o_T := o_wT (o_c2 (i := 77) rfl) rfl
theorem mt_J2_checkBoundsBeginEnd_d044e : o_mt yJ2_checkBoundsBeginEnd_d044e cJ2_checkBoundsBeginEnd_d044e 3 none 3 := ⟨o_wT (o_c2 (i := 81) rfl) rfl, o_wT (o_c1 (i := 11) rfl) rfl, by decide, by decide, by decide +kernel⟩
theorem is_J2_checkBoundsBeginEnd_d044e : Cond.static yJ2_checkBoundsBeginEnd_d044e ∈ o_T := o_wT (o_c2 (i := 80) rfl) rfl
theorem mt_J0_checkBoundsBeginEnd_23922 : o_mt yJ0_checkBoundsBeginEnd_23922 cJ0_checkBoundsBeginEnd_23922 3 none 3 := ⟨o_wT (o_c2 (i := 84) rfl) rfl, o_wT (o_c1 (i := 8) rfl) rfl, by decide, by decide, by decide +kernel⟩
theorem is_J0_checkBoundsBeginEnd_23922 : Cond.static yJ0_checkBoundsBeginEnd_23922 ∈ o_T := o_wT (o_c2 (i := 83) rfl) rfl
theorem mt_J3_checkFromToIndex_8c36e : o_mt yJ3_checkFromToIndex_8c36e cJ3_checkFromToIndex_8c36e 4 (some .int) 4 := ⟨o_wT (o_c2 (i := 87) rfl) rfl, o_wT (o_c1 (i := 10) rfl) rfl, by decide, by decide, by decide +kernel⟩
theorem is_J3_checkFromToIndex_8c36e : Cond.static yJ3_checkFromToIndex_8c36e ∈ o_T := o_wT (o_c2 (i := 86) rfl) rfl
theorem mt_J2_indexOfCharUnsafe_4cfef : o_mt yJ2_indexOfCharUnsafe_4cfef cJ2_indexOfCharUnsafe_4cfef 5 (some .int) 4 := ⟨o_wT (o_c2 (i := 90) rfl) rfl, o_wT (o_c1 (i := 11) rfl) rfl, by decide, by decide, by decide +kernel⟩
theorem is_J2_indexOfCharUnsafe_4cfef : Cond.static yJ2_indexOfCharUnsafe_4cfef ∈ o_T := o_wT (o_c2 (i := 89) rfl) rfl
theorem mt_J2_indexOfSupplementary_4cfef : o_mt yJ2_indexOfSupplementary_4cfef cJ2_indexOfSupplementary_4cfef 7 (some .int) 4 := ⟨o_wT (o_c2 (i := 93) rfl) rfl, o_wT (o_c1 (i := 11) rfl) rfl, by decide, by decide, by decide +kernel⟩
theorem is_J2_indexOfSupplementary_4cfef : Cond.static yJ2_indexOfSupplementary_4cfef ∈ o_T := o_wT (o_c2 (i := 92) rfl) rfl
theorem mt_J11_isValidCodePoint_9a6ad : o_mt yJ11_isValidCodePoint_9a6ad cJ11_isValidCodePoint_9a6ad 2 (some .boolean) 1 := ⟨o_wT (o_c2 (i := 96) rfl) rfl, o_wT (o_c1 (i := 13) rfl) rfl, by decide, by decide, by decide +kernel⟩
theorem is_J11_isValidCodePoint_9a6ad : Cond.static yJ11_isValidCodePoint_9a6ad ∈ o_T := o_wT (o_c2 (i := 95) rfl) rfl
theorem mt_J11_highSurrogate_5068e : o_mt yJ11_highSurrogate_5068e cJ11_highSurrogate_5068e 1 (some .char) 1 := ⟨o_wT (o_c2 (i := 99) rfl) rfl, o_wT (o_c1 (i := 13) rfl) rfl, by decide, by decide, by decide +kernel⟩
theorem is_J11_highSurrogate_5068e : Cond.static yJ11_highSurrogate_5068e ∈ o_T := o_wT (o_c2 (i := 98) rfl) rfl
theorem mt_J11_lowSurrogate_5068e : o_mt yJ11_lowSurrogate_5068e cJ11_lowSurrogate_5068e 1 (some .char) 1 := ⟨o_wT (o_c2 (i := 103) rfl) rfl, o_wT (o_c1 (i := 13) rfl) rfl, by decide, by decide, by decide +kernel⟩
theorem is_J11_lowSurrogate_5068e : Cond.static yJ11_lowSurrogate_5068e ∈ o_T := o_wT (o_c2 (i := 102) rfl) rfl
theorem mt_X3_readPart : o_mt yX3_readPart cX3_readPart 2 none 1 := ⟨o_wT (o_c2 (i := 108) rfl) rfl, o_wT (o_c1 (i := 2) rfl) rfl, by decide, by decide, by decide +kernel⟩
theorem in_X3_readPart : o_in yX3_readPart := ⟨o_wT (o_c2 (i := 107) rfl) rfl, o_wS (i := 5) (by decide +kernel) rfl⟩
theorem mt_X3_expect : o_mt yX3_expect cX3_expect 2 none 1 := ⟨o_wT (o_c2 (i := 112) rfl) rfl, o_wT (o_c1 (i := 2) rfl) rfl, by decide, by decide, by decide +kernel⟩
theorem in_X3_expect : o_in yX3_expect := ⟨o_wT (o_c2 (i := 111) rfl) rfl, o_wS (i := 6) (by decide +kernel) rfl⟩
theorem mt_X3_fail : o_mt yX3_fail cX3_fail 1 none 0 := ⟨o_wT (o_c2 (i := 116) rfl) rfl, o_wT (o_c1 (i := 2) rfl) rfl, by decide, by decide, by decide +kernel⟩
theorem in_X3_fail : o_in yX3_fail := ⟨o_wT (o_c2 (i := 115) rfl) rfl, o_wS (i := 7) (by decide +kernel) rfl⟩
theorem mt_X3_readOr : o_mt yX3_readOr cX3_readOr 2 none 0 := ⟨o_wT (o_c2 (i := 120) rfl) rfl, o_wT (o_c1 (i := 2) rfl) rfl, by decide, by decide, by decide +kernel⟩
theorem in_X3_readOr : o_in yX3_readOr := ⟨o_wT (o_c2 (i := 119) rfl) rfl, o_wS (i := 8) (by decide +kernel) rfl⟩
theorem mt_X3_readAnd : o_mt yX3_readAnd cX3_readAnd 2 none 0 := ⟨o_wT (o_c2 (i := 124) rfl) rfl, o_wT (o_c1 (i := 2) rfl) rfl, by decide, by decide, by decide +kernel⟩
theorem in_X3_readAnd : o_in yX3_readAnd := ⟨o_wT (o_c2 (i := 123) rfl) rfl, o_wS (i := 9) (by decide +kernel) rfl⟩
theorem mt_X3_readNot : o_mt yX3_readNot cX3_readNot 2 none 0 := ⟨o_wT (o_c2 (i := 128) rfl) rfl, o_wT (o_c1 (i := 2) rfl) rfl, by decide, by decide, by decide +kernel⟩
theorem in_X3_readNot : o_in yX3_readNot := ⟨o_wT (o_c2 (i := 127) rfl) rfl, o_wS (i := 10) (by decide +kernel) rfl⟩
theorem mt_X3_openOne : o_mt yX3_openOne cX3_openOne 1 (some .boolean) 0 := ⟨o_wT (o_c2 (i := 132) rfl) rfl, o_wT (o_c1 (i := 2) rfl) rfl, by decide, by decide, by decide +kernel⟩
theorem in_X3_openOne : o_in yX3_openOne := ⟨o_wT (o_c2 (i := 131) rfl) rfl, o_wS (i := 11) (by decide +kernel) rfl⟩
theorem mt_X3_emitToken : o_mt yX3_emitToken cX3_emitToken 2 none 1 := ⟨o_wT (o_c2 (i := 136) rfl) rfl, o_wT (o_c1 (i := 2) rfl) rfl, by decide, by decide, by decide +kernel⟩
theorem in_X3_emitToken : o_in yX3_emitToken := ⟨o_wT (o_c2 (i := 135) rfl) rfl, o_wS (i := 12) (by decide +kernel) rfl⟩
theorem mt_X3_emit : o_mt yX3_emit cX3_emit 2 none 1 := ⟨o_wT (o_c2 (i := 140) rfl) rfl, o_wT (o_c1 (i := 2) rfl) rfl, by decide, by decide, by decide +kernel⟩
theorem in_X3_emit : o_in yX3_emit := ⟨o_wT (o_c2 (i := 139) rfl) rfl, o_wS (i := 13) (by decide +kernel) rfl⟩
theorem mt_X3_readSum : o_mt yX3_readSum cX3_readSum 3 none 0 := ⟨o_wT (o_c2 (i := 144) rfl) rfl, o_wT (o_c1 (i := 2) rfl) rfl, by decide, by decide, by decide +kernel⟩
theorem in_X3_readSum : o_in yX3_readSum := ⟨o_wT (o_c2 (i := 143) rfl) rfl, o_wS (i := 14) (by decide +kernel) rfl⟩
theorem mt_X3_readTerm : o_mt yX3_readTerm cX3_readTerm 2 none 0 := ⟨o_wT (o_c2 (i := 148) rfl) rfl, o_wT (o_c1 (i := 2) rfl) rfl, by decide, by decide, by decide +kernel⟩
theorem in_X3_readTerm : o_in yX3_readTerm := ⟨o_wT (o_c2 (i := 147) rfl) rfl, o_wS (i := 15) (by decide +kernel) rfl⟩
theorem mt_X3_readOne : o_mt yX3_readOne cX3_readOne 1 none 0 := ⟨o_wT (o_c2 (i := 152) rfl) rfl, o_wT (o_c1 (i := 2) rfl) rfl, by decide, by decide, by decide +kernel⟩
theorem in_X3_readOne : o_in yX3_readOne := ⟨o_wT (o_c2 (i := 151) rfl) rfl, o_wS (i := 16) (by decide +kernel) rfl⟩
theorem mt_X11_keepReadText : o_mt yX11_keepReadText cX11_keepReadText 4 none 0 := ⟨o_wT (o_c2 (i := 156) rfl) rfl, o_wT (o_c1 (i := 1) rfl) rfl, by decide, by decide, by decide +kernel⟩
theorem in_X11_keepReadText : o_in yX11_keepReadText := ⟨o_wT (o_c2 (i := 155) rfl) rfl, o_wS (i := 17) (by decide +kernel) rfl⟩
theorem mt_J7_copyOf_9075b : o_mt yJ7_copyOf_9075b cJ7_copyOf_9075b 3 (some (.array .byte)) 2 := ⟨o_wT (o_c2 (i := 159) rfl) rfl, o_wT (o_c1 (i := 14) rfl) rfl, by decide, by decide, by decide +kernel⟩
theorem is_J7_copyOf_9075b : Cond.static yJ7_copyOf_9075b ∈ o_T := o_wT (o_c2 (i := 158) rfl) rfl
theorem mt_J7_copyOf_59c91 : o_mt yJ7_copyOf_59c91 cJ7_copyOf_59c91 3 (some (.array .int)) 2 := ⟨o_wT (o_c2 (i := 173) rfl) rfl, o_wT (o_c1 (i := 14) rfl) rfl, by decide, by decide, by decide +kernel⟩
theorem is_J7_copyOf_59c91 : Cond.static yJ7_copyOf_59c91 ∈ o_T := o_wT (o_c2 (i := 172) rfl) rfl
theorem mt_X7_init : o_mt yX7_init cX7_init 4 none 3 := ⟨o_wT (o_c2 (i := 182) rfl) rfl, o_wT (o_c1 (i := 16) rfl) rfl, by decide, by decide, by decide +kernel⟩
theorem ii_X7_init : Cond.instanceMethod yX7_init ∈ o_T := o_wT (o_c2 (i := 181) rfl) rfl
theorem mt_X11_tellForce : o_mt yX11_tellForce cX11_tellForce 3 none 2 := ⟨o_wT (o_c2 (i := 211) rfl) rfl, o_wT (o_c1 (i := 1) rfl) rfl, by decide, by decide, by decide +kernel⟩
theorem in_X11_tellForce : o_in yX11_tellForce := ⟨o_wT (o_c2 (i := 210) rfl) rfl, o_wS (i := 18) (by decide +kernel) rfl⟩
theorem mt_X11_work : o_mt yX11_work cX11_work 4 (some .int) 3 := ⟨o_wT (o_c3 (i := 30) rfl) rfl, o_wT (o_c1 (i := 1) rfl) rfl, by decide, by decide, by decide +kernel⟩
theorem in_X11_work : o_in yX11_work := ⟨o_wT (o_c3 (i := 28) rfl) rfl, o_wT (o_c3 (i := 29) rfl) rfl⟩
theorem mt_X11_isWithin : o_mt yX11_isWithin cX11_isWithin 3 (some .boolean) 3 := ⟨o_wT (o_c3 (i := 33) rfl) rfl, o_wT (o_c1 (i := 1) rfl) rfl, by decide, by decide, by decide +kernel⟩
theorem is_X11_isWithin : Cond.static yX11_isWithin ∈ o_T := o_wT (o_c3 (i := 32) rfl) rfl
theorem mt_X10_init : o_mt yX10_init cX10_init 4 none 3 := ⟨o_wT (o_c3 (i := 37) rfl) rfl, o_wT (o_c1 (i := 18) rfl) rfl, by decide, by decide, by decide +kernel⟩
theorem ii_X10_init : Cond.instanceMethod yX10_init ∈ o_T := o_wT (o_c3 (i := 36) rfl) rfl
theorem mt_X11_score : o_mt yX11_score cX11_score 6 (some .int) 4 := ⟨o_wT (o_c3 (i := 70) rfl) rfl, o_wT (o_c1 (i := 1) rfl) rfl, by decide, by decide, by decide +kernel⟩
theorem in_X11_score : o_in yX11_score := ⟨o_wT (o_c3 (i := 68) rfl) rfl, o_wT (o_c3 (i := 69) rfl) rfl⟩
theorem mt_X11_findWork : o_mt yX11_findWork cX11_findWork 2 (some (.object "OrchestraYear$Work")) 1 := ⟨o_wT (o_c3 (i := 74) rfl) rfl, o_wT (o_c1 (i := 1) rfl) rfl, by decide, by decide, by decide +kernel⟩
theorem in_X11_findWork : o_in yX11_findWork := ⟨o_wT (o_c3 (i := 73) rfl) rfl, o_wS (i := 19) (by decide +kernel) rfl⟩
theorem mt_X11_isSpan : o_mt yX11_isSpan cX11_isSpan 2 (some .boolean) 2 := ⟨o_wT (o_c3 (i := 77) rfl) rfl, o_wT (o_c1 (i := 1) rfl) rfl, by decide, by decide, by decide +kernel⟩
theorem is_X11_isSpan : Cond.static yX11_isSpan ∈ o_T := o_wT (o_c3 (i := 76) rfl) rfl
theorem mt_X11_isDay : o_mt yX11_isDay cX11_isDay 1 (some .boolean) 1 := ⟨o_wT (o_c3 (i := 80) rfl) rfl, o_wT (o_c1 (i := 1) rfl) rfl, by decide, by decide, by decide +kernel⟩
theorem is_X11_isDay : Cond.static yX11_isDay ∈ o_T := o_wT (o_c3 (i := 79) rfl) rfl
theorem mt_X11_player : o_mt yX11_player cX11_player 4 (some .int) 3 := ⟨o_wT (o_c3 (i := 84) rfl) rfl, o_wT (o_c1 (i := 1) rfl) rfl, by decide, by decide, by decide +kernel⟩
theorem in_X11_player : o_in yX11_player := ⟨o_wT (o_c3 (i := 82) rfl) rfl, o_wT (o_c3 (i := 83) rfl) rfl⟩
theorem mt_X11_isInstrument : o_mt yX11_isInstrument cX11_isInstrument 1 (some .boolean) 1 := ⟨o_wT (o_c3 (i := 87) rfl) rfl, o_wT (o_c1 (i := 1) rfl) rfl, by decide, by decide, by decide +kernel⟩
theorem is_X11_isInstrument : Cond.static yX11_isInstrument ∈ o_T := o_wT (o_c3 (i := 86) rfl) rfl
theorem mt_X2_init : o_mt yX2_init cX2_init 4 none 3 := ⟨o_wT (o_c3 (i := 91) rfl) rfl, o_wT (o_c1 (i := 19) rfl) rfl, by decide, by decide, by decide +kernel⟩
theorem ii_X2_init : Cond.instanceMethod yX2_init ∈ o_T := o_wT (o_c3 (i := 90) rfl) rfl
theorem mt_X11_leave : o_mt yX11_leave cX11_leave 5 (some .int) 3 := ⟨o_wT (o_c3 (i := 121) rfl) rfl, o_wT (o_c1 (i := 1) rfl) rfl, by decide, by decide, by decide +kernel⟩
theorem in_X11_leave : o_in yX11_leave := ⟨o_wT (o_c3 (i := 119) rfl) rfl, o_wT (o_c3 (i := 120) rfl) rfl⟩
theorem mt_X11_findPlayer : o_mt yX11_findPlayer cX11_findPlayer 2 (some (.object "OrchestraYear$Player")) 1 := ⟨o_wT (o_c3 (i := 125) rfl) rfl, o_wT (o_c1 (i := 1) rfl) rfl, by decide, by decide, by decide +kernel⟩
theorem in_X11_findPlayer : o_in yX11_findPlayer := ⟨o_wT (o_c3 (i := 124) rfl) rfl, o_wS (i := 20) (by decide +kernel) rfl⟩
theorem mt_X2_addLeave : o_mt yX2_addLeave cX2_addLeave 3 none 2 := ⟨o_wT (o_c3 (i := 129) rfl) rfl, o_wT (o_c1 (i := 19) rfl) rfl, by decide, by decide, by decide +kernel⟩
theorem in_X2_addLeave : o_in yX2_addLeave := ⟨o_wT (o_c3 (i := 127) rfl) rfl, o_wT (o_c3 (i := 128) rfl) rfl⟩
theorem mt_X11_service : o_mt yX11_service cX11_service 5 (some .int) 4 := ⟨o_wT (o_c3 (i := 133) rfl) rfl, o_wT (o_c1 (i := 1) rfl) rfl, by decide, by decide, by decide +kernel⟩
theorem in_X11_service : o_in yX11_service := ⟨o_wT (o_c3 (i := 131) rfl) rfl, o_wT (o_c3 (i := 132) rfl) rfl⟩
theorem mt_X6_init : o_mt yX6_init cX6_init 5 none 4 := ⟨o_wT (o_c3 (i := 139) rfl) rfl, o_wT (o_c1 (i := 20) rfl) rfl, by decide, by decide, by decide +kernel⟩
theorem ii_X6_init : Cond.instanceMethod yX6_init ∈ o_T := o_wT (o_c3 (i := 138) rfl) rfl
theorem mt_X11_call : o_mt yX11_call cX11_call 5 (some .int) 2 := ⟨o_wT (o_c3 (i := 198) rfl) rfl, o_wT (o_c1 (i := 1) rfl) rfl, by decide, by decide, by decide +kernel⟩
theorem in_X11_call : o_in yX11_call := ⟨o_wT (o_c3 (i := 196) rfl) rfl, o_wT (o_c3 (i := 197) rfl) rfl⟩
theorem mt_X11_findService : o_mt yX11_findService cX11_findService 2 (some (.object "OrchestraYear$Service")) 1 := ⟨o_wT (o_c3 (i := 202) rfl) rfl, o_wT (o_c1 (i := 1) rfl) rfl, by decide, by decide, by decide +kernel⟩
theorem in_X11_findService : o_in yX11_findService := ⟨o_wT (o_c3 (i := 201) rfl) rfl, o_wS (i := 21) (by decide +kernel) rfl⟩
theorem mt_X6_hasWork : o_mt yX6_hasWork cX6_hasWork 3 (some .boolean) 1 := ⟨o_wT (o_c3 (i := 206) rfl) rfl, o_wT (o_c1 (i := 20) rfl) rfl, by decide, by decide, by decide +kernel⟩
theorem in_X6_hasWork : o_in yX6_hasWork := ⟨o_wT (o_c3 (i := 204) rfl) rfl, o_wT (o_c3 (i := 205) rfl) rfl⟩
theorem mt_X6_chairsWith : o_mt yX6_chairsWith cX6_chairsWith 4 (some .int) 1 := ⟨o_wT (o_c3 (i := 210) rfl) rfl, o_wT (o_c1 (i := 20) rfl) rfl, by decide, by decide, by decide +kernel⟩
theorem in_X6_chairsWith : o_in yX6_chairsWith := ⟨o_wT (o_c3 (i := 208) rfl) rfl, o_wT (o_c3 (i := 209) rfl) rfl⟩
theorem mt_X6_needWith : o_mt yX6_needWith cX6_needWith 4 (some .int) 2 := ⟨o_wT (o_c3 (i := 214) rfl) rfl, o_wT (o_c1 (i := 20) rfl) rfl, by decide, by decide, by decide +kernel⟩
theorem in_X6_needWith : o_in yX6_needWith := ⟨o_wT (o_c3 (i := 212) rfl) rfl, o_wT (o_c3 (i := 213) rfl) rfl⟩
theorem mt_X10_needOf : o_mt yX10_needOf cX10_needOf 2 (some .int) 1 := ⟨o_wT (o_c3 (i := 218) rfl) rfl, o_wT (o_c1 (i := 18) rfl) rfl, by decide, by decide, by decide +kernel⟩
theorem in_X10_needOf : o_in yX10_needOf := ⟨o_wT (o_c3 (i := 216) rfl) rfl, o_wT (o_c3 (i := 217) rfl) rfl⟩
theorem mt_X6_addWork : o_mt yX6_addWork cX6_addWork 4 none 2 := ⟨o_wT (o_c3 (i := 224) rfl) rfl, o_wT (o_c1 (i := 20) rfl) rfl, by decide, by decide, by decide +kernel⟩
theorem in_X6_addWork : o_in yX6_addWork := ⟨o_wT (o_c3 (i := 222) rfl) rfl, o_wT (o_c3 (i := 223) rfl) rfl⟩
theorem mt_X11_workTold : o_mt yX11_workTold cX11_workTold 4 (some .int) 2 := ⟨o_wT (o_c3 (i := 229) rfl) rfl, o_wT (o_c1 (i := 1) rfl) rfl, by decide, by decide, by decide +kernel⟩
theorem in_X11_workTold : o_in yX11_workTold := ⟨o_wT (o_c3 (i := 227) rfl) rfl, o_wT (o_c3 (i := 228) rfl) rfl⟩
theorem mt_X11_played : o_mt yX11_played cX11_played 4 (some .int) 2 := ⟨o_wT (o_c3 (i := 233) rfl) rfl, o_wT (o_c1 (i := 1) rfl) rfl, by decide, by decide, by decide +kernel⟩
theorem in_X11_played : o_in yX11_played := ⟨o_wT (o_c3 (i := 231) rfl) rfl, o_wT (o_c3 (i := 232) rfl) rfl⟩
theorem mt_X10_canBePlayed : o_mt yX10_canBePlayed cX10_canBePlayed 2 (some .boolean) 1 := ⟨o_wT (o_c3 (i := 237) rfl) rfl, o_wT (o_c1 (i := 18) rfl) rfl, by decide, by decide, by decide +kernel⟩
theorem in_X10_canBePlayed : o_in yX10_canBePlayed := ⟨o_wT (o_c3 (i := 235) rfl) rfl, o_wT (o_c3 (i := 236) rfl) rfl⟩
theorem mt_X11_playerTold : o_mt yX11_playerTold cX11_playerTold 4 (some .int) 2 := ⟨o_wT (o_c4 (i := 2) rfl) rfl, o_wT (o_c1 (i := 1) rfl) rfl, by decide, by decide, by decide +kernel⟩
theorem in_X11_playerTold : o_in yX11_playerTold := ⟨o_wT (o_c4 (i := 0) rfl) rfl, o_wT (o_c4 (i := 1) rfl) rfl⟩
theorem mt_X11_countSittings : o_mt yX11_countSittings cX11_countSittings 4 (some .int) 1 := ⟨o_wT (o_c4 (i := 6) rfl) rfl, o_wT (o_c1 (i := 1) rfl) rfl, by decide, by decide, by decide +kernel⟩
theorem in_X11_countSittings : o_in yX11_countSittings := ⟨o_wT (o_c4 (i := 5) rfl) rfl, o_wS (i := 22) (by decide +kernel) rfl⟩
theorem mt_X6_sits : o_mt yX6_sits cX6_sits 2 (some .boolean) 1 := ⟨o_wT (o_c4 (i := 10) rfl) rfl, o_wT (o_c1 (i := 20) rfl) rfl, by decide, by decide, by decide +kernel⟩
theorem in_X6_sits : o_in yX6_sits := ⟨o_wT (o_c4 (i := 8) rfl) rfl, o_wT (o_c4 (i := 9) rfl) rfl⟩
theorem mt_X11_serviceTold : o_mt yX11_serviceTold cX11_serviceTold 4 (some .int) 2 := ⟨o_wT (o_c4 (i := 14) rfl) rfl, o_wT (o_c1 (i := 1) rfl) rfl, by decide, by decide, by decide +kernel⟩
theorem in_X11_serviceTold : o_in yX11_serviceTold := ⟨o_wT (o_c4 (i := 12) rfl) rfl, o_wT (o_c4 (i := 13) rfl) rfl⟩
theorem mt_X6_workAt : o_mt yX6_workAt cX6_workAt 2 (some .int) 1 := ⟨o_wT (o_c4 (i := 18) rfl) rfl, o_wT (o_c1 (i := 20) rfl) rfl, by decide, by decide, by decide +kernel⟩
theorem in_X6_workAt : o_in yX6_workAt := ⟨o_wT (o_c4 (i := 16) rfl) rfl, o_wT (o_c4 (i := 17) rfl) rfl⟩
theorem mt_X11_feed : o_mt yX11_feed cX11_feed 5 (some .int) 2 := ⟨o_wT (o_c4 (i := 23) rfl) rfl, o_wT (o_c1 (i := 1) rfl) rfl, by decide, by decide, by decide +kernel⟩
theorem in_X11_feed : o_in yX11_feed := ⟨o_wT (o_c4 (i := 21) rfl) rfl, o_wT (o_c4 (i := 22) rfl) rfl⟩
theorem mt_X11_text : o_mt yX11_text cX11_text 2 (some .int) 0 := ⟨o_wT (o_c4 (i := 27) rfl) rfl, o_wT (o_c1 (i := 1) rfl) rfl, by decide, by decide, by decide +kernel⟩
theorem in_X11_text : o_in yX11_text := ⟨o_wT (o_c4 (i := 25) rfl) rfl, o_wT (o_c4 (i := 26) rfl) rfl⟩
theorem mt_X11_force : o_mt yX11_force cX11_force 3 (some .int) 2 := ⟨o_wT (o_c4 (i := 31) rfl) rfl, o_wT (o_c1 (i := 1) rfl) rfl, by decide, by decide, by decide +kernel⟩
theorem in_X11_force : o_in yX11_force := ⟨o_wT (o_c4 (i := 29) rfl) rfl, o_wT (o_c4 (i := 30) rfl) rfl⟩
theorem mt_X11_inForce : o_mt yX11_inForce cX11_inForce 2 (some .int) 1 := ⟨o_wT (o_c4 (i := 35) rfl) rfl, o_wT (o_c1 (i := 1) rfl) rfl, by decide, by decide, by decide +kernel⟩
theorem in_X11_inForce : o_in yX11_inForce := ⟨o_wT (o_c4 (i := 33) rfl) rfl, o_wT (o_c4 (i := 34) rfl) rfl⟩
theorem mt_X11_findInForce : o_mt yX11_findInForce cX11_findInForce 6 (some .int) 1 := ⟨o_wT (o_c4 (i := 39) rfl) rfl, o_wT (o_c1 (i := 1) rfl) rfl, by decide, by decide, by decide +kernel⟩
theorem in_X11_findInForce : o_in yX11_findInForce := ⟨o_wT (o_c4 (i := 38) rfl) rfl, o_wS (i := 23) (by decide +kernel) rfl⟩
theorem mt_X11_may : o_mt yX11_may cX11_may 5 (some .int) 3 := ⟨o_wT (o_c4 (i := 43) rfl) rfl, o_wT (o_c1 (i := 1) rfl) rfl, by decide, by decide, by decide +kernel⟩
theorem in_X11_may : o_in yX11_may := ⟨o_wT (o_c4 (i := 41) rfl) rfl, o_wT (o_c4 (i := 42) rfl) rfl⟩
theorem mt_X11_findHindrance : o_mt yX11_findHindrance cX11_findHindrance 7 (some .int) 3 := ⟨o_wT (o_c4 (i := 47) rfl) rfl, o_wT (o_c1 (i := 1) rfl) rfl, by decide, by decide, by decide +kernel⟩
theorem in_X11_findHindrance : o_in yX11_findHindrance := ⟨o_wT (o_c4 (i := 46) rfl) rfl, o_wS (i := 24) (by decide +kernel) rfl⟩
theorem mt_X2_plays : o_mt yX2_plays cX2_plays 2 (some .boolean) 1 := ⟨o_wT (o_c4 (i := 51) rfl) rfl, o_wT (o_c1 (i := 19) rfl) rfl, by decide, by decide, by decide +kernel⟩
theorem in_X2_plays : o_in yX2_plays := ⟨o_wT (o_c4 (i := 49) rfl) rfl, o_wT (o_c4 (i := 50) rfl) rfl⟩
theorem mt_X2_hasLeave : o_mt yX2_hasLeave cX2_hasLeave 3 (some .boolean) 1 := ⟨o_wT (o_c4 (i := 55) rfl) rfl, o_wT (o_c1 (i := 19) rfl) rfl, by decide, by decide, by decide +kernel⟩
theorem in_X2_hasLeave : o_in yX2_hasLeave := ⟨o_wT (o_c4 (i := 53) rfl) rfl, o_wT (o_c4 (i := 54) rfl) rfl⟩
theorem mt_X11_sitsInMeeting : o_mt yX11_sitsInMeeting cX11_sitsInMeeting 5 (some .boolean) 2 := ⟨o_wT (o_c4 (i := 60) rfl) rfl, o_wT (o_c1 (i := 1) rfl) rfl, by decide, by decide, by decide +kernel⟩
theorem in_X11_sitsInMeeting : o_in yX11_sitsInMeeting := ⟨o_wT (o_c4 (i := 59) rfl) rfl, o_wS (i := 25) (by decide +kernel) rfl⟩
theorem mt_X6_meets : o_mt yX6_meets cX6_meets 2 (some .boolean) 1 := ⟨o_wT (o_c4 (i := 64) rfl) rfl, o_wT (o_c1 (i := 20) rfl) rfl, by decide, by decide, by decide +kernel⟩
theorem in_X6_meets : o_in yX6_meets := ⟨o_wT (o_c4 (i := 62) rfl) rfl, o_wT (o_c4 (i := 63) rfl) rfl⟩
theorem mt_X6_ends : o_mt yX6_ends cX6_ends 1 (some .int) 0 := ⟨o_wT (o_c4 (i := 68) rfl) rfl, o_wT (o_c1 (i := 20) rfl) rfl, by decide, by decide, by decide +kernel⟩
theorem in_X6_ends : o_in yX6_ends := ⟨o_wT (o_c4 (i := 66) rfl) rfl, o_wT (o_c4 (i := 67) rfl) rfl⟩
theorem mt_X6_begins : o_mt yX6_begins cX6_begins 1 (some .int) 0 := ⟨o_wT (o_c4 (i := 72) rfl) rfl, o_wT (o_c1 (i := 20) rfl) rfl, by decide, by decide, by decide +kernel⟩
theorem in_X6_begins : o_in yX6_begins := ⟨o_wT (o_c4 (i := 70) rfl) rfl, o_wT (o_c4 (i := 71) rfl) rfl⟩
theorem mt_X11_learn : o_mt yX11_learn cX11_learn 8 none 3 := ⟨o_wT (o_c4 (i := 76) rfl) rfl, o_wT (o_c1 (i := 1) rfl) rfl, by decide, by decide, by decide +kernel⟩
theorem in_X11_learn : o_in yX11_learn := ⟨o_wT (o_c4 (i := 75) rfl) rfl, o_wS (i := 26) (by decide +kernel) rfl⟩
theorem mt_X4_learnService : o_mt yX4_learnService cX4_learnService 2 none 1 := ⟨o_wT (o_c4 (i := 83) rfl) rfl, o_wT (o_c1 (i := 3) rfl) rfl, by decide, by decide, by decide +kernel⟩
theorem in_X4_learnService : o_in yX4_learnService := ⟨o_wT (o_c4 (i := 81) rfl) rfl, o_wT (o_c4 (i := 82) rfl) rfl⟩
theorem mt_X4_learnPlayer : o_mt yX4_learnPlayer cX4_learnPlayer 3 none 2 := ⟨o_wT (o_c4 (i := 87) rfl) rfl, o_wT (o_c1 (i := 3) rfl) rfl, by decide, by decide, by decide +kernel⟩
theorem in_X4_learnPlayer : o_in yX4_learnPlayer := ⟨o_wT (o_c4 (i := 85) rfl) rfl, o_wT (o_c4 (i := 86) rfl) rfl⟩
theorem mt_X4_learnSittings : o_mt yX4_learnSittings cX4_learnSittings 3 none 2 := ⟨o_wT (o_c4 (i := 91) rfl) rfl, o_wT (o_c1 (i := 3) rfl) rfl, by decide, by decide, by decide +kernel⟩
theorem in_X4_learnSittings : o_in yX4_learnSittings := ⟨o_wT (o_c4 (i := 89) rfl) rfl, o_wT (o_c4 (i := 90) rfl) rfl⟩
theorem mt_X4_reckon : o_mt yX4_reckon cX4_reckon 5 (some .long) 2 := ⟨o_wT (o_c4 (i := 95) rfl) rfl, o_wT (o_c1 (i := 3) rfl) rfl, by decide, by decide, by decide +kernel⟩
theorem in_X4_reckon : o_in yX4_reckon := ⟨o_wT (o_c4 (i := 93) rfl) rfl, o_wT (o_c4 (i := 94) rfl) rfl⟩
theorem mt_X7_endOf : o_mt yX7_endOf cX7_endOf 2 (some .int) 1 := ⟨o_wT (o_c4 (i := 99) rfl) rfl, o_wT (o_c1 (i := 16) rfl) rfl, by decide, by decide, by decide +kernel⟩
theorem in_X7_endOf : o_in yX7_endOf := ⟨o_wT (o_c4 (i := 97) rfl) rfl, o_wT (o_c4 (i := 98) rfl) rfl⟩
theorem mt_X7_startOf : o_mt yX7_startOf cX7_startOf 2 (some .int) 1 := ⟨o_wT (o_c4 (i := 105) rfl) rfl, o_wT (o_c1 (i := 16) rfl) rfl, by decide, by decide, by decide +kernel⟩
theorem in_X7_startOf : o_in yX7_startOf := ⟨o_wT (o_c4 (i := 103) rfl) rfl, o_wT (o_c4 (i := 104) rfl) rfl⟩
theorem mt_X4_step : o_mt yX4_step cX4_step 5 none 1 := ⟨o_wT (o_c4 (i := 109) rfl) rfl, o_wT (o_c1 (i := 3) rfl) rfl, by decide, by decide, by decide +kernel⟩
theorem in_X4_step : o_in yX4_step := ⟨o_wT (o_c4 (i := 108) rfl) rfl, o_wS (i := 27) (by decide +kernel) rfl⟩
theorem mt_X4_push : o_mt yX4_push cX4_push 3 none 1 := ⟨o_wT (o_c4 (i := 113) rfl) rfl, o_wT (o_c1 (i := 3) rfl) rfl, by decide, by decide, by decide +kernel⟩
theorem in_X4_push : o_in yX4_push := ⟨o_wT (o_c4 (i := 112) rfl) rfl, o_wS (i := 28) (by decide +kernel) rfl⟩
theorem mt_X4_pop : o_mt yX4_pop cX4_pop 1 (some .long) 0 := ⟨o_wT (o_c4 (i := 117) rfl) rfl, o_wT (o_c1 (i := 3) rfl) rfl, by decide, by decide, by decide +kernel⟩
theorem in_X4_pop : o_in yX4_pop := ⟨o_wT (o_c4 (i := 116) rfl) rfl, o_wS (i := 29) (by decide +kernel) rfl⟩
theorem mt_X4_join : o_mt yX4_join cX4_join 5 (some .long) 3 := ⟨o_wT (o_c4 (i := 120) rfl) rfl, o_wT (o_c1 (i := 3) rfl) rfl, by decide, by decide, by decide +kernel⟩
theorem is_X4_join : Cond.static yX4_join ∈ o_T := o_wT (o_c4 (i := 119) rfl) rfl
theorem mt_X11_worth : o_mt yX11_worth cX11_worth 7 (some .long) 4 := ⟨o_wT (o_c4 (i := 124) rfl) rfl, o_wT (o_c1 (i := 1) rfl) rfl, by decide, by decide, by decide +kernel⟩
theorem in_X11_worth : o_in yX11_worth := ⟨o_wT (o_c4 (i := 122) rfl) rfl, o_wT (o_c4 (i := 123) rfl) rfl⟩
theorem mt_X11_gaps : o_mt yX11_gaps cX11_gaps 3 (some .int) 1 := ⟨o_wT (o_c4 (i := 129) rfl) rfl, o_wT (o_c1 (i := 1) rfl) rfl, by decide, by decide, by decide +kernel⟩
theorem in_X11_gaps : o_in yX11_gaps := ⟨o_wT (o_c4 (i := 127) rfl) rfl, o_wT (o_c4 (i := 128) rfl) rfl⟩
theorem mt_X11_findSeating : o_mt yX11_findSeating cX11_findSeating 6 none 1 := ⟨o_wT (o_c4 (i := 133) rfl) rfl, o_wT (o_c1 (i := 1) rfl) rfl, by decide, by decide, by decide +kernel⟩
theorem in_X11_findSeating : o_in yX11_findSeating := ⟨o_wT (o_c4 (i := 132) rfl) rfl, o_wS (i := 30) (by decide +kernel) rfl⟩
theorem mt_X5_begin : o_mt yX5_begin cX5_begin 2 none 1 := ⟨o_wT (o_c4 (i := 137) rfl) rfl, o_wT (o_c1 (i := 4) rfl) rfl, by decide, by decide, by decide +kernel⟩
theorem in_X5_begin : o_in yX5_begin := ⟨o_wT (o_c4 (i := 135) rfl) rfl, o_wT (o_c4 (i := 136) rfl) rfl⟩
theorem mt_J7_fill_53178 : o_mt yJ7_fill_53178 cJ7_fill_53178 4 none 2 := ⟨o_wT (o_c4 (i := 141) rfl) rfl, o_wT (o_c1 (i := 14) rfl) rfl, by decide, by decide, by decide +kernel⟩
theorem is_J7_fill_53178 : Cond.static yJ7_fill_53178 ∈ o_T := o_wT (o_c4 (i := 140) rfl) rfl
theorem mt_X11_findFitting : o_mt yX11_findFitting cX11_findFitting 5 (some .int) 2 := ⟨o_wT (o_c4 (i := 145) rfl) rfl, o_wT (o_c1 (i := 1) rfl) rfl, by decide, by decide, by decide +kernel⟩
theorem in_X11_findFitting : o_in yX11_findFitting := ⟨o_wT (o_c4 (i := 144) rfl) rfl, o_wS (i := 31) (by decide +kernel) rfl⟩
theorem mt_X5_allow : o_mt yX5_allow cX5_allow 3 none 2 := ⟨o_wT (o_c4 (i := 149) rfl) rfl, o_wT (o_c1 (i := 4) rfl) rfl, by decide, by decide, by decide +kernel⟩
theorem in_X5_allow : o_in yX5_allow := ⟨o_wT (o_c4 (i := 147) rfl) rfl, o_wT (o_c4 (i := 148) rfl) rfl⟩
theorem mt_X5_seatAll : o_mt yX5_seatAll cX5_seatAll 3 none 0 := ⟨o_wT (o_c4 (i := 154) rfl) rfl, o_wT (o_c1 (i := 4) rfl) rfl, by decide, by decide, by decide +kernel⟩
theorem in_X5_seatAll : o_in yX5_seatAll := ⟨o_wT (o_c4 (i := 152) rfl) rfl, o_wT (o_c4 (i := 153) rfl) rfl⟩
theorem mt_X5_seatOneMore : o_mt yX5_seatOneMore cX5_seatOneMore 7 (some .boolean) 1 := ⟨o_wT (o_c4 (i := 158) rfl) rfl, o_wT (o_c1 (i := 4) rfl) rfl, by decide, by decide, by decide +kernel⟩
theorem in_X5_seatOneMore : o_in yX5_seatOneMore := ⟨o_wT (o_c4 (i := 157) rfl) rfl, o_wS (i := 32) (by decide +kernel) rfl⟩
theorem mt_X5_moveAlong : o_mt yX5_moveAlong cX5_moveAlong 6 none 1 := ⟨o_wT (o_c4 (i := 162) rfl) rfl, o_wT (o_c1 (i := 4) rfl) rfl, by decide, by decide, by decide +kernel⟩
theorem in_X5_moveAlong : o_in yX5_moveAlong := ⟨o_wT (o_c4 (i := 161) rfl) rfl, o_wS (i := 33) (by decide +kernel) rfl⟩
theorem mt_X5_settle : o_mt yX5_settle cX5_settle 4 none 1 := ⟨o_wT (o_c4 (i := 166) rfl) rfl, o_wT (o_c1 (i := 4) rfl) rfl, by decide, by decide, by decide +kernel⟩
theorem in_X5_settle : o_in yX5_settle := ⟨o_wT (o_c4 (i := 165) rfl) rfl, o_wS (i := 34) (by decide +kernel) rfl⟩
theorem mt_X5_canTake : o_mt yX5_canTake cX5_canTake 5 (some .boolean) 2 := ⟨o_wT (o_c4 (i := 170) rfl) rfl, o_wT (o_c1 (i := 4) rfl) rfl, by decide, by decide, by decide +kernel⟩
theorem in_X5_canTake : o_in yX5_canTake := ⟨o_wT (o_c4 (i := 169) rfl) rfl, o_wS (i := 35) (by decide +kernel) rfl⟩
theorem mt_X5_countGaps : o_mt yX5_countGaps cX5_countGaps 3 (some .int) 0 := ⟨o_wT (o_c4 (i := 174) rfl) rfl, o_wT (o_c1 (i := 4) rfl) rfl, by decide, by decide, by decide +kernel⟩
theorem in_X5_countGaps : o_in yX5_countGaps := ⟨o_wT (o_c4 (i := 172) rfl) rfl, o_wT (o_c4 (i := 173) rfl) rfl⟩
theorem mt_X11_chair : o_mt yX11_chair cX11_chair 5 (some .int) 3 := ⟨o_wT (o_c4 (i := 178) rfl) rfl, o_wT (o_c1 (i := 1) rfl) rfl, by decide, by decide, by decide +kernel⟩
theorem in_X11_chair : o_in yX11_chair := ⟨o_wT (o_c4 (i := 176) rfl) rfl, o_wT (o_c4 (i := 177) rfl) rfl⟩
theorem mt_X11_seat : o_mt yX11_seat cX11_seat 3 (some .int) 1 := ⟨o_wT (o_c4 (i := 182) rfl) rfl, o_wT (o_c1 (i := 1) rfl) rfl, by decide, by decide, by decide +kernel⟩
theorem in_X11_seat : o_in yX11_seat := ⟨o_wT (o_c4 (i := 180) rfl) rfl, o_wT (o_c4 (i := 181) rfl) rfl⟩
theorem mt_X6_sitDown : o_mt yX6_sitDown cX6_sitDown 4 none 2 := ⟨o_wT (o_c4 (i := 186) rfl) rfl, o_wT (o_c1 (i := 20) rfl) rfl, by decide, by decide, by decide +kernel⟩
theorem in_X6_sitDown : o_in yX6_sitDown := ⟨o_wT (o_c4 (i := 184) rfl) rfl, o_wT (o_c4 (i := 185) rfl) rfl⟩
theorem mt_X11_rise : o_mt yX11_rise cX11_rise 3 (some .int) 1 := ⟨o_wT (o_c4 (i := 190) rfl) rfl, o_wT (o_c1 (i := 1) rfl) rfl, by decide, by decide, by decide +kernel⟩
theorem in_X11_rise : o_in yX11_rise := ⟨o_wT (o_c4 (i := 188) rfl) rfl, o_wT (o_c4 (i := 189) rfl) rfl⟩
theorem mt_X6_standUp : o_mt yX6_standUp cX6_standUp 1 none 0 := ⟨o_wT (o_c4 (i := 194) rfl) rfl, o_wT (o_c1 (i := 20) rfl) rfl, by decide, by decide, by decide +kernel⟩
theorem in_X6_standUp : o_in yX6_standUp := ⟨o_wT (o_c4 (i := 192) rfl) rfl, o_wT (o_c4 (i := 193) rfl) rfl⟩
theorem mt_X11_due : o_mt yX11_due cX11_due 5 (some .long) 4 := ⟨o_wT (o_c4 (i := 198) rfl) rfl, o_wT (o_c1 (i := 1) rfl) rfl, by decide, by decide, by decide +kernel⟩
theorem in_X11_due : o_in yX11_due := ⟨o_wT (o_c4 (i := 196) rfl) rfl, o_wT (o_c4 (i := 197) rfl) rfl⟩
theorem mt_X11_sumDue : o_mt yX11_sumDue cX11_sumDue 9 (some .long) 4 := ⟨o_wT (o_c4 (i := 202) rfl) rfl, o_wT (o_c1 (i := 1) rfl) rfl, by decide, by decide, by decide +kernel⟩
theorem in_X11_sumDue : o_in yX11_sumDue := ⟨o_wT (o_c4 (i := 201) rfl) rfl, o_wS (i := 36) (by decide +kernel) rfl⟩
theorem mt_X11_findDue : o_mt yX11_findDue cX11_findDue 7 (some .long) 3 := ⟨o_wT (o_c4 (i := 206) rfl) rfl, o_wT (o_c1 (i := 1) rfl) rfl, by decide, by decide, by decide +kernel⟩
theorem in_X11_findDue : o_in yX11_findDue := ⟨o_wT (o_c4 (i := 205) rfl) rfl, o_wS (i := 37) (by decide +kernel) rfl⟩
theorem mt_X6_instrumentOf : o_mt yX6_instrumentOf cX6_instrumentOf 5 (some .int) 1 := ⟨o_wT (o_c4 (i := 210) rfl) rfl, o_wT (o_c1 (i := 20) rfl) rfl, by decide, by decide, by decide +kernel⟩
theorem in_X6_instrumentOf : o_in yX6_instrumentOf := ⟨o_wT (o_c4 (i := 208) rfl) rfl, o_wT (o_c4 (i := 209) rfl) rfl⟩
theorem mt_X11_waits : o_mt yX11_waits cX11_waits 3 (some .int) 1 := ⟨o_wT (o_c4 (i := 215) rfl) rfl, o_wT (o_c1 (i := 1) rfl) rfl, by decide, by decide, by decide +kernel⟩
theorem in_X11_waits : o_in yX11_waits := ⟨o_wT (o_c4 (i := 213) rfl) rfl, o_wT (o_c4 (i := 214) rfl) rfl⟩
theorem mt_X1_findOrder : o_mt yX1_findOrder cX1_findOrder 6 none 2 := ⟨o_wT (o_c4 (i := 219) rfl) rfl, o_wT (o_c1 (i := 5) rfl) rfl, by decide, by decide, by decide +kernel⟩
theorem in_X1_findOrder : o_in yX1_findOrder := ⟨o_wT (o_c4 (i := 217) rfl) rfl, o_wT (o_c4 (i := 218) rfl) rfl⟩
theorem mt_X1_begin : o_mt yX1_begin cX1_begin 5 none 1 := ⟨o_wT (o_c4 (i := 223) rfl) rfl, o_wT (o_c1 (i := 5) rfl) rfl, by decide, by decide, by decide +kernel⟩
theorem in_X1_begin : o_in yX1_begin := ⟨o_wT (o_c4 (i := 222) rfl) rfl, o_wS (i := 38) (by decide +kernel) rfl⟩
theorem mt_X1_sumWait : o_mt yX1_sumWait cX1_sumWait 5 (some .int) 2 := ⟨o_wT (o_c4 (i := 228) rfl) rfl, o_wT (o_c1 (i := 5) rfl) rfl, by decide, by decide, by decide +kernel⟩
theorem in_X1_sumWait : o_in yX1_sumWait := ⟨o_wT (o_c4 (i := 227) rfl) rfl, o_wS (i := 39) (by decide +kernel) rfl⟩
theorem mt_X1_minutesBetween : o_mt yX1_minutesBetween cX1_minutesBetween 8 (some .int) 2 := ⟨o_wT (o_c4 (i := 232) rfl) rfl, o_wT (o_c1 (i := 5) rfl) rfl, by decide, by decide, by decide +kernel⟩
theorem in_X1_minutesBetween : o_in yX1_minutesBetween := ⟨o_wT (o_c4 (i := 231) rfl) rfl, o_wS (i := 40) (by decide +kernel) rfl⟩
theorem mt_X1_nextOrder : o_mt yX1_nextOrder cX1_nextOrder 5 (some .boolean) 0 := ⟨o_wT (o_c4 (i := 238) rfl) rfl, o_wT (o_c1 (i := 5) rfl) rfl, by decide, by decide, by decide +kernel⟩
theorem in_X1_nextOrder : o_in yX1_nextOrder := ⟨o_wT (o_c4 (i := 237) rfl) rfl, o_wS (i := 41) (by decide +kernel) rfl⟩
theorem mt_X1_swap : o_mt yX1_swap cX1_swap 4 none 2 := ⟨o_wT (o_c5 (i := 2) rfl) rfl, o_wT (o_c1 (i := 5) rfl) rfl, by decide, by decide, by decide +kernel⟩
theorem in_X1_swap : o_in yX1_swap := ⟨o_wT (o_c5 (i := 1) rfl) rfl, o_wS (i := 42) (by decide +kernel) rfl⟩
theorem mt_X11_order : o_mt yX11_order cX11_order 4 (some .int) 2 := ⟨o_wT (o_c5 (i := 6) rfl) rfl, o_wT (o_c1 (i := 1) rfl) rfl, by decide, by decide, by decide +kernel⟩
theorem in_X11_order : o_in yX11_order := ⟨o_wT (o_c5 (i := 4) rfl) rfl, o_wT (o_c5 (i := 5) rfl) rfl⟩
theorem mt_X11_programme : o_mt yX11_programme cX11_programme 5 (some .int) 3 := ⟨o_wT (o_c5 (i := 10) rfl) rfl, o_wT (o_c1 (i := 1) rfl) rfl, by decide, by decide, by decide +kernel⟩
theorem in_X11_programme : o_in yX11_programme := ⟨o_wT (o_c5 (i := 8) rfl) rfl, o_wT (o_c5 (i := 9) rfl) rfl⟩
theorem mt_X0_begin : o_mt yX0_begin cX0_begin 1 none 0 := ⟨o_wT (o_c5 (i := 14) rfl) rfl, o_wT (o_c1 (i := 6) rfl) rfl, by decide, by decide, by decide +kernel⟩
theorem in_X0_begin : o_in yX0_begin := ⟨o_wT (o_c5 (i := 12) rfl) rfl, o_wT (o_c5 (i := 13) rfl) rfl⟩
theorem mt_X0_addPost : o_mt yX0_addPost cX0_addPost 2 none 1 := ⟨o_wT (o_c5 (i := 20) rfl) rfl, o_wT (o_c1 (i := 6) rfl) rfl, by decide, by decide, by decide +kernel⟩
theorem in_X0_addPost : o_in yX0_addPost := ⟨o_wT (o_c5 (i := 18) rfl) rfl, o_wT (o_c5 (i := 19) rfl) rfl⟩
theorem mt_X0_addWork : o_mt yX0_addWork cX0_addWork 6 none 2 := ⟨o_wT (o_c5 (i := 24) rfl) rfl, o_wT (o_c1 (i := 6) rfl) rfl, by decide, by decide, by decide +kernel⟩
theorem in_X0_addWork : o_in yX0_addWork := ⟨o_wT (o_c5 (i := 22) rfl) rfl, o_wT (o_c5 (i := 23) rfl) rfl⟩
theorem mt_X0_bitOf : o_mt yX0_bitOf cX0_bitOf 1 (some .int) 1 := ⟨o_wT (o_c5 (i := 28) rfl) rfl, o_wT (o_c1 (i := 6) rfl) rfl, by decide, by decide, by decide +kernel⟩
theorem is_X0_bitOf : Cond.static yX0_bitOf ∈ o_T := o_wT (o_c5 (i := 27) rfl) rfl
theorem mt_X0_choose : o_mt yX0_choose cX0_choose 6 (some .int) 2 := ⟨o_wT (o_c5 (i := 33) rfl) rfl, o_wT (o_c1 (i := 6) rfl) rfl, by decide, by decide, by decide +kernel⟩
theorem in_X0_choose : o_in yX0_choose := ⟨o_wT (o_c5 (i := 31) rfl) rfl, o_wT (o_c5 (i := 32) rfl) rfl⟩
theorem mt_X0_setOf : o_mt yX0_setOf cX0_setOf 4 (some .int) 1 := ⟨o_wT (o_c5 (i := 37) rfl) rfl, o_wT (o_c1 (i := 6) rfl) rfl, by decide, by decide, by decide +kernel⟩
theorem is_X0_setOf : Cond.static yX0_setOf ∈ o_T := o_wT (o_c5 (i := 36) rfl) rfl
theorem mt_X11_price : o_mt yX11_price cX11_price 4 (some .int) 1 := ⟨o_wT (o_c5 (i := 41) rfl) rfl, o_wT (o_c1 (i := 1) rfl) rfl, by decide, by decide, by decide +kernel⟩
theorem in_X11_price : o_in yX11_price := ⟨o_wT (o_c5 (i := 39) rfl) rfl, o_wT (o_c5 (i := 40) rfl) rfl⟩
theorem mt_X11_count : o_mt yX11_count cX11_count 2 (some .int) 1 := ⟨o_wT (o_c5 (i := 45) rfl) rfl, o_wT (o_c1 (i := 1) rfl) rfl, by decide, by decide, by decide +kernel⟩
theorem in_X11_count : o_in yX11_count := ⟨o_wT (o_c5 (i := 43) rfl) rfl, o_wT (o_c5 (i := 44) rfl) rfl⟩
theorem mt_X11_countSeated : o_mt yX11_countSeated cX11_countSeated 3 (some .int) 0 := ⟨o_wT (o_c5 (i := 49) rfl) rfl, o_wT (o_c1 (i := 1) rfl) rfl, by decide, by decide, by decide +kernel⟩
theorem in_X11_countSeated : o_in yX11_countSeated := ⟨o_wT (o_c5 (i := 48) rfl) rfl, o_wS (i := 43) (by decide +kernel) rfl⟩
theorem mt_X11_countSeatedGaps : o_mt yX11_countSeatedGaps cX11_countSeatedGaps 3 (some .int) 0 := ⟨o_wT (o_c5 (i := 53) rfl) rfl, o_wT (o_c1 (i := 1) rfl) rfl, by decide, by decide, by decide +kernel⟩
theorem in_X11_countSeatedGaps : o_in yX11_countSeatedGaps := ⟨o_wT (o_c5 (i := 52) rfl) rfl, o_wS (i := 44) (by decide +kernel) rfl⟩
theorem mt_X11_put : o_mt yX11_put cX11_put 5 (some .int) 3 := ⟨o_wT (o_c5 (i := 57) rfl) rfl, o_wT (o_c1 (i := 1) rfl) rfl, by decide, by decide, by decide +kernel⟩
theorem in_X11_put : o_in yX11_put := ⟨o_wT (o_c5 (i := 55) rfl) rfl, o_wT (o_c5 (i := 56) rfl) rfl⟩
theorem mt_X11_isPuttable : o_mt yX11_isPuttable cX11_isPuttable 3 (some .boolean) 2 := ⟨o_wT (o_c5 (i := 61) rfl) rfl, o_wT (o_c1 (i := 1) rfl) rfl, by decide, by decide, by decide +kernel⟩
theorem in_X11_isPuttable : o_in yX11_isPuttable := ⟨o_wT (o_c5 (i := 60) rfl) rfl, o_wS (i := 45) (by decide +kernel) rfl⟩
theorem mt_X11_hostRefuses : o_mt yX11_hostRefuses cX11_hostRefuses 2 (some .int) 1 := ⟨o_wT (o_c5 (i := 65) rfl) rfl, o_wT (o_c1 (i := 1) rfl) rfl, by decide, by decide, by decide +kernel⟩
theorem in_X11_hostRefuses : o_in yX11_hostRefuses := ⟨o_wT (o_c5 (i := 64) rfl) rfl, o_wS (i := 46) (by decide +kernel) rfl⟩
theorem mt_X11_putBytes : o_mt yX11_putBytes cX11_putBytes 3 none 2 := ⟨o_wT (o_c5 (i := 69) rfl) rfl, o_wT (o_c1 (i := 1) rfl) rfl, by decide, by decide, by decide +kernel⟩
theorem in_X11_putBytes : o_in yX11_putBytes := ⟨o_wT (o_c5 (i := 68) rfl) rfl, o_wS (i := 47) (by decide +kernel) rfl⟩
theorem mt_X11_putPays : o_mt yX11_putPays cX11_putPays 3 none 1 := ⟨o_wT (o_c5 (i := 73) rfl) rfl, o_wT (o_c1 (i := 1) rfl) rfl, by decide, by decide, by decide +kernel⟩
theorem in_X11_putPays : o_in yX11_putPays := ⟨o_wT (o_c5 (i := 72) rfl) rfl, o_wS (i := 48) (by decide +kernel) rfl⟩
theorem mt_X11_putTruths : o_mt yX11_putTruths cX11_putTruths 4 none 2 := ⟨o_wT (o_c5 (i := 77) rfl) rfl, o_wT (o_c1 (i := 1) rfl) rfl, by decide, by decide, by decide +kernel⟩
theorem in_X11_putTruths : o_in yX11_putTruths := ⟨o_wT (o_c5 (i := 76) rfl) rfl, o_wS (i := 49) (by decide +kernel) rfl⟩
theorem mt_X11_hostAnswers : o_mt yX11_hostAnswers cX11_hostAnswers 2 (some .int) 1 := ⟨o_wT (o_c5 (i := 81) rfl) rfl, o_wT (o_c1 (i := 1) rfl) rfl, by decide, by decide, by decide +kernel⟩
theorem in_X11_hostAnswers : o_in yX11_hostAnswers := ⟨o_wT (o_c5 (i := 80) rfl) rfl, o_wS (i := 50) (by decide +kernel) rfl⟩
theorem mt_X11_forge : o_mt yX11_forge cX11_forge 5 (some .int) 3 := ⟨o_wT (o_c5 (i := 85) rfl) rfl, o_wT (o_c1 (i := 1) rfl) rfl, by decide, by decide, by decide +kernel⟩
theorem in_X11_forge : o_in yX11_forge := ⟨o_wT (o_c5 (i := 83) rfl) rfl, o_wT (o_c5 (i := 84) rfl) rfl⟩
theorem mt_J9_floorMod_7cf53 : o_mt yJ9_floorMod_7cf53 cJ9_floorMod_7cf53 3 (some .int) 2 := ⟨o_wT (o_c5 (i := 88) rfl) rfl, o_wT (o_c1 (i := 12) rfl) rfl, by decide, by decide, by decide +kernel⟩
theorem is_J9_floorMod_7cf53 : Cond.static yJ9_floorMod_7cf53 ∈ o_T := o_wT (o_c5 (i := 87) rfl) rfl
theorem mt_X11_forgeDay : o_mt yX11_forgeDay cX11_forgeDay 3 (some .int) 2 := ⟨o_wT (o_c5 (i := 92) rfl) rfl, o_wT (o_c1 (i := 1) rfl) rfl, by decide, by decide, by decide +kernel⟩
theorem in_X11_forgeDay : o_in yX11_forgeDay := ⟨o_wT (o_c5 (i := 91) rfl) rfl, o_wS (i := 51) (by decide +kernel) rfl⟩
theorem mt_X9_holdsKind : o_mt yX9_holdsKind cX9_holdsKind 2 (some .boolean) 1 := ⟨o_wT (o_c5 (i := 96) rfl) rfl, o_wT (o_c1 (i := 7) rfl) rfl, by decide, by decide, by decide +kernel⟩
theorem in_X9_holdsKind : o_in yX9_holdsKind := ⟨o_wT (o_c5 (i := 94) rfl) rfl, o_wT (o_c5 (i := 95) rfl) rfl⟩
theorem mt_X6_isOfKind : o_mt yX6_isOfKind cX6_isOfKind 4 (some .boolean) 1 := ⟨o_wT (o_c5 (i := 100) rfl) rfl, o_wT (o_c1 (i := 20) rfl) rfl, by decide, by decide, by decide +kernel⟩
theorem in_X6_isOfKind : o_in yX6_isOfKind := ⟨o_wT (o_c5 (i := 98) rfl) rfl, o_wT (o_c5 (i := 99) rfl) rfl⟩
theorem mt_X11_forgePlace : o_mt yX11_forgePlace cX11_forgePlace 4 (some .int) 3 := ⟨o_wT (o_c5 (i := 105) rfl) rfl, o_wT (o_c1 (i := 1) rfl) rfl, by decide, by decide, by decide +kernel⟩
theorem in_X11_forgePlace : o_in yX11_forgePlace := ⟨o_wT (o_c5 (i := 104) rfl) rfl, o_wS (i := 52) (by decide +kernel) rfl⟩
theorem mt_X9_elementAt : o_mt yX9_elementAt cX9_elementAt 2 (some .int) 1 := ⟨o_wT (o_c5 (i := 109) rfl) rfl, o_wT (o_c1 (i := 7) rfl) rfl, by decide, by decide, by decide +kernel⟩
theorem in_X9_elementAt : o_in yX9_elementAt := ⟨o_wT (o_c5 (i := 107) rfl) rfl, o_wT (o_c5 (i := 108) rfl) rfl⟩
theorem mt_X11_forgeCopy : o_mt yX11_forgeCopy cX11_forgeCopy 6 (some .int) 2 := ⟨o_wT (o_c5 (i := 114) rfl) rfl, o_wT (o_c1 (i := 1) rfl) rfl, by decide, by decide, by decide +kernel⟩
theorem in_X11_forgeCopy : o_in yX11_forgeCopy := ⟨o_wT (o_c5 (i := 113) rfl) rfl, o_wS (i := 53) (by decide +kernel) rfl⟩
theorem mt_X11_forgeLaid : o_mt yX11_forgeLaid cX11_forgeLaid 2 (some .int) 1 := ⟨o_wT (o_c5 (i := 118) rfl) rfl, o_wT (o_c1 (i := 1) rfl) rfl, by decide, by decide, by decide +kernel⟩
theorem in_X11_forgeLaid : o_in yX11_forgeLaid := ⟨o_wT (o_c5 (i := 117) rfl) rfl, o_wS (i := 54) (by decide +kernel) rfl⟩
theorem mt_X11_status : o_mt yX11_status cX11_status 1 (some .int) 0 := ⟨o_wT (o_c5 (i := 122) rfl) rfl, o_wT (o_c1 (i := 1) rfl) rfl, by decide, by decide, by decide +kernel⟩
theorem in_X11_status : o_in yX11_status := ⟨o_wT (o_c5 (i := 120) rfl) rfl, o_wT (o_c5 (i := 121) rfl) rfl⟩
theorem mt_X12_init : o_mt yX12_init cX12_init 2 none 0 := ⟨o_wT (o_c5 (i := 127) rfl) rfl, o_wT (o_c1 (i := 17) rfl) rfl, by decide, by decide, by decide +kernel⟩
theorem ii_X12_init : Cond.instanceMethod yX12_init ∈ o_T := o_wT (o_c5 (i := 126) rfl) rfl
theorem mt_X12_reads : o_mt yX12_reads cX12_reads 2 none 1 := ⟨o_wT (o_c5 (i := 132) rfl) rfl, o_wT (o_c1 (i := 17) rfl) rfl, by decide, by decide, by decide +kernel⟩
theorem in_X12_reads : o_in yX12_reads := ⟨o_wT (o_c5 (i := 131) rfl) rfl, o_wS (i := 55) (by decide +kernel) rfl⟩
theorem mt_X12_next : o_mt yX12_next cX12_next 3 none 0 := ⟨o_wT (o_c5 (i := 136) rfl) rfl, o_wT (o_c1 (i := 17) rfl) rfl, by decide, by decide, by decide +kernel⟩
theorem in_X12_next : o_in yX12_next := ⟨o_wT (o_c5 (i := 135) rfl) rfl, o_wS (i := 56) (by decide +kernel) rfl⟩
theorem mt_X12_byteAt : o_mt yX12_byteAt cX12_byteAt 2 (some .int) 1 := ⟨o_wT (o_c5 (i := 140) rfl) rfl, o_wT (o_c1 (i := 17) rfl) rfl, by decide, by decide, by decide +kernel⟩
theorem in_X12_byteAt : o_in yX12_byteAt := ⟨o_wT (o_c5 (i := 139) rfl) rfl, o_wS (i := 57) (by decide +kernel) rfl⟩
theorem mt_X12_isLetter : o_mt yX12_isLetter cX12_isLetter 1 (some .boolean) 1 := ⟨o_wT (o_c5 (i := 143) rfl) rfl, o_wT (o_c1 (i := 17) rfl) rfl, by decide, by decide, by decide +kernel⟩
theorem is_X12_isLetter : Cond.static yX12_isLetter ∈ o_T := o_wT (o_c5 (i := 142) rfl) rfl
theorem mt_X12_word : o_mt yX12_word cX12_word 5 none 0 := ⟨o_wT (o_c5 (i := 147) rfl) rfl, o_wT (o_c1 (i := 17) rfl) rfl, by decide, by decide, by decide +kernel⟩
theorem in_X12_word : o_in yX12_word := ⟨o_wT (o_c5 (i := 146) rfl) rfl, o_wS (i := 58) (by decide +kernel) rfl⟩
theorem mt_X12_isDigit : o_mt yX12_isDigit cX12_isDigit 1 (some .boolean) 1 := ⟨o_wT (o_c5 (i := 150) rfl) rfl, o_wT (o_c1 (i := 17) rfl) rfl, by decide, by decide, by decide +kernel⟩
theorem is_X12_isDigit : Cond.static yX12_isDigit ∈ o_T := o_wT (o_c5 (i := 149) rfl) rfl
theorem mt_X12_number : o_mt yX12_number cX12_number 1 none 0 := ⟨o_wT (o_c5 (i := 154) rfl) rfl, o_wT (o_c1 (i := 17) rfl) rfl, by decide, by decide, by decide +kernel⟩
theorem in_X12_number : o_in yX12_number := ⟨o_wT (o_c5 (i := 153) rfl) rfl, o_wS (i := 59) (by decide +kernel) rfl⟩
theorem mt_X12_isWrong : o_mt yX12_isWrong cX12_isWrong 1 (some .boolean) 0 := ⟨o_wT (o_c5 (i := 158) rfl) rfl, o_wT (o_c1 (i := 17) rfl) rfl, by decide, by decide, by decide +kernel⟩
theorem in_X12_isWrong : o_in yX12_isWrong := ⟨o_wT (o_c5 (i := 157) rfl) rfl, o_wS (i := 60) (by decide +kernel) rfl⟩
theorem mt_X12_cannot : o_mt yX12_cannot cX12_cannot 1 none 0 := ⟨o_wT (o_c5 (i := 162) rfl) rfl, o_wT (o_c1 (i := 17) rfl) rfl, by decide, by decide, by decide +kernel⟩
theorem in_X12_cannot : o_in yX12_cannot := ⟨o_wT (o_c5 (i := 161) rfl) rfl, o_wS (i := 61) (by decide +kernel) rfl⟩
theorem mt_X12_told : o_mt yX12_told cX12_told 2 none 1 := ⟨o_wT (o_c5 (i := 166) rfl) rfl, o_wT (o_c1 (i := 17) rfl) rfl, by decide, by decide, by decide +kernel⟩
theorem in_X12_told : o_in yX12_told := ⟨o_wT (o_c5 (i := 165) rfl) rfl, o_wS (i := 62) (by decide +kernel) rfl⟩
theorem mt_X12_need_ : o_mt yX12_need_ cX12_need_ 2 none 1 := ⟨o_wT (o_c5 (i := 170) rfl) rfl, o_wT (o_c1 (i := 17) rfl) rfl, by decide, by decide, by decide +kernel⟩
theorem in_X12_need_ : o_in yX12_need_ := ⟨o_wT (o_c5 (i := 169) rfl) rfl, o_wS (i := 63) (by decide +kernel) rfl⟩
theorem mt_X12_either : o_mt yX12_either cX12_either 1 none 0 := ⟨o_wT (o_c5 (i := 174) rfl) rfl, o_wT (o_c1 (i := 17) rfl) rfl, by decide, by decide, by decide +kernel⟩
theorem in_X12_either : o_in yX12_either := ⟨o_wT (o_c5 (i := 173) rfl) rfl, o_wS (i := 64) (by decide +kernel) rfl⟩
theorem mt_X12_both : o_mt yX12_both cX12_both 1 none 0 := ⟨o_wT (o_c5 (i := 178) rfl) rfl, o_wT (o_c1 (i := 17) rfl) rfl, by decide, by decide, by decide +kernel⟩
theorem in_X12_both : o_in yX12_both := ⟨o_wT (o_c5 (i := 177) rfl) rfl, o_wS (i := 65) (by decide +kernel) rfl⟩
theorem mt_X12_not : o_mt yX12_not cX12_not 2 none 0 := ⟨o_wT (o_c5 (i := 182) rfl) rfl, o_wT (o_c1 (i := 17) rfl) rfl, by decide, by decide, by decide +kernel⟩
theorem in_X12_not : o_in yX12_not := ⟨o_wT (o_c5 (i := 181) rfl) rfl, o_wS (i := 66) (by decide +kernel) rfl⟩
theorem mt_X12_opens : o_mt yX12_opens cX12_opens 1 none 0 := ⟨o_wT (o_c5 (i := 186) rfl) rfl, o_wT (o_c1 (i := 17) rfl) rfl, by decide, by decide, by decide +kernel⟩
theorem in_X12_opens : o_in yX12_opens := ⟨o_wT (o_c5 (i := 185) rfl) rfl, o_wS (i := 67) (by decide +kernel) rfl⟩
theorem mt_X12_emit : o_mt yX12_emit cX12_emit 3 none 2 := ⟨o_wT (o_c5 (i := 190) rfl) rfl, o_wT (o_c1 (i := 17) rfl) rfl, by decide, by decide, by decide +kernel⟩
theorem in_X12_emit : o_in yX12_emit := ⟨o_wT (o_c5 (i := 189) rfl) rfl, o_wS (i := 68) (by decide +kernel) rfl⟩
theorem mt_X12_sum : o_mt yX12_sum cX12_sum 2 none 0 := ⟨o_wT (o_c5 (i := 194) rfl) rfl, o_wT (o_c1 (i := 17) rfl) rfl, by decide, by decide, by decide +kernel⟩
theorem in_X12_sum : o_in yX12_sum := ⟨o_wT (o_c5 (i := 193) rfl) rfl, o_wS (i := 69) (by decide +kernel) rfl⟩
theorem mt_X12_term : o_mt yX12_term cX12_term 1 none 0 := ⟨o_wT (o_c5 (i := 198) rfl) rfl, o_wT (o_c1 (i := 17) rfl) rfl, by decide, by decide, by decide +kernel⟩
theorem in_X12_term : o_in yX12_term := ⟨o_wT (o_c5 (i := 197) rfl) rfl, o_wS (i := 70) (by decide +kernel) rfl⟩
theorem mt_X12_one : o_mt yX12_one cX12_one 1 none 0 := ⟨o_wT (o_c5 (i := 202) rfl) rfl, o_wT (o_c1 (i := 17) rfl) rfl, by decide, by decide, by decide +kernel⟩
theorem in_X12_one : o_in yX12_one := ⟨o_wT (o_c5 (i := 201) rfl) rfl, o_wS (i := 71) (by decide +kernel) rfl⟩
theorem mt_X12_work : o_mt yX12_work cX12_work 4 (some .int) 3 := ⟨o_wT (o_c6 (i := 142) rfl) rfl, o_wT (o_c1 (i := 17) rfl) rfl, by decide, by decide, by decide +kernel⟩
theorem in_X12_work : o_in yX12_work := ⟨o_wT (o_c6 (i := 140) rfl) rfl, o_wT (o_c6 (i := 141) rfl) rfl⟩
theorem mt_X12_in : o_mt yX12_in cX12_in 3 (some .boolean) 3 := ⟨o_wT (o_c6 (i := 145) rfl) rfl, o_wT (o_c1 (i := 17) rfl) rfl, by decide, by decide, by decide +kernel⟩
theorem is_X12_in : Cond.static yX12_in ∈ o_T := o_wT (o_c6 (i := 144) rfl) rfl
theorem mt_X12_score : o_mt yX12_score cX12_score 5 (some .int) 4 := ⟨o_wT (o_c6 (i := 149) rfl) rfl, o_wT (o_c1 (i := 17) rfl) rfl, by decide, by decide, by decide +kernel⟩
theorem in_X12_score : o_in yX12_score := ⟨o_wT (o_c6 (i := 147) rfl) rfl, o_wT (o_c6 (i := 148) rfl) rfl⟩
theorem mt_X12_isWork : o_mt yX12_isWork cX12_isWork 2 (some .boolean) 1 := ⟨o_wT (o_c6 (i := 153) rfl) rfl, o_wT (o_c1 (i := 17) rfl) rfl, by decide, by decide, by decide +kernel⟩
theorem in_X12_isWork : o_in yX12_isWork := ⟨o_wT (o_c6 (i := 152) rfl) rfl, o_wS (i := 72) (by decide +kernel) rfl⟩
theorem mt_X12_isDay : o_mt yX12_isDay cX12_isDay 1 (some .boolean) 1 := ⟨o_wT (o_c6 (i := 156) rfl) rfl, o_wT (o_c1 (i := 17) rfl) rfl, by decide, by decide, by decide +kernel⟩
theorem is_X12_isDay : Cond.static yX12_isDay ∈ o_T := o_wT (o_c6 (i := 155) rfl) rfl
theorem mt_X12_workTold : o_mt yX12_workTold cX12_workTold 3 (some .int) 2 := ⟨o_wT (o_c6 (i := 160) rfl) rfl, o_wT (o_c1 (i := 17) rfl) rfl, by decide, by decide, by decide +kernel⟩
theorem in_X12_workTold : o_in yX12_workTold := ⟨o_wT (o_c6 (i := 158) rfl) rfl, o_wT (o_c6 (i := 159) rfl) rfl⟩
theorem mt_X12_played : o_mt yX12_played cX12_played 3 (some .int) 2 := ⟨o_wT (o_c6 (i := 164) rfl) rfl, o_wT (o_c1 (i := 17) rfl) rfl, by decide, by decide, by decide +kernel⟩
theorem in_X12_played : o_in yX12_played := ⟨o_wT (o_c6 (i := 162) rfl) rfl, o_wT (o_c6 (i := 163) rfl) rfl⟩
theorem mt_X12_isPlayed : o_mt yX12_isPlayed cX12_isPlayed 3 (some .boolean) 2 := ⟨o_wT (o_c6 (i := 168) rfl) rfl, o_wT (o_c1 (i := 17) rfl) rfl, by decide, by decide, by decide +kernel⟩
theorem in_X12_isPlayed : o_in yX12_isPlayed := ⟨o_wT (o_c6 (i := 167) rfl) rfl, o_wS (i := 73) (by decide +kernel) rfl⟩
theorem mt_X12_player : o_mt yX12_player cX12_player 4 (some .int) 3 := ⟨o_wT (o_c6 (i := 172) rfl) rfl, o_wT (o_c1 (i := 17) rfl) rfl, by decide, by decide, by decide +kernel⟩
theorem in_X12_player : o_in yX12_player := ⟨o_wT (o_c6 (i := 170) rfl) rfl, o_wT (o_c6 (i := 171) rfl) rfl⟩
theorem mt_X12_isInstrument : o_mt yX12_isInstrument cX12_isInstrument 1 (some .boolean) 1 := ⟨o_wT (o_c6 (i := 175) rfl) rfl, o_wT (o_c1 (i := 17) rfl) rfl, by decide, by decide, by decide +kernel⟩
theorem is_X12_isInstrument : Cond.static yX12_isInstrument ∈ o_T := o_wT (o_c6 (i := 174) rfl) rfl
theorem mt_X12_leave : o_mt yX12_leave cX12_leave 4 (some .int) 3 := ⟨o_wT (o_c6 (i := 179) rfl) rfl, o_wT (o_c1 (i := 17) rfl) rfl, by decide, by decide, by decide +kernel⟩
theorem in_X12_leave : o_in yX12_leave := ⟨o_wT (o_c6 (i := 177) rfl) rfl, o_wT (o_c6 (i := 178) rfl) rfl⟩
theorem mt_X12_isPlayer : o_mt yX12_isPlayer cX12_isPlayer 2 (some .boolean) 1 := ⟨o_wT (o_c6 (i := 183) rfl) rfl, o_wT (o_c1 (i := 17) rfl) rfl, by decide, by decide, by decide +kernel⟩
theorem in_X12_isPlayer : o_in yX12_isPlayer := ⟨o_wT (o_c6 (i := 182) rfl) rfl, o_wS (i := 74) (by decide +kernel) rfl⟩
theorem mt_X12_playerTold : o_mt yX12_playerTold cX12_playerTold 5 (some .int) 2 := ⟨o_wT (o_c6 (i := 187) rfl) rfl, o_wT (o_c1 (i := 17) rfl) rfl, by decide, by decide, by decide +kernel⟩
theorem in_X12_playerTold : o_in yX12_playerTold := ⟨o_wT (o_c6 (i := 185) rfl) rfl, o_wT (o_c6 (i := 186) rfl) rfl⟩
theorem mt_X12_chairOf : o_mt yX12_chairOf cX12_chairOf 4 (some .int) 2 := ⟨o_wT (o_c6 (i := 191) rfl) rfl, o_wT (o_c1 (i := 17) rfl) rfl, by decide, by decide, by decide +kernel⟩
theorem in_X12_chairOf : o_in yX12_chairOf := ⟨o_wT (o_c6 (i := 190) rfl) rfl, o_wS (i := 75) (by decide +kernel) rfl⟩
theorem mt_X12_service : o_mt yX12_service cX12_service 5 (some .int) 4 := ⟨o_wT (o_c6 (i := 195) rfl) rfl, o_wT (o_c1 (i := 17) rfl) rfl, by decide, by decide, by decide +kernel⟩
theorem in_X12_service : o_in yX12_service := ⟨o_wT (o_c6 (i := 193) rfl) rfl, o_wT (o_c6 (i := 194) rfl) rfl⟩
theorem mt_X12_call : o_mt yX12_call cX12_call 5 (some .int) 2 := ⟨o_wT (o_c6 (i := 199) rfl) rfl, o_wT (o_c1 (i := 17) rfl) rfl, by decide, by decide, by decide +kernel⟩
theorem in_X12_call : o_in yX12_call := ⟨o_wT (o_c6 (i := 197) rfl) rfl, o_wT (o_c6 (i := 198) rfl) rfl⟩
theorem mt_X12_isService : o_mt yX12_isService cX12_isService 2 (some .boolean) 1 := ⟨o_wT (o_c6 (i := 203) rfl) rfl, o_wT (o_c1 (i := 17) rfl) rfl, by decide, by decide, by decide +kernel⟩
theorem in_X12_isService : o_in yX12_isService := ⟨o_wT (o_c6 (i := 202) rfl) rfl, o_wS (i := 76) (by decide +kernel) rfl⟩
theorem mt_X12_chairs : o_mt yX12_chairs cX12_chairs 5 (some .int) 2 := ⟨o_wT (o_c6 (i := 207) rfl) rfl, o_wT (o_c1 (i := 17) rfl) rfl, by decide, by decide, by decide +kernel⟩
theorem in_X12_chairs : o_in yX12_chairs := ⟨o_wT (o_c6 (i := 206) rfl) rfl, o_wS (i := 77) (by decide +kernel) rfl⟩
theorem mt_X12_need : o_mt yX12_need cX12_need 6 (some .int) 3 := ⟨o_wT (o_c6 (i := 211) rfl) rfl, o_wT (o_c1 (i := 17) rfl) rfl, by decide, by decide, by decide +kernel⟩
theorem in_X12_need : o_in yX12_need := ⟨o_wT (o_c6 (i := 210) rfl) rfl, o_wS (i := 78) (by decide +kernel) rfl⟩
theorem mt_X12_needOf : o_mt yX12_needOf cX12_needOf 3 (some .int) 2 := ⟨o_wT (o_c6 (i := 215) rfl) rfl, o_wT (o_c1 (i := 17) rfl) rfl, by decide, by decide, by decide +kernel⟩
theorem in_X12_needOf : o_in yX12_needOf := ⟨o_wT (o_c6 (i := 214) rfl) rfl, o_wS (i := 79) (by decide +kernel) rfl⟩
theorem mt_X12_serviceTold : o_mt yX12_serviceTold cX12_serviceTold 3 (some .int) 2 := ⟨o_wT (o_c6 (i := 219) rfl) rfl, o_wT (o_c1 (i := 17) rfl) rfl, by decide, by decide, by decide +kernel⟩
theorem in_X12_serviceTold : o_in yX12_serviceTold := ⟨o_wT (o_c6 (i := 217) rfl) rfl, o_wT (o_c6 (i := 218) rfl) rfl⟩
theorem mt_X12_gapsIn : o_mt yX12_gapsIn cX12_gapsIn 4 (some .int) 1 := ⟨o_wT (o_c6 (i := 223) rfl) rfl, o_wT (o_c1 (i := 17) rfl) rfl, by decide, by decide, by decide +kernel⟩
theorem in_X12_gapsIn : o_in yX12_gapsIn := ⟨o_wT (o_c6 (i := 222) rfl) rfl, o_wS (i := 80) (by decide +kernel) rfl⟩
theorem mt_X12_feed : o_mt yX12_feed cX12_feed 5 (some .int) 2 := ⟨o_wT (o_c6 (i := 227) rfl) rfl, o_wT (o_c1 (i := 17) rfl) rfl, by decide, by decide, by decide +kernel⟩
theorem in_X12_feed : o_in yX12_feed := ⟨o_wT (o_c6 (i := 225) rfl) rfl, o_wT (o_c6 (i := 226) rfl) rfl⟩
theorem mt_X12_text : o_mt yX12_text cX12_text 3 (some .int) 0 := ⟨o_wT (o_c6 (i := 232) rfl) rfl, o_wT (o_c1 (i := 17) rfl) rfl, by decide, by decide, by decide +kernel⟩
theorem in_X12_text : o_in yX12_text := ⟨o_wT (o_c6 (i := 230) rfl) rfl, o_wT (o_c6 (i := 231) rfl) rfl⟩
theorem mt_X12_force : o_mt yX12_force cX12_force 3 (some .int) 2 := ⟨o_wT (o_c6 (i := 236) rfl) rfl, o_wT (o_c1 (i := 17) rfl) rfl, by decide, by decide, by decide +kernel⟩
theorem in_X12_force : o_in yX12_force := ⟨o_wT (o_c6 (i := 234) rfl) rfl, o_wT (o_c6 (i := 235) rfl) rfl⟩
theorem mt_X12_inForce : o_mt yX12_inForce cX12_inForce 2 (some .int) 1 := ⟨o_wT (o_c7 (i := 0) rfl) rfl, o_wT (o_c1 (i := 17) rfl) rfl, by decide, by decide, by decide +kernel⟩
theorem in_X12_inForce : o_in yX12_inForce := ⟨o_wT (o_c6 (i := 238) rfl) rfl, o_wT (o_c6 (i := 239) rfl) rfl⟩
theorem mt_X12_textOn : o_mt yX12_textOn cX12_textOn 5 (some .int) 1 := ⟨o_wT (o_c7 (i := 4) rfl) rfl, o_wT (o_c1 (i := 17) rfl) rfl, by decide, by decide, by decide +kernel⟩
theorem in_X12_textOn : o_in yX12_textOn := ⟨o_wT (o_c7 (i := 3) rfl) rfl, o_wS (i := 81) (by decide +kernel) rfl⟩
theorem mt_X12_may : o_mt yX12_may cX12_may 4 (some .int) 3 := ⟨o_wT (o_c7 (i := 8) rfl) rfl, o_wT (o_c1 (i := 17) rfl) rfl, by decide, by decide, by decide +kernel⟩
theorem in_X12_may : o_in yX12_may := ⟨o_wT (o_c7 (i := 6) rfl) rfl, o_wT (o_c7 (i := 7) rfl) rfl⟩
theorem mt_X12_hinders : o_mt yX12_hinders cX12_hinders 6 (some .int) 3 := ⟨o_wT (o_c7 (i := 12) rfl) rfl, o_wT (o_c1 (i := 17) rfl) rfl, by decide, by decide, by decide +kernel⟩
theorem in_X12_hinders : o_in yX12_hinders := ⟨o_wT (o_c7 (i := 11) rfl) rfl, o_wS (i := 82) (by decide +kernel) rfl⟩
theorem mt_X12_isAway : o_mt yX12_isAway cX12_isAway 5 (some .boolean) 2 := ⟨o_wT (o_c7 (i := 16) rfl) rfl, o_wT (o_c1 (i := 17) rfl) rfl, by decide, by decide, by decide +kernel⟩
theorem in_X12_isAway : o_in yX12_isAway := ⟨o_wT (o_c7 (i := 15) rfl) rfl, o_wS (i := 83) (by decide +kernel) rfl⟩
theorem mt_X12_ends : o_mt yX12_ends cX12_ends 2 (some .int) 1 := ⟨o_wT (o_c7 (i := 20) rfl) rfl, o_wT (o_c1 (i := 17) rfl) rfl, by decide, by decide, by decide +kernel⟩
theorem in_X12_ends : o_in yX12_ends := ⟨o_wT (o_c7 (i := 19) rfl) rfl, o_wS (i := 84) (by decide +kernel) rfl⟩
theorem mt_X12_begins : o_mt yX12_begins cX12_begins 2 (some .int) 1 := ⟨o_wT (o_c7 (i := 24) rfl) rfl, o_wT (o_c1 (i := 17) rfl) rfl, by decide, by decide, by decide +kernel⟩
theorem in_X12_begins : o_in yX12_begins := ⟨o_wT (o_c7 (i := 23) rfl) rfl, o_wS (i := 85) (by decide +kernel) rfl⟩
theorem mt_X12_worthOf : o_mt yX12_worthOf cX12_worthOf 10 (some .long) 5 := ⟨o_wT (o_c7 (i := 28) rfl) rfl, o_wT (o_c1 (i := 17) rfl) rfl, by decide, by decide, by decide +kernel⟩
theorem in_X12_worthOf : o_in yX12_worthOf := ⟨o_wT (o_c7 (i := 27) rfl) rfl, o_wS (i := 86) (by decide +kernel) rfl⟩
theorem mt_X12_named : o_mt yX12_named cX12_named 5 (some .int) 4 := ⟨o_wT (o_c7 (i := 32) rfl) rfl, o_wT (o_c1 (i := 17) rfl) rfl, by decide, by decide, by decide +kernel⟩
theorem in_X12_named : o_in yX12_named := ⟨o_wT (o_c7 (i := 31) rfl) rfl, o_wS (i := 87) (by decide +kernel) rfl⟩
theorem mt_X12_week : o_mt yX12_week cX12_week 5 (some .int) 2 := ⟨o_wT (o_c7 (i := 36) rfl) rfl, o_wT (o_c1 (i := 17) rfl) rfl, by decide, by decide, by decide +kernel⟩
theorem in_X12_week : o_in yX12_week := ⟨o_wT (o_c7 (i := 35) rfl) rfl, o_wS (i := 88) (by decide +kernel) rfl⟩
theorem mt_X12_rest : o_mt yX12_rest cX12_rest 5 (some .int) 2 := ⟨o_wT (o_c7 (i := 40) rfl) rfl, o_wT (o_c1 (i := 17) rfl) rfl, by decide, by decide, by decide +kernel⟩
theorem in_X12_rest : o_in yX12_rest := ⟨o_wT (o_c7 (i := 39) rfl) rfl, o_wS (i := 89) (by decide +kernel) rfl⟩
theorem mt_X12_two : o_mt yX12_two cX12_two 5 (some .long) 3 := ⟨o_wT (o_c7 (i := 43) rfl) rfl, o_wT (o_c1 (i := 17) rfl) rfl, by decide, by decide, by decide +kernel⟩
theorem is_X12_two : Cond.static yX12_two ∈ o_T := o_wT (o_c7 (i := 42) rfl) rfl
theorem mt_X12_worth : o_mt yX12_worth cX12_worth 6 (some .long) 4 := ⟨o_wT (o_c7 (i := 47) rfl) rfl, o_wT (o_c1 (i := 17) rfl) rfl, by decide, by decide, by decide +kernel⟩
theorem in_X12_worth : o_in yX12_worth := ⟨o_wT (o_c7 (i := 45) rfl) rfl, o_wT (o_c7 (i := 46) rfl) rfl⟩
theorem mt_X12_gaps : o_mt yX12_gaps cX12_gaps 2 (some .int) 1 := ⟨o_wT (o_c7 (i := 52) rfl) rfl, o_wT (o_c1 (i := 17) rfl) rfl, by decide, by decide, by decide +kernel⟩
theorem in_X12_gaps : o_in yX12_gaps := ⟨o_wT (o_c7 (i := 50) rfl) rfl, o_wT (o_c7 (i := 51) rfl) rfl⟩
theorem mt_X12_seats : o_mt yX12_seats cX12_seats 7 (some .int) 1 := ⟨o_wT (o_c7 (i := 56) rfl) rfl, o_wT (o_c1 (i := 17) rfl) rfl, by decide, by decide, by decide +kernel⟩
theorem in_X12_seats : o_in yX12_seats := ⟨o_wT (o_c7 (i := 55) rfl) rfl, o_wS (i := 90) (by decide +kernel) rfl⟩
theorem mt_X12_instrumentOf : o_mt yX12_instrumentOf cX12_instrumentOf 5 (some .int) 2 := ⟨o_wT (o_c7 (i := 60) rfl) rfl, o_wT (o_c1 (i := 17) rfl) rfl, by decide, by decide, by decide +kernel⟩
theorem in_X12_instrumentOf : o_in yX12_instrumentOf := ⟨o_wT (o_c7 (i := 59) rfl) rfl, o_wS (i := 91) (by decide +kernel) rfl⟩
theorem mt_X12_choice : o_mt yX12_choice cX12_choice 5 (some .int) 3 := ⟨o_wT (o_c7 (i := 64) rfl) rfl, o_wT (o_c1 (i := 17) rfl) rfl, by decide, by decide, by decide +kernel⟩
theorem in_X12_choice : o_in yX12_choice := ⟨o_wT (o_c7 (i := 63) rfl) rfl, o_wS (i := 92) (by decide +kernel) rfl⟩
theorem mt_X12_chair : o_mt yX12_chair cX12_chair 5 (some .int) 3 := ⟨o_wT (o_c7 (i := 68) rfl) rfl, o_wT (o_c1 (i := 17) rfl) rfl, by decide, by decide, by decide +kernel⟩
theorem in_X12_chair : o_in yX12_chair := ⟨o_wT (o_c7 (i := 66) rfl) rfl, o_wT (o_c7 (i := 67) rfl) rfl⟩
theorem mt_X12_seat : o_mt yX12_seat cX12_seat 4 (some .int) 1 := ⟨o_wT (o_c7 (i := 72) rfl) rfl, o_wT (o_c1 (i := 17) rfl) rfl, by decide, by decide, by decide +kernel⟩
theorem in_X12_seat : o_in yX12_seat := ⟨o_wT (o_c7 (i := 70) rfl) rfl, o_wT (o_c7 (i := 71) rfl) rfl⟩
theorem mt_X12_rise : o_mt yX12_rise cX12_rise 2 (some .int) 1 := ⟨o_wT (o_c7 (i := 76) rfl) rfl, o_wT (o_c1 (i := 17) rfl) rfl, by decide, by decide, by decide +kernel⟩
theorem in_X12_rise : o_in yX12_rise := ⟨o_wT (o_c7 (i := 74) rfl) rfl, o_wT (o_c7 (i := 75) rfl) rfl⟩
theorem mt_X12_due : o_mt yX12_due cX12_due 5 (some .long) 4 := ⟨o_wT (o_c7 (i := 80) rfl) rfl, o_wT (o_c1 (i := 17) rfl) rfl, by decide, by decide, by decide +kernel⟩
theorem in_X12_due : o_in yX12_due := ⟨o_wT (o_c7 (i := 78) rfl) rfl, o_wT (o_c7 (i := 79) rfl) rfl⟩
theorem mt_X12_dueOf : o_mt yX12_dueOf cX12_dueOf 12 (some .long) 4 := ⟨o_wT (o_c7 (i := 84) rfl) rfl, o_wT (o_c1 (i := 17) rfl) rfl, by decide, by decide, by decide +kernel⟩
theorem in_X12_dueOf : o_in yX12_dueOf := ⟨o_wT (o_c7 (i := 83) rfl) rfl, o_wS (i := 93) (by decide +kernel) rfl⟩
theorem mt_X12_waits : o_mt yX12_waits cX12_waits 2 (some .int) 1 := ⟨o_wT (o_c7 (i := 90) rfl) rfl, o_wT (o_c1 (i := 17) rfl) rfl, by decide, by decide, by decide +kernel⟩
theorem in_X12_waits : o_in yX12_waits := ⟨o_wT (o_c7 (i := 88) rfl) rfl, o_wT (o_c7 (i := 89) rfl) rfl⟩
theorem mt_X12_orders : o_mt yX12_orders cX12_orders 8 (some .int) 1 := ⟨o_wT (o_c7 (i := 94) rfl) rfl, o_wT (o_c1 (i := 17) rfl) rfl, by decide, by decide, by decide +kernel⟩
theorem in_X12_orders : o_in yX12_orders := ⟨o_wT (o_c7 (i := 93) rfl) rfl, o_wS (i := 94) (by decide +kernel) rfl⟩
theorem mt_X12_isOrder : o_mt yX12_isOrder cX12_isOrder 9 (some .boolean) 3 := ⟨o_wT (o_c7 (i := 98) rfl) rfl, o_wT (o_c1 (i := 17) rfl) rfl, by decide, by decide, by decide +kernel⟩
theorem in_X12_isOrder : o_in yX12_isOrder := ⟨o_wT (o_c7 (i := 97) rfl) rfl, o_wS (i := 95) (by decide +kernel) rfl⟩
theorem mt_X12_waitOf : o_mt yX12_waitOf cX12_waitOf 7 (some .int) 1 := ⟨o_wT (o_c7 (i := 102) rfl) rfl, o_wT (o_c1 (i := 17) rfl) rfl, by decide, by decide, by decide +kernel⟩
theorem in_X12_waitOf : o_in yX12_waitOf := ⟨o_wT (o_c7 (i := 101) rfl) rfl, o_wS (i := 96) (by decide +kernel) rfl⟩
theorem mt_X12_order : o_mt yX12_order cX12_order 4 (some .int) 2 := ⟨o_wT (o_c7 (i := 106) rfl) rfl, o_wT (o_c1 (i := 17) rfl) rfl, by decide, by decide, by decide +kernel⟩
theorem in_X12_order : o_in yX12_order := ⟨o_wT (o_c7 (i := 104) rfl) rfl, o_wT (o_c7 (i := 105) rfl) rfl⟩
theorem mt_X12_programme : o_mt yX12_programme cX12_programme 6 (some .int) 3 := ⟨o_wT (o_c7 (i := 110) rfl) rfl, o_wT (o_c1 (i := 17) rfl) rfl, by decide, by decide, by decide +kernel⟩
theorem in_X12_programme : o_in yX12_programme := ⟨o_wT (o_c7 (i := 108) rfl) rfl, o_wT (o_c7 (i := 109) rfl) rfl⟩
theorem mt_X12_isProgramme : o_mt yX12_isProgramme cX12_isProgramme 9 (some .boolean) 4 := ⟨o_wT (o_c7 (i := 114) rfl) rfl, o_wT (o_c1 (i := 17) rfl) rfl, by decide, by decide, by decide +kernel⟩
theorem in_X12_isProgramme : o_in yX12_isProgramme := ⟨o_wT (o_c7 (i := 113) rfl) rfl, o_wS (i := 97) (by decide +kernel) rfl⟩
theorem mt_X12_isBefore : o_mt yX12_isBefore cX12_isBefore 4 (some .boolean) 2 := ⟨o_wT (o_c7 (i := 118) rfl) rfl, o_wT (o_c1 (i := 17) rfl) rfl, by decide, by decide, by decide +kernel⟩
theorem in_X12_isBefore : o_in yX12_isBefore := ⟨o_wT (o_c7 (i := 117) rfl) rfl, o_wS (i := 98) (by decide +kernel) rfl⟩
theorem mt_X12_priceOf : o_mt yX12_priceOf cX12_priceOf 4 (some .int) 1 := ⟨o_wT (o_c7 (i := 122) rfl) rfl, o_wT (o_c1 (i := 17) rfl) rfl, by decide, by decide, by decide +kernel⟩
theorem in_X12_priceOf : o_in yX12_priceOf := ⟨o_wT (o_c7 (i := 121) rfl) rfl, o_wS (i := 99) (by decide +kernel) rfl⟩
theorem mt_X12_price : o_mt yX12_price cX12_price 2 (some .int) 1 := ⟨o_wT (o_c7 (i := 126) rfl) rfl, o_wT (o_c1 (i := 17) rfl) rfl, by decide, by decide, by decide +kernel⟩
theorem in_X12_price : o_in yX12_price := ⟨o_wT (o_c7 (i := 124) rfl) rfl, o_wT (o_c7 (i := 125) rfl) rfl⟩
theorem mt_X12_count : o_mt yX12_count cX12_count 4 (some .int) 1 := ⟨o_wT (o_c7 (i := 130) rfl) rfl, o_wT (o_c1 (i := 17) rfl) rfl, by decide, by decide, by decide +kernel⟩
theorem in_X12_count : o_in yX12_count := ⟨o_wT (o_c7 (i := 128) rfl) rfl, o_wT (o_c7 (i := 129) rfl) rfl⟩
theorem mt_X12_put : o_mt yX12_put cX12_put 8 (some .int) 3 := ⟨o_wT (o_c7 (i := 134) rfl) rfl, o_wT (o_c1 (i := 17) rfl) rfl, by decide, by decide, by decide +kernel⟩
theorem in_X12_put : o_in yX12_put := ⟨o_wT (o_c7 (i := 132) rfl) rfl, o_wT (o_c7 (i := 133) rfl) rfl⟩
theorem mt_X12_refuse : o_mt yX12_refuse cX12_refuse 2 (some .int) 1 := ⟨o_wT (o_c7 (i := 138) rfl) rfl, o_wT (o_c1 (i := 17) rfl) rfl, by decide, by decide, by decide +kernel⟩
theorem in_X12_refuse : o_in yX12_refuse := ⟨o_wT (o_c7 (i := 137) rfl) rfl, o_wS (i := 100) (by decide +kernel) rfl⟩
theorem mt_X12_done : o_mt yX12_done cX12_done 2 (some .int) 1 := ⟨o_wT (o_c7 (i := 142) rfl) rfl, o_wT (o_c1 (i := 17) rfl) rfl, by decide, by decide, by decide +kernel⟩
theorem in_X12_done : o_in yX12_done := ⟨o_wT (o_c7 (i := 141) rfl) rfl, o_wS (i := 101) (by decide +kernel) rfl⟩
theorem mt_X12_forge : o_mt yX12_forge cX12_forge 4 (some .int) 3 := ⟨o_wT (o_c7 (i := 146) rfl) rfl, o_wT (o_c1 (i := 17) rfl) rfl, by decide, by decide, by decide +kernel⟩
theorem in_X12_forge : o_in yX12_forge := ⟨o_wT (o_c7 (i := 144) rfl) rfl, o_wT (o_c7 (i := 145) rfl) rfl⟩
theorem mt_X12_asService : o_mt yX12_asService cX12_asService 5 (some .int) 3 := ⟨o_wT (o_c7 (i := 150) rfl) rfl, o_wT (o_c1 (i := 17) rfl) rfl, by decide, by decide, by decide +kernel⟩
theorem in_X12_asService : o_in yX12_asService := ⟨o_wT (o_c7 (i := 149) rfl) rfl, o_wS (i := 102) (by decide +kernel) rfl⟩
theorem mt_X12_isUnder : o_mt yX12_isUnder cX12_isUnder 2 (some .boolean) 2 := ⟨o_wT (o_c7 (i := 153) rfl) rfl, o_wT (o_c1 (i := 17) rfl) rfl, by decide, by decide, by decide +kernel⟩
theorem is_X12_isUnder : Cond.static yX12_isUnder ∈ o_T := o_wT (o_c7 (i := 152) rfl) rfl
theorem mt_X12_asRow : o_mt yX12_asRow cX12_asRow 4 (some .int) 3 := ⟨o_wT (o_c7 (i := 157) rfl) rfl, o_wT (o_c1 (i := 17) rfl) rfl, by decide, by decide, by decide +kernel⟩
theorem in_X12_asRow : o_in yX12_asRow := ⟨o_wT (o_c7 (i := 156) rfl) rfl, o_wS (i := 103) (by decide +kernel) rfl⟩
theorem mt_X12_copied : o_mt yX12_copied cX12_copied 6 (some .int) 2 := ⟨o_wT (o_c7 (i := 161) rfl) rfl, o_wT (o_c1 (i := 17) rfl) rfl, by decide, by decide, by decide +kernel⟩
theorem in_X12_copied : o_in yX12_copied := ⟨o_wT (o_c7 (i := 160) rfl) rfl, o_wS (i := 104) (by decide +kernel) rfl⟩
theorem mt_X12_status : o_mt yX12_status cX12_status 1 (some .int) 0 := ⟨o_wT (o_c7 (i := 165) rfl) rfl, o_wT (o_c1 (i := 17) rfl) rfl, by decide, by decide, by decide +kernel⟩
theorem in_X12_status : o_in yX12_status := ⟨o_wT (o_c7 (i := 163) rfl) rfl, o_wT (o_c7 (i := 164) rfl) rfl⟩
theorem lkL_9 : o_lk RL 9 yX11_init := Or.inl (o_wT (o_c1 (i := 23) rfl) rfl)
theorem loX11_1 : Cond.methodLink RX11 1 Lib.objectInit ∈ o_T := o_wT (o_c1 (i := 26) rfl) rfl
theorem loX3_3 : Cond.methodLink RX3 3 Lib.objectInit ∈ o_T := o_wT (o_c1 (i := 44) rfl) rfl
theorem loX4_3 : Cond.methodLink RX4 3 Lib.objectInit ∈ o_T := o_wT (o_c1 (i := 93) rfl) rfl
theorem loX5_3 : Cond.methodLink RX5 3 Lib.objectInit ∈ o_T := o_wT (o_c1 (i := 110) rfl) rfl
theorem loX1_3 : Cond.methodLink RX1 3 Lib.objectInit ∈ o_T := o_wT (o_c1 (i := 139) rfl) rfl
theorem loX0_3 : Cond.methodLink RX0 3 Lib.objectInit ∈ o_T := o_wT (o_c1 (i := 160) rfl) rfl
theorem loX9_3 : Cond.methodLink RX9 3 Lib.objectInit ∈ o_T := o_wT (o_c1 (i := 175) rfl) rfl
theorem lkX11_103 : o_lk RX11 103 yJ0_length_8abf5 := Or.inl (o_wT (o_c1 (i := 202) rfl) rfl)
theorem lkJ0_335 : o_lk RJ0 335 yJ0_coder_7d493 := Or.inl (o_wT (o_c1 (i := 206) rfl) rfl)
theorem lkX11_109 : o_lk RX11 109 yJ0_charAt_5068e := Or.inl (o_wT (o_c1 (i := 212) rfl) rfl)
theorem lkJ0_492 : o_lk RJ0 492 yJ0_isLatin1_aae02 := Or.inl (o_wT (o_c1 (i := 216) rfl) rfl)
theorem lkJ0_495 : o_lk RJ0 495 yJ1_charAt_3b067 := Or.inl (o_wT (o_c1 (i := 220) rfl) rfl)
theorem lkJ1_9 : o_lk RJ1 9 yJ0_checkIndex_df160 := Or.inl (o_wT (o_c1 (i := 223) rfl) rfl)
theorem lkJ0_1059 : o_lk RJ0 1059 yJ3_checkIndex_8e157 := Or.inl (o_wT (o_c1 (i := 228) rfl) rfl)
theorem lkJ0_498 : o_lk RJ0 498 yJ2_charAt_3b067 := Or.inl (o_wT (o_c1 (i := 231) rfl) rfl)
theorem lkJ2_67 : o_lk RJ2 67 yJ2_checkIndex_2214a := Or.inl (o_wT (o_c1 (i := 234) rfl) rfl)
theorem lkJ2_48 : o_lk RJ2 48 yJ2_length_9d52b := Or.inl (o_wT (o_c1 (i := 237) rfl) rfl)
theorem lkJ2_414 : o_lk RJ2 414 yJ0_checkIndex_df160 := Or.inl (o_wT (o_c2 (i := 0) rfl) rfl)
theorem lkJ2_71 : o_lk RJ2 71 yJ2_getChar_3b067 := Or.inl (o_wT (o_c2 (i := 1) rfl) rfl)
theorem lkX11_113 : o_lk RX11 113 yX3_readTape := Or.inl (o_wT (o_c2 (i := 10) rfl) rfl)
theorem lkX3_52 : o_lk RX3 52 yX3_advance := Or.inl (o_wT (o_c2 (i := 14) rfl) rfl)
theorem lkX3_93 : o_lk RX3 93 yX3_isBlank := Or.inl (o_wT (o_c2 (i := 18) rfl) rfl)
theorem lkX3_97 : o_lk RX3 97 yX3_isLetter := Or.inl (o_wT (o_c2 (i := 21) rfl) rfl)
theorem lkX3_100 : o_lk RX3 100 yX3_takeWord := Or.inl (o_wT (o_c2 (i := 24) rfl) rfl)
theorem lkX3_112 : o_lk RX3 112 yX3_spells := Or.inl (o_wT (o_c2 (i := 28) rfl) rfl)
theorem lkX3_118 : o_lk RX3 118 yJ0_charAt_5068e := Or.inl (o_wT (o_c2 (i := 33) rfl) rfl)
theorem lkX3_103 : o_lk RX3 103 yX3_isDigit := Or.inl (o_wT (o_c2 (i := 34) rfl) rfl)
theorem lkX3_106 : o_lk RX3 106 yX3_takeNumber := Or.inl (o_wT (o_c2 (i := 37) rfl) rfl)
theorem lkX3_109 : o_lk RX3 109 yX3_takeSign := Or.inl (o_wT (o_c2 (i := 41) rfl) rfl)
theorem lkX3_126 : o_lk RX3 126 yJ0_indexOf_0f7a4 := Or.inl (o_wT (o_c2 (i := 46) rfl) rfl)
theorem lkJ0_633 : o_lk RJ0 633 yJ0_indexOf_7cf53 := Or.inl (o_wT (o_c2 (i := 50) rfl) rfl)
theorem lkJ0_505 : o_lk RJ0 505 yJ0_length_8abf5 := Or.inl (o_wT (o_c2 (i := 54) rfl) rfl)
theorem lkJ0_637 : o_lk RJ0 637 yJ1_indexOf_4cfef := Or.inl (o_wT (o_c2 (i := 55) rfl) rfl)
theorem lkJ1_88 : o_lk RJ1 88 yJ1_canEncode_9a6ad := Or.inl (o_wT (o_c2 (i := 58) rfl) rfl)
theorem lkJ1_92 : o_lk RJ1 92 yJ9_max_7cf53 := Or.inl (o_wT (o_c2 (i := 61) rfl) rfl)
theorem lkJ1_38 : o_lk RJ1 38 yJ9_min_7cf53 := Or.inl (o_wT (o_c2 (i := 64) rfl) rfl)
theorem lkJ1_95 : o_lk RJ1 95 yJ1_indexOfChar_4cfef := Or.inl (o_wT (o_c2 (i := 67) rfl) rfl)
theorem lkJ0_640 : o_lk RJ0 640 yJ2_indexOf_4cfef := Or.inl (o_wT (o_c2 (i := 70) rfl) rfl)
theorem lkJ2_224 : o_lk RJ2 224 yJ9_max_7cf53 := Or.inl (o_wT (o_c2 (i := 73) rfl) rfl)
theorem lkJ2_183 : o_lk RJ2 183 yJ9_min_7cf53 := Or.inl (o_wT (o_c2 (i := 74) rfl) rfl)
theorem lkJ2_228 : o_lk RJ2 228 yJ2_indexOfChar_4cfef := Or.inl (o_wT (o_c2 (i := 76) rfl) rfl)
theorem lkJ2_96 : o_lk RJ2 96 yJ2_checkBoundsBeginEnd_d044e := Or.inl (o_wT (o_c2 (i := 79) rfl) rfl)
theorem lkJ2_241 : o_lk RJ2 241 yJ0_checkBoundsBeginEnd_23922 := Or.inl (o_wT (o_c2 (i := 82) rfl) rfl)
theorem lkJ0_1062 : o_lk RJ0 1062 yJ3_checkFromToIndex_8c36e := Or.inl (o_wT (o_c2 (i := 85) rfl) rfl)
theorem lkJ2_244 : o_lk RJ2 244 yJ2_indexOfCharUnsafe_4cfef := Or.inl (o_wT (o_c2 (i := 88) rfl) rfl)
theorem lkJ2_232 : o_lk RJ2 232 yJ2_indexOfSupplementary_4cfef := Or.inl (o_wT (o_c2 (i := 91) rfl) rfl)
theorem lkJ2_164 : o_lk RJ2 164 yJ11_isValidCodePoint_9a6ad := Or.inl (o_wT (o_c2 (i := 94) rfl) rfl)
theorem lkJ2_157 : o_lk RJ2 157 yJ11_highSurrogate_5068e := Or.inl (o_wT (o_c2 (i := 97) rfl) rfl)
theorem lkJ2_161 : o_lk RJ2 161 yJ11_lowSurrogate_5068e := Or.inl (o_wT (o_c2 (i := 101) rfl) rfl)
theorem lkX3_55 : o_lk RX3 55 yX3_readPart := Or.inl (o_wT (o_c2 (i := 105) rfl) rfl)
theorem lkX3_59 : o_lk RX3 59 yX3_expect := Or.inl (o_wT (o_c2 (i := 109) rfl) rfl)
theorem lkX3_90 : o_lk RX3 90 yX3_fail := Or.inl (o_wT (o_c2 (i := 113) rfl) rfl)
theorem lkX3_62 : o_lk RX3 62 yX3_readOr := Or.inl (o_wT (o_c2 (i := 117) rfl) rfl)
theorem lkX3_65 : o_lk RX3 65 yX3_readAnd := Or.inl (o_wT (o_c2 (i := 121) rfl) rfl)
theorem lkX3_71 : o_lk RX3 71 yX3_readNot := Or.inl (o_wT (o_c2 (i := 125) rfl) rfl)
theorem lkX3_74 : o_lk RX3 74 yX3_openOne := Or.inl (o_wT (o_c2 (i := 129) rfl) rfl)
theorem lkX3_68 : o_lk RX3 68 yX3_emitToken := Or.inl (o_wT (o_c2 (i := 133) rfl) rfl)
theorem lkX3_87 : o_lk RX3 87 yX3_emit := Or.inl (o_wT (o_c2 (i := 137) rfl) rfl)
theorem lkX3_78 : o_lk RX3 78 yX3_readSum := Or.inl (o_wT (o_c2 (i := 141) rfl) rfl)
theorem lkX3_81 : o_lk RX3 81 yX3_readTerm := Or.inl (o_wT (o_c2 (i := 145) rfl) rfl)
theorem lkX3_84 : o_lk RX3 84 yX3_readOne := Or.inl (o_wT (o_c2 (i := 149) rfl) rfl)
theorem lkX11_117 : o_lk RX11 117 yX11_keepReadText := Or.inl (o_wT (o_c2 (i := 153) rfl) rfl)
theorem lkX11_363 : o_lk RX11 363 yJ7_copyOf_9075b := Or.inl (o_wT (o_c2 (i := 157) rfl) rfl)
theorem lkJ7_304 : o_lk RJ7 304 yJ9_min_7cf53 := Or.inl (o_wT (o_c2 (i := 167) rfl) rfl)
theorem lkX11_375 : o_lk RX11 375 yJ7_copyOf_59c91 := Or.inl (o_wT (o_c2 (i := 171) rfl) rfl)
theorem lkX11_384 : o_lk RX11 384 yX7_init := Or.inl (o_wT (o_c2 (i := 180) rfl) rfl)
theorem loX7_1 : Cond.methodLink RX7 1 Lib.objectInit ∈ o_T := o_wT (o_c2 (i := 183) rfl) rfl
theorem lkX11_120 : o_lk RX11 120 yX11_tellForce := Or.inl (o_wT (o_c2 (i := 208) rfl) rfl)
theorem lkL_13 : o_lk RL 13 yX11_work := Or.inl (o_wT (o_c3 (i := 27) rfl) rfl)
theorem lkX11_124 : o_lk RX11 124 yX11_isWithin := Or.inl (o_wT (o_c3 (i := 31) rfl) rfl)
theorem lkX11_128 : o_lk RX11 128 yX10_init := Or.inl (o_wT (o_c3 (i := 35) rfl) rfl)
theorem loX10_3 : Cond.methodLink RX10 3 Lib.objectInit ∈ o_T := o_wT (o_c3 (i := 38) rfl) rfl
theorem lkL_18 : o_lk RL 18 yX11_score := Or.inl (o_wT (o_c3 (i := 67) rfl) rfl)
theorem lkX11_131 : o_lk RX11 131 yX11_findWork := Or.inl (o_wT (o_c3 (i := 71) rfl) rfl)
theorem lkX11_135 : o_lk RX11 135 yX11_isSpan := Or.inl (o_wT (o_c3 (i := 75) rfl) rfl)
theorem lkX11_167 : o_lk RX11 167 yX11_isDay := Or.inl (o_wT (o_c3 (i := 78) rfl) rfl)
theorem lkL_23 : o_lk RL 23 yX11_player := Or.inl (o_wT (o_c3 (i := 81) rfl) rfl)
theorem lkX11_148 : o_lk RX11 148 yX11_isInstrument := Or.inl (o_wT (o_c3 (i := 85) rfl) rfl)
theorem lkX11_152 : o_lk RX11 152 yX2_init := Or.inl (o_wT (o_c3 (i := 89) rfl) rfl)
theorem loX2_3 : Cond.methodLink RX2 3 Lib.objectInit ∈ o_T := o_wT (o_c3 (i := 92) rfl) rfl
theorem lkL_27 : o_lk RL 27 yX11_leave := Or.inl (o_wT (o_c3 (i := 118) rfl) rfl)
theorem lkX11_153 : o_lk RX11 153 yX11_findPlayer := Or.inl (o_wT (o_c3 (i := 122) rfl) rfl)
theorem lkX11_160 : o_lk RX11 160 yX2_addLeave := Or.inl (o_wT (o_c3 (i := 126) rfl) rfl)
theorem lkL_31 : o_lk RL 31 yX11_service := Or.inl (o_wT (o_c3 (i := 130) rfl) rfl)
theorem lkX11_170 : o_lk RX11 170 yX6_init := Or.inl (o_wT (o_c3 (i := 137) rfl) rfl)
theorem loX6_3 : Cond.methodLink RX6 3 Lib.objectInit ∈ o_T := o_wT (o_c3 (i := 140) rfl) rfl
theorem lkL_35 : o_lk RL 35 yX11_call := Or.inl (o_wT (o_c3 (i := 195) rfl) rfl)
theorem lkX11_173 : o_lk RX11 173 yX11_findService := Or.inl (o_wT (o_c3 (i := 199) rfl) rfl)
theorem lkX11_181 : o_lk RX11 181 yX6_hasWork := Or.inl (o_wT (o_c3 (i := 203) rfl) rfl)
theorem lkX11_184 : o_lk RX11 184 yX6_chairsWith := Or.inl (o_wT (o_c3 (i := 207) rfl) rfl)
theorem lkX6_79 : o_lk RX6 79 yX6_needWith := Or.inl (o_wT (o_c3 (i := 211) rfl) rfl)
theorem lkX6_64 : o_lk RX6 64 yX10_needOf := Or.inl (o_wT (o_c3 (i := 215) rfl) rfl)
theorem lkX6_70 : o_lk RX6 70 yJ9_min_7cf53 := Or.inl (o_wT (o_c3 (i := 219) rfl) rfl)
theorem lkX6_76 : o_lk RX6 76 yJ9_max_7cf53 := Or.inl (o_wT (o_c3 (i := 220) rfl) rfl)
theorem lkX11_189 : o_lk RX11 189 yX6_addWork := Or.inl (o_wT (o_c3 (i := 221) rfl) rfl)
theorem lkX6_83 : o_lk RX6 83 yX6_chairsWith := Or.inl (o_wT (o_c3 (i := 225) rfl) rfl)
theorem lkL_40 : o_lk RL 40 yX11_workTold := Or.inl (o_wT (o_c3 (i := 226) rfl) rfl)
theorem lkL_44 : o_lk RL 44 yX11_played := Or.inl (o_wT (o_c3 (i := 230) rfl) rfl)
theorem lkX11_202 : o_lk RX11 202 yX10_canBePlayed := Or.inl (o_wT (o_c3 (i := 234) rfl) rfl)
theorem lkL_48 : o_lk RL 48 yX11_playerTold := Or.inl (o_wT (o_c3 (i := 239) rfl) rfl)
theorem lkX11_214 : o_lk RX11 214 yX11_countSittings := Or.inl (o_wT (o_c4 (i := 3) rfl) rfl)
theorem lkX11_360 : o_lk RX11 360 yX6_sits := Or.inl (o_wT (o_c4 (i := 7) rfl) rfl)
theorem lkL_52 : o_lk RL 52 yX11_serviceTold := Or.inl (o_wT (o_c4 (i := 11) rfl) rfl)
theorem lkX11_235 : o_lk RX11 235 yX6_workAt := Or.inl (o_wT (o_c4 (i := 15) rfl) rfl)
theorem lkL_58 : o_lk RL 58 yX11_feed := Or.inl (o_wT (o_c4 (i := 20) rfl) rfl)
theorem lkL_63 : o_lk RL 63 yX11_text := Or.inl (o_wT (o_c4 (i := 24) rfl) rfl)
theorem lkL_68 : o_lk RL 68 yX11_force := Or.inl (o_wT (o_c4 (i := 28) rfl) rfl)
theorem lkL_72 : o_lk RL 72 yX11_inForce := Or.inl (o_wT (o_c4 (i := 32) rfl) rfl)
theorem lkX11_238 : o_lk RX11 238 yX11_findInForce := Or.inl (o_wT (o_c4 (i := 36) rfl) rfl)
theorem lkL_77 : o_lk RL 77 yX11_may := Or.inl (o_wT (o_c4 (i := 40) rfl) rfl)
theorem lkX11_241 : o_lk RX11 241 yX11_findHindrance := Or.inl (o_wT (o_c4 (i := 44) rfl) rfl)
theorem lkX11_411 : o_lk RX11 411 yX2_plays := Or.inl (o_wT (o_c4 (i := 48) rfl) rfl)
theorem lkX11_295 : o_lk RX11 295 yX2_hasLeave := Or.inl (o_wT (o_c4 (i := 52) rfl) rfl)
theorem lkX11_414 : o_lk RX11 414 yX11_sitsInMeeting := Or.inl (o_wT (o_c4 (i := 57) rfl) rfl)
theorem lkX11_418 : o_lk RX11 418 yX6_meets := Or.inl (o_wT (o_c4 (i := 61) rfl) rfl)
theorem lkX6_54 : o_lk RX6 54 yX6_ends := Or.inl (o_wT (o_c4 (i := 65) rfl) rfl)
theorem lkX6_50 : o_lk RX6 50 yX6_begins := Or.inl (o_wT (o_c4 (i := 69) rfl) rfl)
theorem lkX11_250 : o_lk RX11 250 yX11_learn := Or.inl (o_wT (o_c4 (i := 73) rfl) rfl)
theorem lkX11_393 : o_lk RX11 393 yX6_ends := Or.inl (o_wT (o_c4 (i := 77) rfl) rfl)
theorem lkX11_395 : o_lk RX11 395 yX6_begins := Or.inl (o_wT (o_c4 (i := 78) rfl) rfl)
theorem lkX11_398 : o_lk RX11 398 yJ9_min_7cf53 := Or.inl (o_wT (o_c4 (i := 79) rfl) rfl)
theorem lkX11_401 : o_lk RX11 401 yX4_learnService := Or.inl (o_wT (o_c4 (i := 80) rfl) rfl)
theorem lkX11_404 : o_lk RX11 404 yX4_learnPlayer := Or.inl (o_wT (o_c4 (i := 84) rfl) rfl)
theorem lkX11_408 : o_lk RX11 408 yX4_learnSittings := Or.inl (o_wT (o_c4 (i := 88) rfl) rfl)
theorem lkX11_254 : o_lk RX11 254 yX4_reckon := Or.inl (o_wT (o_c4 (i := 92) rfl) rfl)
theorem lkX4_46 : o_lk RX4 46 yX7_endOf := Or.inl (o_wT (o_c4 (i := 96) rfl) rfl)
theorem lkX7_36 : o_lk RX7 36 yJ9_min_7cf53 := Or.inl (o_wT (o_c4 (i := 101) rfl) rfl)
theorem lkX4_52 : o_lk RX4 52 yX7_startOf := Or.inl (o_wT (o_c4 (i := 102) rfl) rfl)
theorem lkX4_59 : o_lk RX4 59 yX4_step := Or.inl (o_wT (o_c4 (i := 106) rfl) rfl)
theorem lkX4_67 : o_lk RX4 67 yX4_push := Or.inl (o_wT (o_c4 (i := 110) rfl) rfl)
theorem lkX4_63 : o_lk RX4 63 yX4_pop := Or.inl (o_wT (o_c4 (i := 114) rfl) rfl)
theorem lkX4_71 : o_lk RX4 71 yX4_join := Or.inl (o_wT (o_c4 (i := 118) rfl) rfl)
theorem lkL_81 : o_lk RL 81 yX11_worth := Or.inl (o_wT (o_c4 (i := 121) rfl) rfl)
theorem lkL_86 : o_lk RL 86 yX11_gaps := Or.inl (o_wT (o_c4 (i := 126) rfl) rfl)
theorem lkX11_258 : o_lk RX11 258 yX11_findSeating := Or.inl (o_wT (o_c4 (i := 130) rfl) rfl)
theorem lkX11_422 : o_lk RX11 422 yX5_begin := Or.inl (o_wT (o_c4 (i := 134) rfl) rfl)
theorem lkX5_34 : o_lk RX5 34 yJ9_min_7cf53 := Or.inl (o_wT (o_c4 (i := 138) rfl) rfl)
theorem lkX5_40 : o_lk RX5 40 yJ7_fill_53178 := Or.inl (o_wT (o_c4 (i := 139) rfl) rfl)
theorem lkX11_426 : o_lk RX11 426 yX11_findFitting := Or.inl (o_wT (o_c4 (i := 142) rfl) rfl)
theorem lkX11_430 : o_lk RX11 430 yX5_allow := Or.inl (o_wT (o_c4 (i := 146) rfl) rfl)
theorem lkX11_433 : o_lk RX11 433 yX5_seatAll := Or.inl (o_wT (o_c4 (i := 151) rfl) rfl)
theorem lkX5_50 : o_lk RX5 50 yX5_seatOneMore := Or.inl (o_wT (o_c4 (i := 155) rfl) rfl)
theorem lkX5_58 : o_lk RX5 58 yX5_moveAlong := Or.inl (o_wT (o_c4 (i := 159) rfl) rfl)
theorem lkX5_54 : o_lk RX5 54 yX5_settle := Or.inl (o_wT (o_c4 (i := 163) rfl) rfl)
theorem lkX5_61 : o_lk RX5 61 yX5_canTake := Or.inl (o_wT (o_c4 (i := 167) rfl) rfl)
theorem lkX11_262 : o_lk RX11 262 yX5_countGaps := Or.inl (o_wT (o_c4 (i := 171) rfl) rfl)
theorem lkL_90 : o_lk RL 90 yX11_chair := Or.inl (o_wT (o_c4 (i := 175) rfl) rfl)
theorem lkL_95 : o_lk RL 95 yX11_seat := Or.inl (o_wT (o_c4 (i := 179) rfl) rfl)
theorem lkX11_271 : o_lk RX11 271 yX6_sitDown := Or.inl (o_wT (o_c4 (i := 183) rfl) rfl)
theorem lkL_99 : o_lk RL 99 yX11_rise := Or.inl (o_wT (o_c4 (i := 187) rfl) rfl)
theorem lkX11_275 : o_lk RX11 275 yX6_standUp := Or.inl (o_wT (o_c4 (i := 191) rfl) rfl)
theorem lkL_103 : o_lk RL 103 yX11_due := Or.inl (o_wT (o_c4 (i := 195) rfl) rfl)
theorem lkX11_278 : o_lk RX11 278 yX11_sumDue := Or.inl (o_wT (o_c4 (i := 199) rfl) rfl)
theorem lkX11_436 : o_lk RX11 436 yX11_findDue := Or.inl (o_wT (o_c4 (i := 203) rfl) rfl)
theorem lkX11_440 : o_lk RX11 440 yX6_instrumentOf := Or.inl (o_wT (o_c4 (i := 207) rfl) rfl)
theorem lkL_107 : o_lk RL 107 yX11_waits := Or.inl (o_wT (o_c4 (i := 212) rfl) rfl)
theorem lkX11_282 : o_lk RX11 282 yX1_findOrder := Or.inl (o_wT (o_c4 (i := 216) rfl) rfl)
theorem lkX1_25 : o_lk RX1 25 yX1_begin := Or.inl (o_wT (o_c4 (i := 220) rfl) rfl)
theorem lkX1_30 : o_lk RX1 30 yX1_sumWait := Or.inl (o_wT (o_c4 (i := 225) rfl) rfl)
theorem lkX1_55 : o_lk RX1 55 yX1_minutesBetween := Or.inl (o_wT (o_c4 (i := 229) rfl) rfl)
theorem lkX1_59 : o_lk RX1 59 yX10_needOf := Or.inl (o_wT (o_c4 (i := 233) rfl) rfl)
theorem lkX1_40 : o_lk RX1 40 yX1_nextOrder := Or.inl (o_wT (o_c4 (i := 235) rfl) rfl)
theorem lkX1_68 : o_lk RX1 68 yX1_swap := Or.inl (o_wT (o_c4 (i := 239) rfl) rfl)
theorem lkL_111 : o_lk RL 111 yX11_order := Or.inl (o_wT (o_c5 (i := 3) rfl) rfl)
theorem lkL_115 : o_lk RL 115 yX11_programme := Or.inl (o_wT (o_c5 (i := 7) rfl) rfl)
theorem lkX11_292 : o_lk RX11 292 yX0_begin := Or.inl (o_wT (o_c5 (i := 11) rfl) rfl)
theorem lkX0_22 : o_lk RX0 22 yJ7_fill_53178 := Or.inl (o_wT (o_c5 (i := 15) rfl) rfl)
theorem lkX11_298 : o_lk RX11 298 yX0_addPost := Or.inl (o_wT (o_c5 (i := 17) rfl) rfl)
theorem lkX11_302 : o_lk RX11 302 yX0_addWork := Or.inl (o_wT (o_c5 (i := 21) rfl) rfl)
theorem lkX0_29 : o_lk RX0 29 yX10_needOf := Or.inl (o_wT (o_c5 (i := 25) rfl) rfl)
theorem lkX0_38 : o_lk RX0 38 yX0_bitOf := Or.inl (o_wT (o_c5 (i := 26) rfl) rfl)
theorem lkX0_44 : o_lk RX0 44 yJ9_min_7cf53 := Or.inl (o_wT (o_c5 (i := 29) rfl) rfl)
theorem lkX11_303 : o_lk RX11 303 yX0_choose := Or.inl (o_wT (o_c5 (i := 30) rfl) rfl)
theorem lkX0_50 : o_lk RX0 50 yJ9_max_7cf53 := Or.inl (o_wT (o_c5 (i := 34) rfl) rfl)
theorem lkX0_53 : o_lk RX0 53 yX0_setOf := Or.inl (o_wT (o_c5 (i := 35) rfl) rfl)
theorem lkL_119 : o_lk RL 119 yX11_price := Or.inl (o_wT (o_c5 (i := 38) rfl) rfl)
theorem lkL_123 : o_lk RL 123 yX11_count := Or.inl (o_wT (o_c5 (i := 42) rfl) rfl)
theorem lkX11_307 : o_lk RX11 307 yX11_countSeated := Or.inl (o_wT (o_c5 (i := 46) rfl) rfl)
theorem lkX11_310 : o_lk RX11 310 yX11_countSeatedGaps := Or.inl (o_wT (o_c5 (i := 50) rfl) rfl)
theorem lkL_127 : o_lk RL 127 yX11_put := Or.inl (o_wT (o_c5 (i := 54) rfl) rfl)
theorem lkX11_313 : o_lk RX11 313 yX11_isPuttable := Or.inl (o_wT (o_c5 (i := 58) rfl) rfl)
theorem lkX11_316 : o_lk RX11 316 yX11_hostRefuses := Or.inl (o_wT (o_c5 (i := 62) rfl) rfl)
theorem lkX11_326 : o_lk RX11 326 yX11_putBytes := Or.inl (o_wT (o_c5 (i := 66) rfl) rfl)
theorem lkX11_330 : o_lk RX11 330 yX11_putPays := Or.inl (o_wT (o_c5 (i := 70) rfl) rfl)
theorem lkX11_334 : o_lk RX11 334 yX11_putTruths := Or.inl (o_wT (o_c5 (i := 74) rfl) rfl)
theorem lkX11_337 : o_lk RX11 337 yX11_hostAnswers := Or.inl (o_wT (o_c5 (i := 78) rfl) rfl)
theorem lkL_131 : o_lk RL 131 yX11_forge := Or.inl (o_wT (o_c5 (i := 82) rfl) rfl)
theorem lkX11_340 : o_lk RX11 340 yJ9_floorMod_7cf53 := Or.inl (o_wT (o_c5 (i := 86) rfl) rfl)
theorem lkX11_345 : o_lk RX11 345 yX11_forgeDay := Or.inl (o_wT (o_c5 (i := 89) rfl) rfl)
theorem lkX11_459 : o_lk RX11 459 yX9_holdsKind := Or.inl (o_wT (o_c5 (i := 93) rfl) rfl)
theorem lkX9_37 : o_lk RX9 37 yX6_isOfKind := Or.inl (o_wT (o_c5 (i := 97) rfl) rfl)
theorem lkX11_349 : o_lk RX11 349 yX11_forgePlace := Or.inl (o_wT (o_c5 (i := 102) rfl) rfl)
theorem lkX11_462 : o_lk RX11 462 yX9_elementAt := Or.inl (o_wT (o_c5 (i := 106) rfl) rfl)
theorem lkX11_353 : o_lk RX11 353 yX11_forgeCopy := Or.inl (o_wT (o_c5 (i := 111) rfl) rfl)
theorem lkX11_356 : o_lk RX11 356 yX11_forgeLaid := Or.inl (o_wT (o_c5 (i := 115) rfl) rfl)
theorem lkL_135 : o_lk RL 135 yX11_status := Or.inl (o_wT (o_c5 (i := 119) rfl) rfl)
theorem lkL_12 : o_lk RL 12 yX12_init := Or.inl (o_wT (o_c5 (i := 125) rfl) rfl)
theorem loX12_1 : Cond.methodLink RX12 1 Lib.objectInit ∈ o_T := o_wT (o_c5 (i := 128) rfl) rfl
theorem lkX12_141 : o_lk RX12 141 yX12_reads := Or.inl (o_wT (o_c5 (i := 129) rfl) rfl)
theorem lkX12_243 : o_lk RX12 243 yX12_next := Or.inl (o_wT (o_c5 (i := 133) rfl) rfl)
theorem lkX12_209 : o_lk RX12 209 yX12_byteAt := Or.inl (o_wT (o_c5 (i := 137) rfl) rfl)
theorem lkX12_218 : o_lk RX12 218 yX12_isLetter := Or.inl (o_wT (o_c5 (i := 141) rfl) rfl)
theorem lkX12_221 : o_lk RX12 221 yX12_word := Or.inl (o_wT (o_c5 (i := 144) rfl) rfl)
theorem lkX12_224 : o_lk RX12 224 yX12_isDigit := Or.inl (o_wT (o_c5 (i := 148) rfl) rfl)
theorem lkX12_227 : o_lk RX12 227 yX12_number := Or.inl (o_wT (o_c5 (i := 151) rfl) rfl)
theorem lkX12_236 : o_lk RX12 236 yX12_isWrong := Or.inl (o_wT (o_c5 (i := 155) rfl) rfl)
theorem lkX12_240 : o_lk RX12 240 yX12_cannot := Or.inl (o_wT (o_c5 (i := 159) rfl) rfl)
theorem lkX12_252 : o_lk RX12 252 yX12_told := Or.inl (o_wT (o_c5 (i := 163) rfl) rfl)
theorem lkX12_254 : o_lk RX12 254 yX12_need_ := Or.inl (o_wT (o_c5 (i := 167) rfl) rfl)
theorem lkX12_256 : o_lk RX12 256 yX12_either := Or.inl (o_wT (o_c5 (i := 171) rfl) rfl)
theorem lkX12_259 : o_lk RX12 259 yX12_both := Or.inl (o_wT (o_c5 (i := 175) rfl) rfl)
theorem lkX12_266 : o_lk RX12 266 yX12_not := Or.inl (o_wT (o_c5 (i := 179) rfl) rfl)
theorem lkX12_269 : o_lk RX12 269 yX12_opens := Or.inl (o_wT (o_c5 (i := 183) rfl) rfl)
theorem lkX12_262 : o_lk RX12 262 yX12_emit := Or.inl (o_wT (o_c5 (i := 187) rfl) rfl)
theorem lkX12_272 : o_lk RX12 272 yX12_sum := Or.inl (o_wT (o_c5 (i := 191) rfl) rfl)
theorem lkX12_275 : o_lk RX12 275 yX12_term := Or.inl (o_wT (o_c5 (i := 195) rfl) rfl)
theorem lkX12_278 : o_lk RX12 278 yX12_one := Or.inl (o_wT (o_c5 (i := 199) rfl) rfl)
theorem lkL_17 : o_lk RL 17 yX12_work := Or.inl (o_wT (o_c6 (i := 139) rfl) rfl)
theorem lkX12_155 : o_lk RX12 155 yX12_in := Or.inl (o_wT (o_c6 (i := 143) rfl) rfl)
theorem lkL_22 : o_lk RL 22 yX12_score := Or.inl (o_wT (o_c6 (i := 146) rfl) rfl)
theorem lkX12_165 : o_lk RX12 165 yX12_isWork := Or.inl (o_wT (o_c6 (i := 150) rfl) rfl)
theorem lkX12_169 : o_lk RX12 169 yX12_isDay := Or.inl (o_wT (o_c6 (i := 154) rfl) rfl)
theorem lkL_43 : o_lk RL 43 yX12_workTold := Or.inl (o_wT (o_c6 (i := 157) rfl) rfl)
theorem lkL_47 : o_lk RL 47 yX12_played := Or.inl (o_wT (o_c6 (i := 161) rfl) rfl)
theorem lkX12_172 : o_lk RX12 172 yX12_isPlayed := Or.inl (o_wT (o_c6 (i := 165) rfl) rfl)
theorem lkL_26 : o_lk RL 26 yX12_player := Or.inl (o_wT (o_c6 (i := 169) rfl) rfl)
theorem lkX12_176 : o_lk RX12 176 yX12_isInstrument := Or.inl (o_wT (o_c6 (i := 173) rfl) rfl)
theorem lkL_30 : o_lk RL 30 yX12_leave := Or.inl (o_wT (o_c6 (i := 176) rfl) rfl)
theorem lkX12_179 : o_lk RX12 179 yX12_isPlayer := Or.inl (o_wT (o_c6 (i := 180) rfl) rfl)
theorem lkL_51 : o_lk RL 51 yX12_playerTold := Or.inl (o_wT (o_c6 (i := 184) rfl) rfl)
theorem lkX12_182 : o_lk RX12 182 yX12_chairOf := Or.inl (o_wT (o_c6 (i := 188) rfl) rfl)
theorem lkL_34 : o_lk RL 34 yX12_service := Or.inl (o_wT (o_c6 (i := 192) rfl) rfl)
theorem lkL_39 : o_lk RL 39 yX12_call := Or.inl (o_wT (o_c6 (i := 196) rfl) rfl)
theorem lkX12_193 : o_lk RX12 193 yX12_isService := Or.inl (o_wT (o_c6 (i := 200) rfl) rfl)
theorem lkX12_196 : o_lk RX12 196 yX12_chairs := Or.inl (o_wT (o_c6 (i := 204) rfl) rfl)
theorem lkX12_189 : o_lk RX12 189 yX12_need := Or.inl (o_wT (o_c6 (i := 208) rfl) rfl)
theorem lkX12_186 : o_lk RX12 186 yX12_needOf := Or.inl (o_wT (o_c6 (i := 212) rfl) rfl)
theorem lkL_55 : o_lk RL 55 yX12_serviceTold := Or.inl (o_wT (o_c6 (i := 216) rfl) rfl)
theorem lkX12_199 : o_lk RX12 199 yX12_gapsIn := Or.inl (o_wT (o_c6 (i := 220) rfl) rfl)
theorem lkL_62 : o_lk RL 62 yX12_feed := Or.inl (o_wT (o_c6 (i := 224) rfl) rfl)
theorem lkL_67 : o_lk RL 67 yX12_text := Or.inl (o_wT (o_c6 (i := 229) rfl) rfl)
theorem lkL_71 : o_lk RL 71 yX12_force := Or.inl (o_wT (o_c6 (i := 233) rfl) rfl)
theorem lkL_76 : o_lk RL 76 yX12_inForce := Or.inl (o_wT (o_c6 (i := 237) rfl) rfl)
theorem lkX12_306 : o_lk RX12 306 yX12_textOn := Or.inl (o_wT (o_c7 (i := 1) rfl) rfl)
theorem lkL_80 : o_lk RL 80 yX12_may := Or.inl (o_wT (o_c7 (i := 5) rfl) rfl)
theorem lkX12_316 : o_lk RX12 316 yX12_hinders := Or.inl (o_wT (o_c7 (i := 9) rfl) rfl)
theorem lkX12_309 : o_lk RX12 309 yX12_isAway := Or.inl (o_wT (o_c7 (i := 13) rfl) rfl)
theorem lkX12_284 : o_lk RX12 284 yX12_ends := Or.inl (o_wT (o_c7 (i := 17) rfl) rfl)
theorem lkX12_281 : o_lk RX12 281 yX12_begins := Or.inl (o_wT (o_c7 (i := 21) rfl) rfl)
theorem lkX12_312 : o_lk RX12 312 yX12_worthOf := Or.inl (o_wT (o_c7 (i := 25) rfl) rfl)
theorem lkX12_293 : o_lk RX12 293 yX12_named := Or.inl (o_wT (o_c7 (i := 29) rfl) rfl)
theorem lkX12_287 : o_lk RX12 287 yX12_week := Or.inl (o_wT (o_c7 (i := 33) rfl) rfl)
theorem lkX12_290 : o_lk RX12 290 yX12_rest := Or.inl (o_wT (o_c7 (i := 37) rfl) rfl)
theorem lkX12_297 : o_lk RX12 297 yX12_two := Or.inl (o_wT (o_c7 (i := 41) rfl) rfl)
theorem lkL_85 : o_lk RL 85 yX12_worth := Or.inl (o_wT (o_c7 (i := 44) rfl) rfl)
theorem lkL_89 : o_lk RL 89 yX12_gaps := Or.inl (o_wT (o_c7 (i := 49) rfl) rfl)
theorem lkX12_327 : o_lk RX12 327 yX12_seats := Or.inl (o_wT (o_c7 (i := 53) rfl) rfl)
theorem lkX12_321 : o_lk RX12 321 yX12_instrumentOf := Or.inl (o_wT (o_c7 (i := 57) rfl) rfl)
theorem lkX12_324 : o_lk RX12 324 yX12_choice := Or.inl (o_wT (o_c7 (i := 61) rfl) rfl)
theorem lkL_94 : o_lk RL 94 yX12_chair := Or.inl (o_wT (o_c7 (i := 65) rfl) rfl)
theorem lkL_98 : o_lk RL 98 yX12_seat := Or.inl (o_wT (o_c7 (i := 69) rfl) rfl)
theorem lkL_102 : o_lk RL 102 yX12_rise := Or.inl (o_wT (o_c7 (i := 73) rfl) rfl)
theorem lkL_106 : o_lk RL 106 yX12_due := Or.inl (o_wT (o_c7 (i := 77) rfl) rfl)
theorem lkX12_334 : o_lk RX12 334 yX12_dueOf := Or.inl (o_wT (o_c7 (i := 81) rfl) rfl)
theorem lkL_110 : o_lk RL 110 yX12_waits := Or.inl (o_wT (o_c7 (i := 87) rfl) rfl)
theorem lkX12_344 : o_lk RX12 344 yX12_orders := Or.inl (o_wT (o_c7 (i := 91) rfl) rfl)
theorem lkX12_338 : o_lk RX12 338 yX12_isOrder := Or.inl (o_wT (o_c7 (i := 95) rfl) rfl)
theorem lkX12_341 : o_lk RX12 341 yX12_waitOf := Or.inl (o_wT (o_c7 (i := 99) rfl) rfl)
theorem lkL_114 : o_lk RL 114 yX12_order := Or.inl (o_wT (o_c7 (i := 103) rfl) rfl)
theorem lkL_118 : o_lk RL 118 yX12_programme := Or.inl (o_wT (o_c7 (i := 107) rfl) rfl)
theorem lkX12_347 : o_lk RX12 347 yX12_isProgramme := Or.inl (o_wT (o_c7 (i := 111) rfl) rfl)
theorem lkX12_351 : o_lk RX12 351 yX12_isBefore := Or.inl (o_wT (o_c7 (i := 115) rfl) rfl)
theorem lkX12_354 : o_lk RX12 354 yX12_priceOf := Or.inl (o_wT (o_c7 (i := 119) rfl) rfl)
theorem lkL_122 : o_lk RL 122 yX12_price := Or.inl (o_wT (o_c7 (i := 123) rfl) rfl)
theorem lkL_126 : o_lk RL 126 yX12_count := Or.inl (o_wT (o_c7 (i := 127) rfl) rfl)
theorem lkL_130 : o_lk RL 130 yX12_put := Or.inl (o_wT (o_c7 (i := 131) rfl) rfl)
theorem lkX12_360 : o_lk RX12 360 yX12_refuse := Or.inl (o_wT (o_c7 (i := 135) rfl) rfl)
theorem lkX12_363 : o_lk RX12 363 yX12_done := Or.inl (o_wT (o_c7 (i := 139) rfl) rfl)
theorem lkL_134 : o_lk RL 134 yX12_forge := Or.inl (o_wT (o_c7 (i := 143) rfl) rfl)
theorem lkX12_369 : o_lk RX12 369 yX12_asService := Or.inl (o_wT (o_c7 (i := 147) rfl) rfl)
theorem lkX12_366 : o_lk RX12 366 yX12_isUnder := Or.inl (o_wT (o_c7 (i := 151) rfl) rfl)
theorem lkX12_372 : o_lk RX12 372 yX12_asRow := Or.inl (o_wT (o_c7 (i := 154) rfl) rfl)
theorem lkX12_375 : o_lk RX12 375 yX12_copied := Or.inl (o_wT (o_c7 (i := 158) rfl) rfl)
theorem lkL_138 : o_lk RL 138 yX12_status := Or.inl (o_wT (o_c7 (i := 162) rfl) rfl)
theorem lkX11_45 : o_lk RX11 45 yX3_init := Or.inr ⟨"OrchestraYear", o_wN (o_c1 (i := 41) rfl) rfl⟩
theorem lkX11_52 : o_lk RX11 52 yX4_init := Or.inr ⟨"OrchestraYear", o_wN (o_c1 (i := 90) rfl) rfl⟩
theorem lkX11_59 : o_lk RX11 59 yX5_init := Or.inr ⟨"OrchestraYear", o_wN (o_c1 (i := 107) rfl) rfl⟩
theorem lkX11_66 : o_lk RX11 66 yX1_init := Or.inr ⟨"OrchestraYear", o_wN (o_c1 (i := 136) rfl) rfl⟩
theorem lkX11_73 : o_lk RX11 73 yX0_init := Or.inr ⟨"OrchestraYear", o_wN (o_c1 (i := 157) rfl) rfl⟩
theorem lkX11_100 : o_lk RX11 100 yX9_init := Or.inr ⟨"OrchestraYear", o_wN (o_c1 (i := 172) rfl) rfl⟩
theorem lkX10_30 : o_lk RX10 30 yX11_isWithin := Or.inr ⟨"OrchestraYear", o_wN (o_c3 (i := 238) rfl) rfl⟩
theorem lkX6_60 : o_lk RX6 60 yX11_isWithin := Or.inr ⟨"OrchestraYear", o_wN (o_c4 (i := 19) rfl) rfl⟩
theorem lkX2_31 : o_lk RX2 31 yX11_isWithin := Or.inr ⟨"OrchestraYear", o_wN (o_c4 (i := 56) rfl) rfl⟩
theorem lkX7_30 : o_lk RX7 30 yX11_isWithin := Or.inr ⟨"OrchestraYear", o_wN (o_c4 (i := 100) rfl) rfl⟩
theorem lkX5_46 : o_lk RX5 46 yX11_isWithin := Or.inr ⟨"OrchestraYear", o_wN (o_c4 (i := 150) rfl) rfl⟩
theorem lkX9_33 : o_lk RX9 33 yX11_isWithin := Or.inr ⟨"OrchestraYear", o_wN (o_c5 (i := 110) rfl) rfl⟩
theorem kcJ2_227 : Cond.constant RJ2 227 (65536) ∈ o_T := o_wT (o_c2 (i := 75) rfl) rfl
theorem kcJ11_110 : Cond.constant RJ11 110 (55232) ∈ o_T := o_wT (o_c2 (i := 100) rfl) rfl
theorem kcJ11_76 : Cond.constant RJ11 76 (56320) ∈ o_T := o_wT (o_c2 (i := 104) rfl) rfl
theorem kcX1_29 : Cond.constant RX1 29 (1073741824) ∈ o_T := o_wT (o_c4 (i := 224) rfl) rfl
theorem kcX0_28 : Cond.constant RX0 28 (1073741824) ∈ o_T := o_wT (o_c5 (i := 16) rfl) rfl
theorem kcX11_245 : Cond.constantLong RX11 245 (-4611686018427387904) ∈ o_T := o_wT (o_c4 (i := 125) rfl) rfl
theorem kcX11_443 : Cond.constantLong RX11 443 (2) ∈ o_T := o_wT (o_c4 (i := 211) rfl) rfl
theorem kcX12_304 : Cond.constantLong RX12 304 (255) ∈ o_T := o_wT (o_c6 (i := 228) rfl) rfl
theorem kcX12_319 : Cond.constantLong RX12 319 (-4611686018427387904) ∈ o_T := o_wT (o_c7 (i := 48) rfl) rfl
theorem kcX12_330 : Cond.constantLong RX12 330 (2) ∈ o_T := o_wT (o_c7 (i := 85) rfl) rfl
theorem kcX12_332 : Cond.constantLong RX12 332 (5) ∈ o_T := o_wT (o_c7 (i := 86) rfl) rfl
theorem kcL_56 : Cond.constantLong RL 56 (4294967295) ∈ o_T := o_wT (o_c7 (i := 166) rfl) rfl
theorem clL_7 : Cond.classLink RL 7 RX11 ∈ o_T := o_wT (o_c1 (i := 21) rfl) rfl
theorem clX11_9 : Cond.classLink RX11 9 RX10 ∈ o_T := o_wT (o_c1 (i := 29) rfl) rfl
theorem clX11_15 : Cond.classLink RX11 15 RX2 ∈ o_T := o_wT (o_c1 (i := 31) rfl) rfl
theorem clX11_21 : Cond.classLink RX11 21 RX6 ∈ o_T := o_wT (o_c1 (i := 33) rfl) rfl
theorem clX11_27 : Cond.classLink RX11 27 RX7 ∈ o_T := o_wT (o_c1 (i := 35) rfl) rfl
theorem clX11_33 : Cond.classLink RX11 33 RX9 ∈ o_T := o_wT (o_c1 (i := 37) rfl) rfl
theorem clX11_43 : Cond.classLink RX11 43 RX3 ∈ o_T := o_wT (o_c1 (i := 39) rfl) rfl
theorem clX11_50 : Cond.classLink RX11 50 RX4 ∈ o_T := o_wT (o_c1 (i := 88) rfl) rfl
theorem clX11_57 : Cond.classLink RX11 57 RX5 ∈ o_T := o_wT (o_c1 (i := 105) rfl) rfl
theorem clX11_64 : Cond.classLink RX11 64 RX1 ∈ o_T := o_wT (o_c1 (i := 134) rfl) rfl
theorem clX11_71 : Cond.classLink RX11 71 RX0 ∈ o_T := o_wT (o_c1 (i := 155) rfl) rfl
theorem clJ7_311 : Cond.classLink RJ7 311 "[B" ∈ o_T := o_wT (o_c2 (i := 166) rfl) rfl
theorem clJ7_317 : Cond.classLink RJ7 317 "[I" ∈ o_T := o_wT (o_c2 (i := 178) rfl) rfl
theorem clL_10 : Cond.classLink RL 10 RX12 ∈ o_T := o_wT (o_c5 (i := 123) rfl) rfl
theorem itX11 : Cond.instantiable RX11 18 ∈ o_T := o_wT (o_c1 (i := 22) rfl) rfl
theorem itX3 : Cond.instantiable RX3 12 ∈ o_T := o_wT (o_c1 (i := 40) rfl) rfl
theorem itX4 : Cond.instantiable RX4 3 ∈ o_T := o_wT (o_c1 (i := 89) rfl) rfl
theorem itX5 : Cond.instantiable RX5 7 ∈ o_T := o_wT (o_c1 (i := 106) rfl) rfl
theorem itX1 : Cond.instantiable RX1 4 ∈ o_T := o_wT (o_c1 (i := 135) rfl) rfl
theorem itX0 : Cond.instantiable RX0 3 ∈ o_T := o_wT (o_c1 (i := 156) rfl) rfl
theorem itX9 : Cond.instantiable RX9 6 ∈ o_T := o_wT (o_c1 (i := 171) rfl) rfl
theorem itX7 : Cond.instantiable RX7 6 ∈ o_T := o_wT (o_c2 (i := 179) rfl) rfl
theorem itX10 : Cond.instantiable RX10 6 ∈ o_T := o_wT (o_c3 (i := 34) rfl) rfl
theorem itX2 : Cond.instantiable RX2 6 ∈ o_T := o_wT (o_c3 (i := 88) rfl) rfl
theorem itX6 : Cond.instantiable RX6 12 ∈ o_T := o_wT (o_c3 (i := 136) rfl) rfl
theorem itX12 : Cond.instantiable RX12 58 ∈ o_T := o_wT (o_c5 (i := 124) rfl) rfl
theorem izL : Cond.initialized RL ∈ o_T := o_wT (o_c1 (i := 0) rfl) rfl
theorem izX11 : Cond.initialized RX11 ∈ o_T := o_wT (o_c1 (i := 1) rfl) rfl
theorem izX3 : Cond.initialized RX3 ∈ o_T := o_wT (o_c1 (i := 2) rfl) rfl
theorem izX4 : Cond.initialized RX4 ∈ o_T := o_wT (o_c1 (i := 3) rfl) rfl
theorem izX5 : Cond.initialized RX5 ∈ o_T := o_wT (o_c1 (i := 4) rfl) rfl
theorem izX1 : Cond.initialized RX1 ∈ o_T := o_wT (o_c1 (i := 5) rfl) rfl
theorem izX0 : Cond.initialized RX0 ∈ o_T := o_wT (o_c1 (i := 6) rfl) rfl
theorem izX9 : Cond.initialized RX9 ∈ o_T := o_wT (o_c1 (i := 7) rfl) rfl
theorem izJ0 : Cond.initialized RJ0 ∈ o_T := o_wT (o_c1 (i := 8) rfl) rfl
theorem izJ1 : Cond.initialized RJ1 ∈ o_T := o_wT (o_c1 (i := 9) rfl) rfl
theorem izJ3 : Cond.initialized RJ3 ∈ o_T := o_wT (o_c1 (i := 10) rfl) rfl
theorem izJ2 : Cond.initialized RJ2 ∈ o_T := o_wT (o_c1 (i := 11) rfl) rfl
theorem izJ9 : Cond.initialized RJ9 ∈ o_T := o_wT (o_c1 (i := 12) rfl) rfl
theorem izJ11 : Cond.initialized RJ11 ∈ o_T := o_wT (o_c1 (i := 13) rfl) rfl
theorem izJ7 : Cond.initialized RJ7 ∈ o_T := o_wT (o_c1 (i := 14) rfl) rfl
theorem izJ10 : Cond.initialized RJ10 ∈ o_T := o_wT (o_c1 (i := 15) rfl) rfl
theorem izX7 : Cond.initialized RX7 ∈ o_T := o_wT (o_c1 (i := 16) rfl) rfl
theorem izX12 : Cond.initialized RX12 ∈ o_T := o_wT (o_c1 (i := 17) rfl) rfl
theorem izX10 : Cond.initialized RX10 ∈ o_T := o_wT (o_c1 (i := 18) rfl) rfl
theorem izX2 : Cond.initialized RX2 ∈ o_T := o_wT (o_c1 (i := 19) rfl) rfl
theorem izX6 : Cond.initialized RX6 ∈ o_T := o_wT (o_c1 (i := 20) rfl) rfl
theorem ac_byte : Cond.arrayClass .byte ∈ o_T := o_wT (o_c1 (i := 86) rfl) rfl
theorem ac_int : Cond.arrayClass .int ∈ o_T := o_wT (o_c1 (i := 87) rfl) rfl
theorem ac_long : Cond.arrayClass .long ∈ o_T := o_wT (o_c1 (i := 104) rfl) rfl
theorem ac_boolean : Cond.arrayClass .boolean ∈ o_T := o_wT (o_c6 (i := 138) rfl) rfl
theorem oi_1 : Cond.instanceMethod Lib.objectInit ∈ o_T := o_wT (o_c1 (i := 27) rfl) rfl
theorem oi_2 : Cond.code Lib.objectInit ⟨#[0xb1]⟩ 1 none ∈ o_T := o_wT (o_c1 (i := 28) rfl) rfl
theorem kaX : Cond.fieldLink RX11 163 "OrchestraYear" "KIND_ABOVE" "[I" ∈ o_T := o_wT (o_c3 (i := 134) rfl) rfl
theorem kaN : Cond.fieldLinkNest RX6 57 "OrchestraYear" "KIND_ABOVE" "[I" "OrchestraYear" ∈ o_N := o_wN (o_c5 (i := 101) rfl) rfl
theorem wc_2 : Cond.native arraycopyName ∈ o_T := o_wT (o_c2 (i := 170) rfl) rfl
theorem wc_3 : Cond.static arraycopyName ∈ o_T := o_wT (o_c2 (i := 169) rfl) rfl
theorem wc_4 : Cond.initialized "java/lang/System" ∈ o_T := o_wT (o_c1 (i := 15) rfl) rfl
theorem wcJ7_150 : Cond.methodLink RJ7 150 arraycopyName ∈ o_T := o_wT (o_c2 (i := 168) rfl) rfl
theorem wcX1_34 : Cond.methodLink RX1 34 arraycopyName ∈ o_T := o_wT (o_c4 (i := 234) rfl) rfl
