theorem ab_in0 : ∀ w ∈ u_ws RJx4a65c TJx4a65c 3, w ∈ lw_g := by
  intro w hw
  obtain ⟨k, hk, rfl⟩ := List.mem_map.mp hw
  have hk := List.mem_range.mp hk
  have key : ∀ k, k < 3 → lw_tbl[([136, 132, 134] : List Nat).getD k 0]? = some (u_lay RJx4a65c TJx4a65c k) ∧ goodWord (u_lay RJx4a65c TJx4a65c k) = true := by decide +kernel
  exact lw_g_of (key k hk).1 (key k hk).2
theorem ab_k0 : ab_K 0 RJx4a65c TJx4a65c 3 := ⟨rfl, rfl, ab_in0, tyJx4a65c_ok, nmJx4a65c, by decide⟩
theorem ab_in1 : ∀ w ∈ u_ws RX0 TX0 4, w ∈ lw_g := by
  intro w hw
  obtain ⟨k, hk, rfl⟩ := List.mem_map.mp hw
  have hk := List.mem_range.mp hk
  have key : ∀ k, k < 4 → lw_tbl[([154, 156, 158, 160] : List Nat).getD k 0]? = some (u_lay RX0 TX0 k) ∧ goodWord (u_lay RX0 TX0 k) = true := by decide +kernel
  exact lw_g_of (key k hk).1 (key k hk).2
theorem ab_k1 : ab_K 1 RX0 TX0 4 := ⟨rfl, rfl, ab_in1, tyX0_ok, nmX0, by decide⟩
theorem ab_in2 : ∀ w ∈ u_ws RX1 TX1 1, w ∈ lw_g := by
  intro w hw
  obtain ⟨k, hk, rfl⟩ := List.mem_map.mp hw
  have hk := List.mem_range.mp hk
  have key : ∀ k, k < 1 → lw_tbl[([140] : List Nat).getD k 0]? = some (u_lay RX1 TX1 k) ∧ goodWord (u_lay RX1 TX1 k) = true := by decide +kernel
  exact lw_g_of (key k hk).1 (key k hk).2
theorem ab_k2 : ab_K 2 RX1 TX1 1 := ⟨rfl, rfl, ab_in2, tyX1_ok, nmX1, by decide⟩
theorem ab_in3 : ∀ w ∈ u_ws RX2 TX2 12, w ∈ lw_g := by
  intro w hw
  obtain ⟨k, hk, rfl⟩ := List.mem_map.mp hw
  have hk := List.mem_range.mp hk
  have key : ∀ k, k < 12 → lw_tbl[([215, 217, 219, 221, 223, 225, 227, 229, 231, 233, 235, 237] : List Nat).getD k 0]? = some (u_lay RX2 TX2 k) ∧ goodWord (u_lay RX2 TX2 k) = true := by decide +kernel
  exact lw_g_of (key k hk).1 (key k hk).2
theorem ab_k3 : ab_K 3 RX2 TX2 12 := ⟨rfl, rfl, ab_in3, tyX2_ok, nmX2, by decide⟩
theorem ab_in4 : ∀ w ∈ u_ws RX3 TX3 5, w ∈ lw_g := by
  intro w hw
  obtain ⟨k, hk, rfl⟩ := List.mem_map.mp hw
  have hk := List.mem_range.mp hk
  have key : ∀ k, k < 5 → lw_tbl[([175, 177, 179, 181, 183] : List Nat).getD k 0]? = some (u_lay RX3 TX3 k) ∧ goodWord (u_lay RX3 TX3 k) = true := by decide +kernel
  exact lw_g_of (key k hk).1 (key k hk).2
theorem ab_k4 : ab_K 4 RX3 TX3 5 := ⟨rfl, rfl, ab_in4, tyX3_ok, nmX3, by decide⟩
theorem ab_in5 : ∀ w ∈ u_ws RX4 TX4 4, w ∈ lw_g := by
  intro w hw
  obtain ⟨k, hk, rfl⟩ := List.mem_map.mp hw
  have hk := List.mem_range.mp hk
  have key : ∀ k, k < 4 → lw_tbl[([96, 98, 100, 102] : List Nat).getD k 0]? = some (u_lay RX4 TX4 k) ∧ goodWord (u_lay RX4 TX4 k) = true := by decide +kernel
  exact lw_g_of (key k hk).1 (key k hk).2
theorem ab_k5 : ab_K 5 RX4 TX4 4 := ⟨rfl, rfl, ab_in5, tyX4_ok, nmX4, by decide⟩
theorem ab_in6 : ∀ w ∈ u_ws RX5 TX5 4, w ∈ lw_g := by
  intro w hw
  obtain ⟨k, hk, rfl⟩ := List.mem_map.mp hw
  have hk := List.mem_range.mp hk
  have key : ∀ k, k < 4 → lw_tbl[([692, 694, 696, 698] : List Nat).getD k 0]? = some (u_lay RX5 TX5 k) ∧ goodWord (u_lay RX5 TX5 k) = true := by decide +kernel
  exact lw_g_of (key k hk).1 (key k hk).2
theorem ab_k6 : ab_K 6 RX5 TX5 4 := ⟨rfl, rfl, ab_in6, tyX5_ok, nmX5, by decide⟩
theorem ab_in7 : ∀ w ∈ u_ws RX6 TX6 10, w ∈ lw_g := by
  intro w hw
  obtain ⟨k, hk, rfl⟩ := List.mem_map.mp hw
  have hk := List.mem_range.mp hk
  have key : ∀ k, k < 10 → lw_tbl[([250, 252, 254, 256, 258, 260, 262, 264, 266, 268] : List Nat).getD k 0]? = some (u_lay RX6 TX6 k) ∧ goodWord (u_lay RX6 TX6 k) = true := by decide +kernel
  exact lw_g_of (key k hk).1 (key k hk).2
theorem ab_k7 : ab_K 7 RX6 TX6 10 := ⟨rfl, rfl, ab_in7, tyX6_ok, nmX6, by decide⟩
theorem ab_in8 : ∀ w ∈ u_ws RX7 TX7 41, w ∈ lw_g := by
  intro w hw
  obtain ⟨k, hk, rfl⟩ := List.mem_map.mp hw
  have hk := List.mem_range.mp hk
  have key : ∀ k, k < 41 → lw_tbl[([866, 868, 870, 872, 874, 876, 878, 880, 882, 884, 886, 888, 890, 892, 894, 896, 898, 900, 902, 904, 906, 908, 910, 912, 914, 916, 918, 920, 922, 924, 926, 928, 930, 932, 934, 936, 938, 940, 942, 944, 946] : List Nat).getD k 0]? = some (u_lay RX7 TX7 k) ∧ goodWord (u_lay RX7 TX7 k) = true := by decide +kernel
  exact lw_g_of (key k hk).1 (key k hk).2
theorem ab_k8 : ab_K 8 RX7 TX7 41 := ⟨rfl, rfl, ab_in8, tyX7_ok, nmX7, by decide⟩
theorem ini_LevelStoreLaw : Cond.initialized "LevelStoreLaw" ∈ lw_g := lw_g_of (i := 51) (by decide +kernel) (by decide +kernel)
theorem ini_LevelStore : Cond.initialized "LevelStore" ∈ lw_g := lw_g_of (i := 52) (by decide +kernel) (by decide +kernel)
theorem ini_Row : Cond.initialized "LevelStore$Row" ∈ lw_g := lw_g_of (i := 53) (by decide +kernel) (by decide +kernel)
theorem ini_Math : Cond.initialized "java/lang/Math" ∈ lw_g := lw_g_of (i := 54) (by decide +kernel) (by decide +kernel)
theorem ini_FileRow : Cond.initialized "LevelStore$FileRow" ∈ lw_g := lw_g_of (i := 55) (by decide +kernel) (by decide +kernel)
theorem ini_AbstractCollection : Cond.initialized "java/util/AbstractCollection" ∈ lw_g := lw_g_of (i := 56) (by decide +kernel) (by decide +kernel)
theorem ini_AbstractList : Cond.initialized "java/util/AbstractList" ∈ lw_g := lw_g_of (i := 57) (by decide +kernel) (by decide +kernel)
theorem ini_ArrayList : Cond.initialized "java/util/ArrayList" ∈ lw_g := lw_g_of (i := 58) (by decide +kernel) (by decide +kernel)
theorem ini_Field : Cond.initialized "LevelStore$Field" ∈ lw_g := lw_g_of (i := 59) (by decide +kernel) (by decide +kernel)
theorem ini_Reading : Cond.initialized "LevelStore$Reading" ∈ lw_g := lw_g_of (i := 60) (by decide +kernel) (by decide +kernel)
theorem ini_Job : Cond.initialized "LevelStore$Job" ∈ lw_g := lw_g_of (i := 61) (by decide +kernel) (by decide +kernel)
theorem ini_LevelStoreModel : Cond.initialized "LevelStoreModel" ∈ lw_g := lw_g_of (i := 62) (by decide +kernel) (by decide +kernel)
theorem ini_Objects : Cond.initialized "java/util/Objects" ∈ lw_g := lw_g_of (i := 63) (by decide +kernel) (by decide +kernel)
theorem ini_Preconditions : Cond.initialized "jdk/internal/util/Preconditions" ∈ lw_g := lw_g_of (i := 64) (by decide +kernel) (by decide +kernel)
theorem ini_System : Cond.initialized "java/lang/System" ∈ lw_g := lw_g_of (i := 65) (by decide +kernel) (by decide +kernel)
theorem ini_ArraysSupport : Cond.initialized "jdk/internal/util/ArraysSupport" ∈ lw_g := lw_g_of (i := 66) (by decide +kernel) (by decide +kernel)
theorem ini_Arrays : Cond.initialized "java/util/Arrays" ∈ lw_g := lw_g_of (i := 67) (by decide +kernel) (by decide +kernel)
theorem ini_SortedFile : Cond.initialized "LevelStore$SortedFile" ∈ lw_g := lw_g_of (i := 68) (by decide +kernel) (by decide +kernel)
theorem cl_LevelStoreLaw_7 : Cond.classLink "LevelStoreLaw" 7 "LevelStore" ∈ lw_g := lw_g_of (i := 69) (by decide +kernel) (by decide +kernel)
theorem in_LevelStore : Cond.instantiable "LevelStore" 10 ∈ lw_g := lw_g_of (i := 70) (by decide +kernel) (by decide +kernel)
theorem ml_LevelStoreLaw_9 : Cond.methodLink "LevelStoreLaw" 9 yX6_init ∈ lw_g := lw_g_of (i := 71) (by decide +kernel) (by decide +kernel)
theorem im_X6_init : Cond.instanceMethod yX6_init ∈ lw_g := lw_g_of (i := 72) (by decide +kernel) (by decide +kernel)
theorem ml_LevelStore_3 : Cond.methodLink "LevelStore" 3 Lib.objectInit ∈ lw_g := lw_g_of (i := 74) (by decide +kernel) (by decide +kernel)
theorem im_objInit : Cond.instanceMethod Lib.objectInit ∈ lw_g := lw_g_of (i := 75) (by decide +kernel) (by decide +kernel)
theorem cl_LevelStore_9 : Cond.classLink "LevelStore" 9 "LevelStore$Row" ∈ lw_g := lw_g_of (i := 77) (by decide +kernel) (by decide +kernel)
theorem in_Row : Cond.instantiable "LevelStore$Row" 4 ∈ lw_g := lw_g_of (i := 78) (by decide +kernel) (by decide +kernel)
theorem ml_LevelStore_11 : Cond.methodLink "LevelStore" 11 yX4_init ∈ lw_g := lw_g_of (i := 79) (by decide +kernel) (by decide +kernel)
theorem im_X4_init : Cond.instanceMethod yX4_init ∈ lw_g := lw_g_of (i := 80) (by decide +kernel) (by decide +kernel)
theorem ml_Row_3 : Cond.methodLink "LevelStore$Row" 3 Lib.objectInit ∈ lw_g := lw_g_of (i := 82) (by decide +kernel) (by decide +kernel)
theorem ml_Row_9 : Cond.methodLink "LevelStore$Row" 9 yJ9_max_7cf53 ∈ lw_g := lw_g_of (i := 83) (by decide +kernel) (by decide +kernel)
theorem sm_J9_max_7cf53 : Cond.static yJ9_max_7cf53 ∈ lw_g := lw_g_of (i := 84) (by decide +kernel) (by decide +kernel)
theorem fl_Row_15 : ab_FL "LevelStore$Row" 15 5 0 RX4 TX4 4 := ⟨ab_k5, by decide, "LevelStore$Row", lw_g_of (i := 86) (by decide +kernel) (by decide +kernel), Or.inl rfl⟩
theorem fl_Row_21 : ab_FL "LevelStore$Row" 21 5 1 RX4 TX4 4 := ⟨ab_k5, by decide, "LevelStore$Row", lw_g_of (i := 87) (by decide +kernel) (by decide +kernel), Or.inl rfl⟩
theorem fl_Row_24 : ab_FL "LevelStore$Row" 24 5 2 RX4 TX4 4 := ⟨ab_k5, by decide, "LevelStore$Row", lw_g_of (i := 88) (by decide +kernel) (by decide +kernel), Or.inl rfl⟩
theorem fl_Row_27 : ab_FL "LevelStore$Row" 27 5 3 RX4 TX4 4 := ⟨ab_k5, by decide, "LevelStore$Row", lw_g_of (i := 89) (by decide +kernel) (by decide +kernel), Or.inl rfl⟩
theorem fl_SortedFile_24 : ab_FL "LevelStore$SortedFile" 24 5 3 RX4 TX4 4 := ⟨ab_k5, by decide, "LevelStore$Row", lw_g_of (i := 90) (by decide +kernel) (by decide +kernel), Or.inl rfl⟩
theorem fl_Job_45 : ab_FL "LevelStore$Job" 45 5 3 RX4 TX4 4 := ⟨ab_k5, by decide, "LevelStore$Row", lw_g_of (i := 91) (by decide +kernel) (by decide +kernel), Or.inl rfl⟩
theorem fl_LevelStore_66 : ab_FL "LevelStore" 66 5 3 RX4 TX4 4 := ⟨ab_k5, by decide, "LevelStore$Row", lw_g_of (i := 92) (by decide +kernel) (by decide +kernel), Or.inl rfl⟩
theorem fl_Reading_47 : ab_FL "LevelStore$Reading" 47 5 3 RX4 TX4 4 := ⟨ab_k5, by decide, "LevelStore$Row", lw_g_of (i := 93) (by decide +kernel) (by decide +kernel), Or.inl rfl⟩
theorem fl_Field_54 : ab_FL "LevelStore$Field" 54 5 3 RX4 TX4 4 := ⟨ab_k5, by decide, "LevelStore$Row", lw_g_of (i := 94) (by decide +kernel) (by decide +kernel), Or.inl rfl⟩
theorem fl_FileRow_84 : ab_FL "LevelStore$FileRow" 84 5 3 RX4 TX4 4 := ⟨ab_k5, by decide, "LevelStore$Row", lw_g_of (i := 95) (by decide +kernel) (by decide +kernel), Or.inl rfl⟩
theorem ac_int : Cond.arrayClass .int ∈ lw_g := lw_g_of (i := 105) (by decide +kernel) (by decide +kernel)
theorem cl_LevelStore_22 : Cond.classLink "LevelStore" 22 "LevelStore$FileRow" ∈ lw_g := lw_g_of (i := 106) (by decide +kernel) (by decide +kernel)
theorem in_FileRow : Cond.instantiable "LevelStore$FileRow" 1 ∈ lw_g := lw_g_of (i := 108) (by decide +kernel) (by decide +kernel)
theorem ml_LevelStore_24 : Cond.methodLink "LevelStore" 24 yX1_init ∈ lw_g := lw_g_of (i := 109) (by decide +kernel) (by decide +kernel)
theorem im_X1_init : Cond.instanceMethod yX1_init ∈ lw_g := lw_g_of (i := 110) (by decide +kernel) (by decide +kernel)
theorem ml_FileRow_3 : Cond.methodLink "LevelStore$FileRow" 3 Lib.objectInit ∈ lw_g := lw_g_of (i := 112) (by decide +kernel) (by decide +kernel)
theorem cl_FileRow_9 : Cond.classLink "LevelStore$FileRow" 9 "java/util/ArrayList" ∈ lw_g := lw_g_of (i := 113) (by decide +kernel) (by decide +kernel)
theorem in_ArrayList : Cond.instantiable "java/util/ArrayList" 3 ∈ lw_g := lw_g_of (i := 114) (by decide +kernel) (by decide +kernel)
theorem ml_FileRow_11 : Cond.methodLink "LevelStore$FileRow" 11 yJx4a65c_init_da8c8 ∈ lw_g := lw_g_of (i := 115) (by decide +kernel) (by decide +kernel)
theorem im_Jx4a65c_init_da8c8 : Cond.instanceMethod yJx4a65c_init_da8c8 ∈ lw_g := lw_g_of (i := 116) (by decide +kernel) (by decide +kernel)
theorem ml_ArrayList_1 : Cond.methodLink "java/util/ArrayList" 1 yJxc12de_init_da8c8 ∈ lw_g := lw_g_of (i := 118) (by decide +kernel) (by decide +kernel)
theorem im_Jxc12de_init_da8c8 : Cond.instanceMethod yJxc12de_init_da8c8 ∈ lw_g := lw_g_of (i := 119) (by decide +kernel) (by decide +kernel)
theorem ml_AbstractList_1 : Cond.methodLink "java/util/AbstractList" 1 yJxa1e45_init_da8c8 ∈ lw_g := lw_g_of (i := 121) (by decide +kernel) (by decide +kernel)
theorem im_Jxa1e45_init_da8c8 : Cond.instanceMethod yJxa1e45_init_da8c8 ∈ lw_g := lw_g_of (i := 122) (by decide +kernel) (by decide +kernel)
theorem ml_AbstractCollection_1 : Cond.methodLink "java/util/AbstractCollection" 1 Lib.objectInit ∈ lw_g := lw_g_of (i := 124) (by decide +kernel) (by decide +kernel)
theorem fl_static : Cond.fieldLink "java/util/ArrayList" 39 "java/util/ArrayList" "DEFAULTCAPACITY_EMPTY_ELEMENTDATA" "[Ljava/lang/Object;" ∈ lw_g := lw_g_of (i := 125) (by decide +kernel) (by decide +kernel)
theorem fl_ArrayList_9 : ab_FL "java/util/ArrayList" 9 0 1 RJx4a65c TJx4a65c 3 := ⟨ab_k0, by decide, "java/util/ArrayList", lw_g_of (i := 127) (by decide +kernel) (by decide +kernel), Or.inl rfl⟩
theorem fl_ArrayList_48 : ab_FL "java/util/ArrayList" 48 0 2 RJx4a65c TJx4a65c 3 := ⟨ab_k0, by decide, "java/util/ArrayList", lw_g_of (i := 128) (by decide +kernel) (by decide +kernel), Or.inl rfl⟩
theorem fl_AbstractList_7 : ab_FL "java/util/AbstractList" 7 0 0 RJx4a65c TJx4a65c 3 := ⟨ab_k0, by decide, "java/util/AbstractList", lw_g_of (i := 129) (by decide +kernel) (by decide +kernel), Or.inl rfl⟩
theorem fl_ArrayList_63 : ab_FL "java/util/ArrayList" 63 0 0 RJx4a65c TJx4a65c 3 := ⟨ab_k0, by decide, "java/util/ArrayList", lw_g_of (i := 130) (by decide +kernel) (by decide +kernel), Or.inr (lw_g_of (i := 131) (by decide +kernel) (by decide +kernel))⟩
theorem fl_FileRow_12 : ab_FL "LevelStore$FileRow" 12 2 0 RX1 TX1 1 := ⟨ab_k2, by decide, "LevelStore$FileRow", lw_g_of (i := 139) (by decide +kernel) (by decide +kernel), Or.inl rfl⟩
theorem cl_LevelStore_33 : Cond.classLink "LevelStore" 33 "LevelStore$Field" ∈ lw_g := lw_g_of (i := 143) (by decide +kernel) (by decide +kernel)
theorem in_Field : Cond.instantiable "LevelStore$Field" 4 ∈ lw_g := lw_g_of (i := 144) (by decide +kernel) (by decide +kernel)
theorem ml_LevelStore_35 : Cond.methodLink "LevelStore" 35 yX0_init ∈ lw_g := lw_g_of (i := 145) (by decide +kernel) (by decide +kernel)
theorem im_X0_init : Cond.instanceMethod yX0_init ∈ lw_g := lw_g_of (i := 146) (by decide +kernel) (by decide +kernel)
theorem ml_Field_3 : Cond.methodLink "LevelStore$Field" 3 Lib.objectInit ∈ lw_g := lw_g_of (i := 148) (by decide +kernel) (by decide +kernel)
theorem fl_Field_9 : ab_FL "LevelStore$Field" 9 1 0 RX0 TX0 4 := ⟨ab_k1, by decide, "LevelStore$Field", lw_g_of (i := 149) (by decide +kernel) (by decide +kernel), Or.inl rfl⟩
theorem fl_LevelStore_235 : ab_FL "LevelStore" 235 1 0 RX0 TX0 4 := ⟨ab_k1, by decide, "LevelStore$Field", lw_g_of (i := 150) (by decide +kernel) (by decide +kernel), Or.inl rfl⟩
theorem fl_Field_15 : ab_FL "LevelStore$Field" 15 1 1 RX0 TX0 4 := ⟨ab_k1, by decide, "LevelStore$Field", lw_g_of (i := 151) (by decide +kernel) (by decide +kernel), Or.inl rfl⟩
theorem fl_Field_19 : ab_FL "LevelStore$Field" 19 1 2 RX0 TX0 4 := ⟨ab_k1, by decide, "LevelStore$Field", lw_g_of (i := 152) (by decide +kernel) (by decide +kernel), Or.inl rfl⟩
theorem fl_Field_32 : ab_FL "LevelStore$Field" 32 1 3 RX0 TX0 4 := ⟨ab_k1, by decide, "LevelStore$Field", lw_g_of (i := 153) (by decide +kernel) (by decide +kernel), Or.inl rfl⟩
theorem ac_boolean : Cond.arrayClass .boolean ∈ lw_g := lw_g_of (i := 163) (by decide +kernel) (by decide +kernel)
theorem cl_LevelStore_40 : Cond.classLink "LevelStore" 40 "LevelStore$Reading" ∈ lw_g := lw_g_of (i := 164) (by decide +kernel) (by decide +kernel)
theorem in_Reading : Cond.instantiable "LevelStore$Reading" 5 ∈ lw_g := lw_g_of (i := 165) (by decide +kernel) (by decide +kernel)
theorem ml_LevelStore_42 : Cond.methodLink "LevelStore" 42 yX3_init ∈ lw_g := lw_g_of (i := 166) (by decide +kernel) (by decide +kernel)
theorem im_X3_init : Cond.instanceMethod yX3_init ∈ lw_g := lw_g_of (i := 167) (by decide +kernel) (by decide +kernel)
theorem ml_Reading_3 : Cond.methodLink "LevelStore$Reading" 3 Lib.objectInit ∈ lw_g := lw_g_of (i := 169) (by decide +kernel) (by decide +kernel)
theorem fl_Reading_9 : ab_FL "LevelStore$Reading" 9 4 0 RX3 TX3 5 := ⟨ab_k4, by decide, "LevelStore$Reading", lw_g_of (i := 170) (by decide +kernel) (by decide +kernel), Or.inl rfl⟩
theorem fl_Reading_15 : ab_FL "LevelStore$Reading" 15 4 1 RX3 TX3 5 := ⟨ab_k4, by decide, "LevelStore$Reading", lw_g_of (i := 171) (by decide +kernel) (by decide +kernel), Or.inl rfl⟩
theorem fl_Reading_24 : ab_FL "LevelStore$Reading" 24 4 2 RX3 TX3 5 := ⟨ab_k4, by decide, "LevelStore$Reading", lw_g_of (i := 172) (by decide +kernel) (by decide +kernel), Or.inl rfl⟩
theorem fl_Reading_31 : ab_FL "LevelStore$Reading" 31 4 3 RX3 TX3 5 := ⟨ab_k4, by decide, "LevelStore$Reading", lw_g_of (i := 173) (by decide +kernel) (by decide +kernel), Or.inl rfl⟩
theorem fl_Reading_34 : ab_FL "LevelStore$Reading" 34 4 4 RX3 TX3 5 := ⟨ab_k4, by decide, "LevelStore$Reading", lw_g_of (i := 174) (by decide +kernel) (by decide +kernel), Or.inl rfl⟩
theorem cl_LevelStore_47 : Cond.classLink "LevelStore" 47 "LevelStore$Job" ∈ lw_g := lw_g_of (i := 186) (by decide +kernel) (by decide +kernel)
theorem in_Job : Cond.instantiable "LevelStore$Job" 12 ∈ lw_g := lw_g_of (i := 187) (by decide +kernel) (by decide +kernel)
theorem ml_LevelStore_49 : Cond.methodLink "LevelStore" 49 yX2_init ∈ lw_g := lw_g_of (i := 188) (by decide +kernel) (by decide +kernel)
theorem im_X2_init : Cond.instanceMethod yX2_init ∈ lw_g := lw_g_of (i := 189) (by decide +kernel) (by decide +kernel)
theorem ml_Job_3 : Cond.methodLink "LevelStore$Job" 3 Lib.objectInit ∈ lw_g := lw_g_of (i := 191) (by decide +kernel) (by decide +kernel)
theorem cl_Job_9 : Cond.classLink "LevelStore$Job" 9 "LevelStore$Row" ∈ lw_g := lw_g_of (i := 192) (by decide +kernel) (by decide +kernel)
theorem ml_Job_11 : Cond.methodLink "LevelStore$Job" 11 yX4_init ∈ lw_g := lw_g_of (i := 193) (by decide +kernel) (by decide +kernel)
theorem cl_Job_27 : Cond.classLink "LevelStore$Job" 27 "LevelStore$FileRow" ∈ lw_g := lw_g_of (i := 194) (by decide +kernel) (by decide +kernel)
theorem ml_Job_29 : Cond.methodLink "LevelStore$Job" 29 yX1_init ∈ lw_g := lw_g_of (i := 195) (by decide +kernel) (by decide +kernel)
theorem fl_Job_34 : ab_FL "LevelStore$Job" 34 3 0 RX2 TX2 12 := ⟨ab_k3, by decide, "LevelStore$Job", lw_g_of (i := 196) (by decide +kernel) (by decide +kernel), Or.inl rfl⟩
theorem fl_LevelStore_108 : ab_FL "LevelStore" 108 3 0 RX2 TX2 12 := ⟨ab_k3, by decide, "LevelStore$Job", lw_g_of (i := 197) (by decide +kernel) (by decide +kernel), Or.inl rfl⟩
theorem fl_Job_38 : ab_FL "LevelStore$Job" 38 3 1 RX2 TX2 12 := ⟨ab_k3, by decide, "LevelStore$Job", lw_g_of (i := 198) (by decide +kernel) (by decide +kernel), Or.inl rfl⟩
theorem fl_LevelStore_189 : ab_FL "LevelStore" 189 3 1 RX2 TX2 12 := ⟨ab_k3, by decide, "LevelStore$Job", lw_g_of (i := 199) (by decide +kernel) (by decide +kernel), Or.inl rfl⟩
theorem fl_LevelStore_156 : ab_FL "LevelStore" 156 3 2 RX2 TX2 12 := ⟨ab_k3, by decide, "LevelStore$Job", lw_g_of (i := 200) (by decide +kernel) (by decide +kernel), Or.inl rfl⟩
theorem fl_LevelStore_159 : ab_FL "LevelStore" 159 3 3 RX2 TX2 12 := ⟨ab_k3, by decide, "LevelStore$Job", lw_g_of (i := 201) (by decide +kernel) (by decide +kernel), Or.inl rfl⟩
theorem fl_Job_42 : ab_FL "LevelStore$Job" 42 3 4 RX2 TX2 12 := ⟨ab_k3, by decide, "LevelStore$Job", lw_g_of (i := 202) (by decide +kernel) (by decide +kernel), Or.inl rfl⟩
theorem fl_LevelStore_196 : ab_FL "LevelStore" 196 3 4 RX2 TX2 12 := ⟨ab_k3, by decide, "LevelStore$Job", lw_g_of (i := 203) (by decide +kernel) (by decide +kernel), Or.inl rfl⟩
theorem fl_LevelStore_118 : ab_FL "LevelStore" 118 3 5 RX2 TX2 12 := ⟨ab_k3, by decide, "LevelStore$Job", lw_g_of (i := 204) (by decide +kernel) (by decide +kernel), Or.inl rfl⟩
theorem fl_LevelStore_121 : ab_FL "LevelStore" 121 3 6 RX2 TX2 12 := ⟨ab_k3, by decide, "LevelStore$Job", lw_g_of (i := 205) (by decide +kernel) (by decide +kernel), Or.inl rfl⟩
theorem fl_Job_14 : ab_FL "LevelStore$Job" 14 3 7 RX2 TX2 12 := ⟨ab_k3, by decide, "LevelStore$Job", lw_g_of (i := 206) (by decide +kernel) (by decide +kernel), Or.inl rfl⟩
theorem fl_LevelStore_124 : ab_FL "LevelStore" 124 3 7 RX2 TX2 12 := ⟨ab_k3, by decide, "LevelStore$Job", lw_g_of (i := 207) (by decide +kernel) (by decide +kernel), Or.inl rfl⟩
theorem fl_Job_20 : ab_FL "LevelStore$Job" 20 3 8 RX2 TX2 12 := ⟨ab_k3, by decide, "LevelStore$Job", lw_g_of (i := 208) (by decide +kernel) (by decide +kernel), Or.inl rfl⟩
theorem fl_Job_48 : ab_FL "LevelStore$Job" 48 3 9 RX2 TX2 12 := ⟨ab_k3, by decide, "LevelStore$Job", lw_g_of (i := 209) (by decide +kernel) (by decide +kernel), Or.inl rfl⟩
theorem fl_LevelStore_281 : ab_FL "LevelStore" 281 3 9 RX2 TX2 12 := ⟨ab_k3, by decide, "LevelStore$Job", lw_g_of (i := 210) (by decide +kernel) (by decide +kernel), Or.inl rfl⟩
theorem fl_Job_24 : ab_FL "LevelStore$Job" 24 3 10 RX2 TX2 12 := ⟨ab_k3, by decide, "LevelStore$Job", lw_g_of (i := 211) (by decide +kernel) (by decide +kernel), Or.inl rfl⟩
theorem fl_LevelStore_290 : ab_FL "LevelStore" 290 3 10 RX2 TX2 12 := ⟨ab_k3, by decide, "LevelStore$Job", lw_g_of (i := 212) (by decide +kernel) (by decide +kernel), Or.inl rfl⟩
theorem fl_Job_30 : ab_FL "LevelStore$Job" 30 3 11 RX2 TX2 12 := ⟨ab_k3, by decide, "LevelStore$Job", lw_g_of (i := 213) (by decide +kernel) (by decide +kernel), Or.inl rfl⟩
theorem fl_LevelStore_186 : ab_FL "LevelStore" 186 3 11 RX2 TX2 12 := ⟨ab_k3, by decide, "LevelStore$Job", lw_g_of (i := 214) (by decide +kernel) (by decide +kernel), Or.inl rfl⟩
theorem fl_LevelStore_14 : ab_FL "LevelStore" 14 7 0 RX6 TX6 10 := ⟨ab_k7, by decide, "LevelStore", lw_g_of (i := 240) (by decide +kernel) (by decide +kernel), Or.inl rfl⟩
theorem fl_LevelStore_70 : ab_FL "LevelStore" 70 7 1 RX6 TX6 10 := ⟨ab_k7, by decide, "LevelStore", lw_g_of (i := 241) (by decide +kernel) (by decide +kernel), Or.inl rfl⟩
theorem fl_LevelStore_80 : ab_FL "LevelStore" 80 7 2 RX6 TX6 10 := ⟨ab_k7, by decide, "LevelStore", lw_g_of (i := 242) (by decide +kernel) (by decide +kernel), Or.inl rfl⟩
theorem fl_LevelStore_18 : ab_FL "LevelStore" 18 7 3 RX6 TX6 10 := ⟨ab_k7, by decide, "LevelStore", lw_g_of (i := 243) (by decide +kernel) (by decide +kernel), Or.inl rfl⟩
theorem fl_LevelStore_25 : ab_FL "LevelStore" 25 7 4 RX6 TX6 10 := ⟨ab_k7, by decide, "LevelStore", lw_g_of (i := 244) (by decide +kernel) (by decide +kernel), Or.inl rfl⟩
theorem fl_LevelStore_29 : ab_FL "LevelStore" 29 7 5 RX6 TX6 10 := ⟨ab_k7, by decide, "LevelStore", lw_g_of (i := 245) (by decide +kernel) (by decide +kernel), Or.inl rfl⟩
theorem fl_LevelStore_36 : ab_FL "LevelStore" 36 7 6 RX6 TX6 10 := ⟨ab_k7, by decide, "LevelStore", lw_g_of (i := 246) (by decide +kernel) (by decide +kernel), Or.inl rfl⟩
theorem fl_LevelStore_43 : ab_FL "LevelStore" 43 7 7 RX6 TX6 10 := ⟨ab_k7, by decide, "LevelStore", lw_g_of (i := 247) (by decide +kernel) (by decide +kernel), Or.inl rfl⟩
theorem fl_LevelStore_50 : ab_FL "LevelStore" 50 7 8 RX6 TX6 10 := ⟨ab_k7, by decide, "LevelStore", lw_g_of (i := 248) (by decide +kernel) (by decide +kernel), Or.inl rfl⟩
theorem fl_LevelStore_244 : ab_FL "LevelStore" 244 7 9 RX6 TX6 10 := ⟨ab_k7, by decide, "LevelStore", lw_g_of (i := 249) (by decide +kernel) (by decide +kernel), Or.inl rfl⟩
theorem ml_LevelStoreLaw_13 : Cond.methodLink "LevelStoreLaw" 13 yX6_put ∈ lw_g := lw_g_of (i := 271) (by decide +kernel) (by decide +kernel)
theorem im_X6_put : Cond.instanceMethod yX6_put ∈ lw_g := lw_g_of (i := 272) (by decide +kernel) (by decide +kernel)
theorem se_X6_put : Cond.selects yX6_put.cls yX6_put yX6_put ∈ lw_g := lw_g_of (i := 273) (by decide +kernel) (by decide +kernel)
theorem ml_LevelStore_54 : Cond.methodLink "LevelStore" 54 yX6_isKey ∈ lw_g := lw_g_of (i := 275) (by decide +kernel) (by decide +kernel)
theorem sm_X6_isKey : Cond.static yX6_isKey ∈ lw_g := lw_g_of (i := 276) (by decide +kernel) (by decide +kernel)
theorem cn_LevelStore_58 : Cond.constant "LevelStore" 58 (-100000 : Int32) ∈ lw_g := lw_g_of (i := 278) (by decide +kernel) (by decide +kernel)
theorem cn_LevelStore_59 : Cond.constant "LevelStore" 59 (100000 : Int32) ∈ lw_g := lw_g_of (i := 279) (by decide +kernel) (by decide +kernel)
theorem cn_LevelStore_60 : Cond.constant "LevelStore" 60 (-1000002 : Int32) ∈ lw_g := lw_g_of (i := 280) (by decide +kernel) (by decide +kernel)
theorem ml_LevelStore_61 : Cond.methodLink "LevelStore" 61 yX6_write ∈ lw_g := lw_g_of (i := 281) (by decide +kernel) (by decide +kernel)
theorem im_X6_write : Cond.instanceMethod yX6_write ∈ lw_g := lw_g_of (i := 283) (by decide +kernel) (by decide +kernel)
theorem cn_LevelStore_254 : Cond.constant "LevelStore" 254 (60000 : Int32) ∈ lw_g := lw_g_of (i := 285) (by decide +kernel) (by decide +kernel)
theorem cn_LevelStore_185 : Cond.constant "LevelStore" 185 (-1000004 : Int32) ∈ lw_g := lw_g_of (i := 286) (by decide +kernel) (by decide +kernel)
theorem ml_LevelStore_255 : Cond.methodLink "LevelStore" 255 yX4_add ∈ lw_g := lw_g_of (i := 287) (by decide +kernel) (by decide +kernel)
theorem im_X4_add : Cond.instanceMethod yX4_add ∈ lw_g := lw_g_of (i := 288) (by decide +kernel) (by decide +kernel)
theorem se_X4_add : Cond.selects yX4_add.cls yX4_add yX4_add ∈ lw_g := lw_g_of (i := 289) (by decide +kernel) (by decide +kernel)
theorem ml_Row_47 : Cond.methodLink "LevelStore$Row" 47 yX4_setAt ∈ lw_g := lw_g_of (i := 291) (by decide +kernel) (by decide +kernel)
theorem im_X4_setAt : Cond.instanceMethod yX4_setAt ∈ lw_g := lw_g_of (i := 292) (by decide +kernel) (by decide +kernel)
theorem se_X4_setAt : Cond.selects yX4_setAt.cls yX4_setAt yX4_setAt ∈ lw_g := lw_g_of (i := 293) (by decide +kernel) (by decide +kernel)
theorem ml_Row_36 : Cond.methodLink "LevelStore$Row" 36 yX4_has ∈ lw_g := lw_g_of (i := 295) (by decide +kernel) (by decide +kernel)
theorem im_X4_has : Cond.instanceMethod yX4_has ∈ lw_g := lw_g_of (i := 296) (by decide +kernel) (by decide +kernel)
theorem se_X4_has : Cond.selects yX4_has.cls yX4_has yX4_has ∈ lw_g := lw_g_of (i := 297) (by decide +kernel) (by decide +kernel)
theorem ml_LevelStoreLaw_18 : Cond.methodLink "LevelStoreLaw" 18 yX6_drop ∈ lw_g := lw_g_of (i := 299) (by decide +kernel) (by decide +kernel)
theorem im_X6_drop : Cond.instanceMethod yX6_drop ∈ lw_g := lw_g_of (i := 300) (by decide +kernel) (by decide +kernel)
theorem se_X6_drop : Cond.selects yX6_drop.cls yX6_drop yX6_drop ∈ lw_g := lw_g_of (i := 301) (by decide +kernel) (by decide +kernel)
theorem cn_LevelStore_65 : Cond.constant "LevelStore" 65 (-1000009 : Int32) ∈ lw_g := lw_g_of (i := 303) (by decide +kernel) (by decide +kernel)
theorem ml_LevelStoreLaw_23 : Cond.methodLink "LevelStoreLaw" 23 yX6_sync ∈ lw_g := lw_g_of (i := 304) (by decide +kernel) (by decide +kernel)
theorem im_X6_sync : Cond.instanceMethod yX6_sync ∈ lw_g := lw_g_of (i := 305) (by decide +kernel) (by decide +kernel)
theorem se_X6_sync : Cond.selects yX6_sync.cls yX6_sync yX6_sync ∈ lw_g := lw_g_of (i := 306) (by decide +kernel) (by decide +kernel)
theorem ml_LevelStoreLaw_28 : Cond.methodLink "LevelStoreLaw" 28 yX6_crash ∈ lw_g := lw_g_of (i := 308) (by decide +kernel) (by decide +kernel)
theorem im_X6_crash : Cond.instanceMethod yX6_crash ∈ lw_g := lw_g_of (i := 309) (by decide +kernel) (by decide +kernel)
theorem se_X6_crash : Cond.selects yX6_crash.cls yX6_crash yX6_crash ∈ lw_g := lw_g_of (i := 310) (by decide +kernel) (by decide +kernel)
theorem ml_LevelStore_73 : Cond.methodLink "LevelStore" 73 yX6_giveUpJob ∈ lw_g := lw_g_of (i := 312) (by decide +kernel) (by decide +kernel)
theorem im_X6_giveUpJob : Cond.instanceMethod yX6_giveUpJob ∈ lw_g := lw_g_of (i := 314) (by decide +kernel) (by decide +kernel)
theorem ml_LevelStore_154 : Cond.methodLink "LevelStore" 154 yX1_size ∈ lw_g := lw_g_of (i := 316) (by decide +kernel) (by decide +kernel)
theorem im_X1_size : Cond.instanceMethod yX1_size ∈ lw_g := lw_g_of (i := 317) (by decide +kernel) (by decide +kernel)
theorem se_X1_size : Cond.selects yX1_size.cls yX1_size yX1_size ∈ lw_g := lw_g_of (i := 318) (by decide +kernel) (by decide +kernel)
theorem ml_FileRow_18 : Cond.methodLink "LevelStore$FileRow" 18 yJx4a65c_size_8abf5 ∈ lw_g := lw_g_of (i := 320) (by decide +kernel) (by decide +kernel)
theorem im_Jx4a65c_size_8abf5 : Cond.instanceMethod yJx4a65c_size_8abf5 ∈ lw_g := lw_g_of (i := 321) (by decide +kernel) (by decide +kernel)
theorem se_Jx4a65c_size_8abf5 : Cond.selects yJx4a65c_size_8abf5.cls yJx4a65c_size_8abf5 yJx4a65c_size_8abf5 ∈ lw_g := lw_g_of (i := 322) (by decide +kernel) (by decide +kernel)
theorem ml_LevelStore_192 : Cond.methodLink "LevelStore" 192 yX6_retire ∈ lw_g := lw_g_of (i := 324) (by decide +kernel) (by decide +kernel)
theorem im_X6_retire : Cond.instanceMethod yX6_retire ∈ lw_g := lw_g_of (i := 326) (by decide +kernel) (by decide +kernel)
theorem ml_LevelStore_306 : Cond.methodLink "LevelStore" 306 yX1_takeOut ∈ lw_g := lw_g_of (i := 328) (by decide +kernel) (by decide +kernel)
theorem im_X1_takeOut : Cond.instanceMethod yX1_takeOut ∈ lw_g := lw_g_of (i := 329) (by decide +kernel) (by decide +kernel)
theorem se_X1_takeOut : Cond.selects yX1_takeOut.cls yX1_takeOut yX1_takeOut ∈ lw_g := lw_g_of (i := 330) (by decide +kernel) (by decide +kernel)
theorem ml_FileRow_36 : Cond.methodLink "LevelStore$FileRow" 36 yJx4a65c_remove_915e3 ∈ lw_g := lw_g_of (i := 332) (by decide +kernel) (by decide +kernel)
theorem im_Jx4a65c_remove_915e3 : Cond.instanceMethod yJx4a65c_remove_915e3 ∈ lw_g := lw_g_of (i := 333) (by decide +kernel) (by decide +kernel)
theorem se_Jx4a65c_remove_915e3 : Cond.selects yJx4a65c_remove_915e3.cls yJx4a65c_remove_915e3 yJx4a65c_remove_915e3 ∈ lw_g := lw_g_of (i := 334) (by decide +kernel) (by decide +kernel)
theorem ml_ArrayList_118 : Cond.methodLink "java/util/ArrayList" 118 yJ15_checkIndex_7cf53 ∈ lw_g := lw_g_of (i := 336) (by decide +kernel) (by decide +kernel)
theorem sm_J15_checkIndex_7cf53 : Cond.static yJ15_checkIndex_7cf53 ∈ lw_g := lw_g_of (i := 337) (by decide +kernel) (by decide +kernel)
theorem ml_Objects_105 : Cond.methodLink "java/util/Objects" 105 yJ3_checkIndex_8e157 ∈ lw_g := lw_g_of (i := 339) (by decide +kernel) (by decide +kernel)
theorem sm_J3_checkIndex_8e157 : Cond.static yJ3_checkIndex_8e157 ∈ lw_g := lw_g_of (i := 340) (by decide +kernel) (by decide +kernel)
theorem ml_ArrayList_144 : Cond.methodLink "java/util/ArrayList" 144 yJx4a65c_fastRemove_b59b0 ∈ lw_g := lw_g_of (i := 342) (by decide +kernel) (by decide +kernel)
theorem im_Jx4a65c_fastRemove_b59b0 : Cond.instanceMethod yJx4a65c_fastRemove_b59b0 ∈ lw_g := lw_g_of (i := 344) (by decide +kernel) (by decide +kernel)
theorem ml_ArrayList_112 : Cond.methodLink "java/util/ArrayList" 112 arraycopyName ∈ lw_g := lw_g_of (i := 346) (by decide +kernel) (by decide +kernel)
theorem sm_arraycopy : Cond.static arraycopyName ∈ lw_g := lw_g_of (i := 347) (by decide +kernel) (by decide +kernel)
theorem nt_arraycopy : Cond.native arraycopyName ∈ lw_g := lw_g_of (i := 348) (by decide +kernel) (by decide +kernel)
theorem cl_FileRow_26 : Cond.classLink "LevelStore$FileRow" 26 "LevelStore$SortedFile" ∈ lw_g := lw_g_of (i := 349) (by decide +kernel) (by decide +kernel)
theorem ml_LevelStore_310 : Cond.methodLink "LevelStore" 310 yX0_free ∈ lw_g := lw_g_of (i := 350) (by decide +kernel) (by decide +kernel)
theorem im_X0_free : Cond.instanceMethod yX0_free ∈ lw_g := lw_g_of (i := 351) (by decide +kernel) (by decide +kernel)
theorem se_X0_free : Cond.selects yX0_free.cls yX0_free yX0_free ∈ lw_g := lw_g_of (i := 352) (by decide +kernel) (by decide +kernel)
theorem ml_Field_50 : Cond.methodLink "LevelStore$Field" 50 yX0_mark ∈ lw_g := lw_g_of (i := 354) (by decide +kernel) (by decide +kernel)
theorem im_X0_mark : Cond.instanceMethod yX0_mark ∈ lw_g := lw_g_of (i := 356) (by decide +kernel) (by decide +kernel)
theorem ml_Field_46 : Cond.methodLink "LevelStore$Field" 46 yX0_has ∈ lw_g := lw_g_of (i := 358) (by decide +kernel) (by decide +kernel)
theorem im_X0_has : Cond.instanceMethod yX0_has ∈ lw_g := lw_g_of (i := 359) (by decide +kernel) (by decide +kernel)
theorem se_X0_has : Cond.selects yX0_has.cls yX0_has yX0_has ∈ lw_g := lw_g_of (i := 360) (by decide +kernel) (by decide +kernel)
theorem ml_LevelStore_303 : Cond.methodLink "LevelStore" 303 yX1_add ∈ lw_g := lw_g_of (i := 362) (by decide +kernel) (by decide +kernel)
theorem im_X1_add : Cond.instanceMethod yX1_add ∈ lw_g := lw_g_of (i := 363) (by decide +kernel) (by decide +kernel)
theorem se_X1_add : Cond.selects yX1_add.cls yX1_add yX1_add ∈ lw_g := lw_g_of (i := 364) (by decide +kernel) (by decide +kernel)
theorem ml_FileRow_28 : Cond.methodLink "LevelStore$FileRow" 28 yX1_insert ∈ lw_g := lw_g_of (i := 366) (by decide +kernel) (by decide +kernel)
theorem im_X1_insert : Cond.instanceMethod yX1_insert ∈ lw_g := lw_g_of (i := 367) (by decide +kernel) (by decide +kernel)
theorem se_X1_insert : Cond.selects yX1_insert.cls yX1_insert yX1_insert ∈ lw_g := lw_g_of (i := 368) (by decide +kernel) (by decide +kernel)
theorem ml_FileRow_32 : Cond.methodLink "LevelStore$FileRow" 32 yJx4a65c_add_7a177 ∈ lw_g := lw_g_of (i := 370) (by decide +kernel) (by decide +kernel)
theorem im_Jx4a65c_add_7a177 : Cond.instanceMethod yJx4a65c_add_7a177 ∈ lw_g := lw_g_of (i := 371) (by decide +kernel) (by decide +kernel)
theorem se_Jx4a65c_add_7a177 : Cond.selects yJx4a65c_add_7a177.cls yJx4a65c_add_7a177 yJx4a65c_add_7a177 ∈ lw_g := lw_g_of (i := 372) (by decide +kernel) (by decide +kernel)
theorem ml_ArrayList_135 : Cond.methodLink "java/util/ArrayList" 135 yJx4a65c_rangeCheckForAdd_d00df ∈ lw_g := lw_g_of (i := 374) (by decide +kernel) (by decide +kernel)
theorem im_Jx4a65c_rangeCheckForAdd_d00df : Cond.instanceMethod yJx4a65c_rangeCheckForAdd_d00df ∈ lw_g := lw_g_of (i := 376) (by decide +kernel) (by decide +kernel)
theorem ml_ArrayList_129 : Cond.methodLink "java/util/ArrayList" 129 yJx4a65c_grow_d5877 ∈ lw_g := lw_g_of (i := 378) (by decide +kernel) (by decide +kernel)
theorem im_Jx4a65c_grow_d5877 : Cond.instanceMethod yJx4a65c_grow_d5877 ∈ lw_g := lw_g_of (i := 380) (by decide +kernel) (by decide +kernel)
theorem ml_ArrayList_69 : Cond.methodLink "java/util/ArrayList" 69 yJx4a65c_grow_92f84 ∈ lw_g := lw_g_of (i := 382) (by decide +kernel) (by decide +kernel)
theorem im_Jx4a65c_grow_92f84 : Cond.instanceMethod yJx4a65c_grow_92f84 ∈ lw_g := lw_g_of (i := 384) (by decide +kernel) (by decide +kernel)
theorem ml_ArrayList_73 : Cond.methodLink "java/util/ArrayList" 73 yJ8_newLength_cabcc ∈ lw_g := lw_g_of (i := 386) (by decide +kernel) (by decide +kernel)
theorem sm_J8_newLength_cabcc : Cond.static yJ8_newLength_cabcc ∈ lw_g := lw_g_of (i := 387) (by decide +kernel) (by decide +kernel)
theorem ml_ArraysSupport_194 : Cond.methodLink "jdk/internal/util/ArraysSupport" 194 yJ9_max_7cf53 ∈ lw_g := lw_g_of (i := 389) (by decide +kernel) (by decide +kernel)
theorem cn_ArraysSupport_200 : Cond.constant "jdk/internal/util/ArraysSupport" 200 (2147483639 : Int32) ∈ lw_g := lw_g_of (i := 390) (by decide +kernel) (by decide +kernel)
theorem ml_ArraysSupport_201 : Cond.methodLink "jdk/internal/util/ArraysSupport" 201 yJ8_hugeLength_7cf53 ∈ lw_g := lw_g_of (i := 391) (by decide +kernel) (by decide +kernel)
theorem sm_J8_hugeLength_7cf53 : Cond.static yJ8_hugeLength_7cf53 ∈ lw_g := lw_g_of (i := 392) (by decide +kernel) (by decide +kernel)
theorem ml_ArrayList_66 : Cond.methodLink "java/util/ArrayList" 66 yJ7_copyOf_1904c ∈ lw_g := lw_g_of (i := 394) (by decide +kernel) (by decide +kernel)
theorem sm_J7_copyOf_1904c : Cond.static yJ7_copyOf_1904c ∈ lw_g := lw_g_of (i := 395) (by decide +kernel) (by decide +kernel)
theorem ml_Arrays_86 : Cond.methodLink "java/util/Arrays" 86 ⟨"java/lang/Object", "getClass", "()Ljava/lang/Class;"⟩ ∈ lw_g := lw_g_of (i := 397) (by decide +kernel) (by decide +kernel)
theorem im_getClass : Cond.instanceMethod ⟨"java/lang/Object", "getClass", "()Ljava/lang/Class;"⟩ ∈ lw_g := lw_g_of (i := 398) (by decide +kernel) (by decide +kernel)
theorem nt_getClass : Cond.native ⟨"java/lang/Object", "getClass", "()Ljava/lang/Class;"⟩ ∈ lw_g := lw_g_of (i := 409) (by decide +kernel) (by decide +kernel)
theorem ml_Arrays_300 : Cond.methodLink "java/util/Arrays" 300 yJ7_copyOf_6403c ∈ lw_g := lw_g_of (i := 410) (by decide +kernel) (by decide +kernel)
theorem sm_J7_copyOf_6403c : Cond.static yJ7_copyOf_6403c ∈ lw_g := lw_g_of (i := 411) (by decide +kernel) (by decide +kernel)
theorem cl_Arrays_110 : Cond.classLink "java/util/Arrays" 110 "[Ljava/lang/Object;" ∈ lw_g := lw_g_of (i := 413) (by decide +kernel) (by decide +kernel)
theorem cl_Arrays_2 : Cond.classLink "java/util/Arrays" 2 "java/lang/Object" ∈ lw_g := lw_g_of (i := 415) (by decide +kernel) (by decide +kernel)
theorem ml_Arrays_304 : Cond.methodLink "java/util/Arrays" 304 yJ9_min_7cf53 ∈ lw_g := lw_g_of (i := 416) (by decide +kernel) (by decide +kernel)
theorem sm_J9_min_7cf53 : Cond.static yJ9_min_7cf53 ∈ lw_g := lw_g_of (i := 417) (by decide +kernel) (by decide +kernel)
theorem ml_Arrays_150 : Cond.methodLink "java/util/Arrays" 150 arraycopyName ∈ lw_g := lw_g_of (i := 419) (by decide +kernel) (by decide +kernel)
theorem ml_ArrayList_79 : Cond.methodLink "java/util/ArrayList" 79 yJ9_max_7cf53 ∈ lw_g := lw_g_of (i := 420) (by decide +kernel) (by decide +kernel)
theorem cl_ArrayList_7 : Cond.classLink "java/util/ArrayList" 7 "java/lang/Object" ∈ lw_g := lw_g_of (i := 421) (by decide +kernel) (by decide +kernel)
theorem ml_LevelStore_205 : Cond.methodLink "LevelStore" 205 yX2_end ∈ lw_g := lw_g_of (i := 422) (by decide +kernel) (by decide +kernel)
theorem im_X2_end : Cond.instanceMethod yX2_end ∈ lw_g := lw_g_of (i := 423) (by decide +kernel) (by decide +kernel)
theorem se_X2_end : Cond.selects yX2_end.cls yX2_end yX2_end ∈ lw_g := lw_g_of (i := 424) (by decide +kernel) (by decide +kernel)
theorem ml_Job_51 : Cond.methodLink "LevelStore$Job" 51 yX1_empty ∈ lw_g := lw_g_of (i := 426) (by decide +kernel) (by decide +kernel)
theorem im_X1_empty : Cond.instanceMethod yX1_empty ∈ lw_g := lw_g_of (i := 427) (by decide +kernel) (by decide +kernel)
theorem se_X1_empty : Cond.selects yX1_empty.cls yX1_empty yX1_empty ∈ lw_g := lw_g_of (i := 428) (by decide +kernel) (by decide +kernel)
theorem ml_FileRow_39 : Cond.methodLink "LevelStore$FileRow" 39 yJx4a65c_clear_da8c8 ∈ lw_g := lw_g_of (i := 430) (by decide +kernel) (by decide +kernel)
theorem im_Jx4a65c_clear_da8c8 : Cond.instanceMethod yJx4a65c_clear_da8c8 ∈ lw_g := lw_g_of (i := 431) (by decide +kernel) (by decide +kernel)
theorem se_Jx4a65c_clear_da8c8 : Cond.selects yJx4a65c_clear_da8c8.cls yJx4a65c_clear_da8c8 yJx4a65c_clear_da8c8 ∈ lw_g := lw_g_of (i := 432) (by decide +kernel) (by decide +kernel)
theorem ml_LevelStore_77 : Cond.methodLink "LevelStore" 77 yX6_greatestNumberLeft ∈ lw_g := lw_g_of (i := 434) (by decide +kernel) (by decide +kernel)
theorem im_X6_greatestNumberLeft : Cond.instanceMethod yX6_greatestNumberLeft ∈ lw_g := lw_g_of (i := 436) (by decide +kernel) (by decide +kernel)
theorem ml_LevelStore_266 : Cond.methodLink "LevelStore" 266 yX4_greatestNumber ∈ lw_g := lw_g_of (i := 438) (by decide +kernel) (by decide +kernel)
theorem im_X4_greatestNumber : Cond.instanceMethod yX4_greatestNumber ∈ lw_g := lw_g_of (i := 439) (by decide +kernel) (by decide +kernel)
theorem se_X4_greatestNumber : Cond.selects yX4_greatestNumber.cls yX4_greatestNumber yX4_greatestNumber ∈ lw_g := lw_g_of (i := 440) (by decide +kernel) (by decide +kernel)
theorem ml_Row_44 : Cond.methodLink "LevelStore$Row" 44 yX4_number ∈ lw_g := lw_g_of (i := 442) (by decide +kernel) (by decide +kernel)
theorem im_X4_number : Cond.instanceMethod yX4_number ∈ lw_g := lw_g_of (i := 443) (by decide +kernel) (by decide +kernel)
theorem se_X4_number : Cond.selects yX4_number.cls yX4_number yX4_number ∈ lw_g := lw_g_of (i := 444) (by decide +kernel) (by decide +kernel)
theorem cn_Row_31 : Cond.constant "LevelStore$Row" 31 (-1000009 : Int32) ∈ lw_g := lw_g_of (i := 446) (by decide +kernel) (by decide +kernel)
theorem ml_LevelStore_269 : Cond.methodLink "LevelStore" 269 yX1_greatestNumber ∈ lw_g := lw_g_of (i := 447) (by decide +kernel) (by decide +kernel)
theorem im_X1_greatestNumber : Cond.instanceMethod yX1_greatestNumber ∈ lw_g := lw_g_of (i := 448) (by decide +kernel) (by decide +kernel)
theorem se_X1_greatestNumber : Cond.selects yX1_greatestNumber.cls yX1_greatestNumber yX1_greatestNumber ∈ lw_g := lw_g_of (i := 449) (by decide +kernel) (by decide +kernel)
theorem ml_FileRow_42 : Cond.methodLink "LevelStore$FileRow" 42 yX1_at ∈ lw_g := lw_g_of (i := 451) (by decide +kernel) (by decide +kernel)
theorem im_X1_at : Cond.instanceMethod yX1_at ∈ lw_g := lw_g_of (i := 452) (by decide +kernel) (by decide +kernel)
theorem se_X1_at : Cond.selects yX1_at.cls yX1_at yX1_at ∈ lw_g := lw_g_of (i := 453) (by decide +kernel) (by decide +kernel)
theorem ml_FileRow_22 : Cond.methodLink "LevelStore$FileRow" 22 yJx4a65c_get_915e3 ∈ lw_g := lw_g_of (i := 455) (by decide +kernel) (by decide +kernel)
theorem im_Jx4a65c_get_915e3 : Cond.instanceMethod yJx4a65c_get_915e3 ∈ lw_g := lw_g_of (i := 456) (by decide +kernel) (by decide +kernel)
theorem se_Jx4a65c_get_915e3 : Cond.selects yJx4a65c_get_915e3.cls yJx4a65c_get_915e3 yJx4a65c_get_915e3 ∈ lw_g := lw_g_of (i := 457) (by decide +kernel) (by decide +kernel)
theorem ml_ArrayList_123 : Cond.methodLink "java/util/ArrayList" 123 yJx4a65c_elementData_915e3 ∈ lw_g := lw_g_of (i := 459) (by decide +kernel) (by decide +kernel)
theorem im_Jx4a65c_elementData_915e3 : Cond.instanceMethod yJx4a65c_elementData_915e3 ∈ lw_g := lw_g_of (i := 460) (by decide +kernel) (by decide +kernel)
theorem se_Jx4a65c_elementData_915e3 : Cond.selects yJx4a65c_elementData_915e3.cls yJx4a65c_elementData_915e3 yJx4a65c_elementData_915e3 ∈ lw_g := lw_g_of (i := 461) (by decide +kernel) (by decide +kernel)
theorem ml_FileRow_86 : Cond.methodLink "LevelStore$FileRow" 86 yX4_greatestNumber ∈ lw_g := lw_g_of (i := 463) (by decide +kernel) (by decide +kernel)
theorem ml_FileRow_58 : Cond.methodLink "LevelStore$FileRow" 58 yJ9_max_7cf53 ∈ lw_g := lw_g_of (i := 464) (by decide +kernel) (by decide +kernel)
theorem ml_LevelStore_261 : Cond.methodLink "LevelStore" 261 yJ9_max_7cf53 ∈ lw_g := lw_g_of (i := 465) (by decide +kernel) (by decide +kernel)
theorem ml_LevelStoreLaw_32 : Cond.methodLink "LevelStoreLaw" 32 yX6_get ∈ lw_g := lw_g_of (i := 466) (by decide +kernel) (by decide +kernel)
theorem im_X6_get : Cond.instanceMethod yX6_get ∈ lw_g := lw_g_of (i := 467) (by decide +kernel) (by decide +kernel)
theorem se_X6_get : Cond.selects yX6_get.cls yX6_get yX6_get ∈ lw_g := lw_g_of (i := 468) (by decide +kernel) (by decide +kernel)
theorem ml_LevelStore_83 : Cond.methodLink "LevelStore" 83 yX6_readUpTo ∈ lw_g := lw_g_of (i := 470) (by decide +kernel) (by decide +kernel)
theorem im_X6_readUpTo : Cond.instanceMethod yX6_readUpTo ∈ lw_g := lw_g_of (i := 472) (by decide +kernel) (by decide +kernel)
theorem ml_LevelStore_94 : Cond.methodLink "LevelStore" 94 yX3_begin ∈ lw_g := lw_g_of (i := 474) (by decide +kernel) (by decide +kernel)
theorem im_X3_begin : Cond.instanceMethod yX3_begin ∈ lw_g := lw_g_of (i := 475) (by decide +kernel) (by decide +kernel)
theorem se_X3_begin : Cond.selects yX3_begin.cls yX3_begin yX3_begin ∈ lw_g := lw_g_of (i := 476) (by decide +kernel) (by decide +kernel)
theorem ml_Reading_18 : Cond.methodLink "LevelStore$Reading" 18 yJ9_max_7cf53 ∈ lw_g := lw_g_of (i := 478) (by decide +kernel) (by decide +kernel)
theorem ml_Reading_28 : Cond.methodLink "LevelStore$Reading" 28 yJ9_min_7cf53 ∈ lw_g := lw_g_of (i := 479) (by decide +kernel) (by decide +kernel)
theorem cn_Reading_37 : Cond.constant "LevelStore$Reading" 37 (-1000009 : Int32) ∈ lw_g := lw_g_of (i := 480) (by decide +kernel) (by decide +kernel)
theorem ml_LevelStore_98 : Cond.methodLink "LevelStore" 98 yX6_readAll ∈ lw_g := lw_g_of (i := 481) (by decide +kernel) (by decide +kernel)
theorem im_X6_readAll : Cond.instanceMethod yX6_readAll ∈ lw_g := lw_g_of (i := 483) (by decide +kernel) (by decide +kernel)
theorem ml_LevelStore_273 : Cond.methodLink "LevelStore" 273 yX3_take ∈ lw_g := lw_g_of (i := 485) (by decide +kernel) (by decide +kernel)
theorem im_X3_take : Cond.instanceMethod yX3_take ∈ lw_g := lw_g_of (i := 486) (by decide +kernel) (by decide +kernel)
theorem se_X3_take : Cond.selects yX3_take.cls yX3_take yX3_take ∈ lw_g := lw_g_of (i := 487) (by decide +kernel) (by decide +kernel)
theorem ml_Reading_52 : Cond.methodLink "LevelStore$Reading" 52 yX4_key ∈ lw_g := lw_g_of (i := 489) (by decide +kernel) (by decide +kernel)
theorem im_X4_key : Cond.instanceMethod yX4_key ∈ lw_g := lw_g_of (i := 490) (by decide +kernel) (by decide +kernel)
theorem se_X4_key : Cond.selects yX4_key.cls yX4_key yX4_key ∈ lw_g := lw_g_of (i := 491) (by decide +kernel) (by decide +kernel)
theorem ml_Reading_56 : Cond.methodLink "LevelStore$Reading" 56 yX4_number ∈ lw_g := lw_g_of (i := 493) (by decide +kernel) (by decide +kernel)
theorem ml_Reading_59 : Cond.methodLink "LevelStore$Reading" 59 yX4_value ∈ lw_g := lw_g_of (i := 494) (by decide +kernel) (by decide +kernel)
theorem im_X4_value : Cond.instanceMethod yX4_value ∈ lw_g := lw_g_of (i := 495) (by decide +kernel) (by decide +kernel)
theorem se_X4_value : Cond.selects yX4_value.cls yX4_value yX4_value ∈ lw_g := lw_g_of (i := 496) (by decide +kernel) (by decide +kernel)
theorem ml_LevelStore_277 : Cond.methodLink "LevelStore" 277 yX1_letRead ∈ lw_g := lw_g_of (i := 498) (by decide +kernel) (by decide +kernel)
theorem im_X1_letRead : Cond.instanceMethod yX1_letRead ∈ lw_g := lw_g_of (i := 499) (by decide +kernel) (by decide +kernel)
theorem se_X1_letRead : Cond.selects yX1_letRead.cls yX1_letRead yX1_letRead ∈ lw_g := lw_g_of (i := 500) (by decide +kernel) (by decide +kernel)
theorem ml_FileRow_71 : Cond.methodLink "LevelStore$FileRow" 71 yX3_concerns ∈ lw_g := lw_g_of (i := 502) (by decide +kernel) (by decide +kernel)
theorem im_X3_concerns : Cond.instanceMethod yX3_concerns ∈ lw_g := lw_g_of (i := 503) (by decide +kernel) (by decide +kernel)
theorem se_X3_concerns : Cond.selects yX3_concerns.cls yX3_concerns yX3_concerns ∈ lw_g := lw_g_of (i := 504) (by decide +kernel) (by decide +kernel)
theorem ml_Reading_38 : Cond.methodLink "LevelStore$Reading" 38 yX5_leastKey ∈ lw_g := lw_g_of (i := 506) (by decide +kernel) (by decide +kernel)
theorem im_X5_leastKey : Cond.instanceMethod yX5_leastKey ∈ lw_g := lw_g_of (i := 507) (by decide +kernel) (by decide +kernel)
theorem se_X5_leastKey : Cond.selects yX5_leastKey.cls yX5_leastKey yX5_leastKey ∈ lw_g := lw_g_of (i := 508) (by decide +kernel) (by decide +kernel)
theorem ml_SortedFile_20 : Cond.methodLink "LevelStore$SortedFile" 20 yX4_key ∈ lw_g := lw_g_of (i := 510) (by decide +kernel) (by decide +kernel)
theorem ml_Reading_44 : Cond.methodLink "LevelStore$Reading" 44 yX5_greatestKey ∈ lw_g := lw_g_of (i := 511) (by decide +kernel) (by decide +kernel)
theorem im_X5_greatestKey : Cond.instanceMethod yX5_greatestKey ∈ lw_g := lw_g_of (i := 512) (by decide +kernel) (by decide +kernel)
theorem se_X5_greatestKey : Cond.selects yX5_greatestKey.cls yX5_greatestKey yX5_greatestKey ∈ lw_g := lw_g_of (i := 513) (by decide +kernel) (by decide +kernel)
theorem ml_FileRow_77 : Cond.methodLink "LevelStore$FileRow" 77 yX3_take ∈ lw_g := lw_g_of (i := 515) (by decide +kernel) (by decide +kernel)
theorem ml_LevelStore_270 : Cond.methodLink "LevelStore" 270 yX3_valueOf ∈ lw_g := lw_g_of (i := 516) (by decide +kernel) (by decide +kernel)
theorem im_X3_valueOf : Cond.instanceMethod yX3_valueOf ∈ lw_g := lw_g_of (i := 517) (by decide +kernel) (by decide +kernel)
theorem se_X3_valueOf : Cond.selects yX3_valueOf.cls yX3_valueOf yX3_valueOf ∈ lw_g := lw_g_of (i := 518) (by decide +kernel) (by decide +kernel)
theorem ml_LevelStoreLaw_36 : Cond.methodLink "LevelStoreLaw" 36 yX6_view ∈ lw_g := lw_g_of (i := 520) (by decide +kernel) (by decide +kernel)
theorem im_X6_view : Cond.instanceMethod yX6_view ∈ lw_g := lw_g_of (i := 521) (by decide +kernel) (by decide +kernel)
theorem se_X6_view : Cond.selects yX6_view.cls yX6_view yX6_view ∈ lw_g := lw_g_of (i := 522) (by decide +kernel) (by decide +kernel)
theorem ml_LevelStore_86 : Cond.methodLink "LevelStore" 86 yX6_isHeld ∈ lw_g := lw_g_of (i := 524) (by decide +kernel) (by decide +kernel)
theorem im_X6_isHeld : Cond.instanceMethod yX6_isHeld ∈ lw_g := lw_g_of (i := 526) (by decide +kernel) (by decide +kernel)
theorem ml_LevelStore_90 : Cond.methodLink "LevelStore" 90 yX6_numberOfView ∈ lw_g := lw_g_of (i := 528) (by decide +kernel) (by decide +kernel)
theorem im_X6_numberOfView : Cond.instanceMethod yX6_numberOfView ∈ lw_g := lw_g_of (i := 530) (by decide +kernel) (by decide +kernel)
theorem ml_LevelStore_104 : Cond.methodLink "LevelStore" 104 yX6_isView ∈ lw_g := lw_g_of (i := 532) (by decide +kernel) (by decide +kernel)
theorem im_X6_isView : Cond.instanceMethod yX6_isView ∈ lw_g := lw_g_of (i := 534) (by decide +kernel) (by decide +kernel)
theorem cn_LevelStore_89 : Cond.constant "LevelStore" 89 (-1000001 : Int32) ∈ lw_g := lw_g_of (i := 536) (by decide +kernel) (by decide +kernel)
theorem ml_LevelStoreLaw_40 : Cond.methodLink "LevelStoreLaw" 40 yX6_next ∈ lw_g := lw_g_of (i := 537) (by decide +kernel) (by decide +kernel)
theorem im_X6_next : Cond.instanceMethod yX6_next ∈ lw_g := lw_g_of (i := 538) (by decide +kernel) (by decide +kernel)
theorem se_X6_next : Cond.selects yX6_next.cls yX6_next yX6_next ∈ lw_g := lw_g_of (i := 539) (by decide +kernel) (by decide +kernel)
theorem ml_LevelStore_101 : Cond.methodLink "LevelStore" 101 yX3_leastKeyWithValue ∈ lw_g := lw_g_of (i := 541) (by decide +kernel) (by decide +kernel)
theorem im_X3_leastKeyWithValue : Cond.instanceMethod yX3_leastKeyWithValue ∈ lw_g := lw_g_of (i := 542) (by decide +kernel) (by decide +kernel)
theorem se_X3_leastKeyWithValue : Cond.selects yX3_leastKeyWithValue.cls yX3_leastKeyWithValue yX3_leastKeyWithValue ∈ lw_g := lw_g_of (i := 543) (by decide +kernel) (by decide +kernel)
theorem ml_LevelStoreLaw_44 : Cond.methodLink "LevelStoreLaw" 44 yX6_hold ∈ lw_g := lw_g_of (i := 545) (by decide +kernel) (by decide +kernel)
theorem im_X6_hold : Cond.instanceMethod yX6_hold ∈ lw_g := lw_g_of (i := 546) (by decide +kernel) (by decide +kernel)
theorem se_X6_hold : Cond.selects yX6_hold.cls yX6_hold yX6_hold ∈ lw_g := lw_g_of (i := 547) (by decide +kernel) (by decide +kernel)
theorem cn_LevelStore_107 : Cond.constant "LevelStore" 107 (-1000003 : Int32) ∈ lw_g := lw_g_of (i := 549) (by decide +kernel) (by decide +kernel)
theorem ml_LevelStoreLaw_48 : Cond.methodLink "LevelStoreLaw" 48 yX6_release ∈ lw_g := lw_g_of (i := 550) (by decide +kernel) (by decide +kernel)
theorem im_X6_release : Cond.instanceMethod yX6_release ∈ lw_g := lw_g_of (i := 551) (by decide +kernel) (by decide +kernel)
theorem se_X6_release : Cond.selects yX6_release.cls yX6_release yX6_release ∈ lw_g := lw_g_of (i := 552) (by decide +kernel) (by decide +kernel)
theorem ml_LevelStoreLaw_52 : Cond.methodLink "LevelStoreLaw" 52 yX6_flush ∈ lw_g := lw_g_of (i := 554) (by decide +kernel) (by decide +kernel)
theorem im_X6_flush : Cond.instanceMethod yX6_flush ∈ lw_g := lw_g_of (i := 555) (by decide +kernel) (by decide +kernel)
theorem se_X6_flush : Cond.selects yX6_flush.cls yX6_flush yX6_flush ∈ lw_g := lw_g_of (i := 556) (by decide +kernel) (by decide +kernel)
theorem ml_LevelStore_112 : Cond.methodLink "LevelStore" 112 yX2_begin ∈ lw_g := lw_g_of (i := 558) (by decide +kernel) (by decide +kernel)
theorem im_X2_begin : Cond.instanceMethod yX2_begin ∈ lw_g := lw_g_of (i := 559) (by decide +kernel) (by decide +kernel)
theorem se_X2_begin : Cond.selects yX2_begin.cls yX2_begin yX2_begin ∈ lw_g := lw_g_of (i := 560) (by decide +kernel) (by decide +kernel)
theorem ml_LevelStore_115 : Cond.methodLink "LevelStore" 115 yX6_files ∈ lw_g := lw_g_of (i := 562) (by decide +kernel) (by decide +kernel)
theorem im_X6_files : Cond.instanceMethod yX6_files ∈ lw_g := lw_g_of (i := 563) (by decide +kernel) (by decide +kernel)
theorem se_X6_files : Cond.selects yX6_files.cls yX6_files yX6_files ∈ lw_g := lw_g_of (i := 564) (by decide +kernel) (by decide +kernel)
theorem ml_LevelStore_146 : Cond.methodLink "LevelStore" 146 yX6_levelAt ∈ lw_g := lw_g_of (i := 566) (by decide +kernel) (by decide +kernel)
theorem im_X6_levelAt : Cond.instanceMethod yX6_levelAt ∈ lw_g := lw_g_of (i := 568) (by decide +kernel) (by decide +kernel)
theorem ml_LevelStore_127 : Cond.methodLink "LevelStore" 127 yX4_key ∈ lw_g := lw_g_of (i := 570) (by decide +kernel) (by decide +kernel)
theorem ml_LevelStore_130 : Cond.methodLink "LevelStore" 130 yX4_number ∈ lw_g := lw_g_of (i := 571) (by decide +kernel) (by decide +kernel)
theorem ml_LevelStore_133 : Cond.methodLink "LevelStore" 133 yX4_value ∈ lw_g := lw_g_of (i := 572) (by decide +kernel) (by decide +kernel)
theorem ml_LevelStore_136 : Cond.methodLink "LevelStore" 136 yX4_insert ∈ lw_g := lw_g_of (i := 573) (by decide +kernel) (by decide +kernel)
theorem im_X4_insert : Cond.instanceMethod yX4_insert ∈ lw_g := lw_g_of (i := 574) (by decide +kernel) (by decide +kernel)
theorem se_X4_insert : Cond.selects yX4_insert.cls yX4_insert yX4_insert ∈ lw_g := lw_g_of (i := 575) (by decide +kernel) (by decide +kernel)
theorem ml_Row_58 : Cond.methodLink "LevelStore$Row" 58 yX4_standsBehind ∈ lw_g := lw_g_of (i := 577) (by decide +kernel) (by decide +kernel)
theorem im_X4_standsBehind : Cond.instanceMethod yX4_standsBehind ∈ lw_g := lw_g_of (i := 578) (by decide +kernel) (by decide +kernel)
theorem se_X4_standsBehind : Cond.selects yX4_standsBehind.cls yX4_standsBehind yX4_standsBehind ∈ lw_g := lw_g_of (i := 579) (by decide +kernel) (by decide +kernel)
theorem ml_Row_41 : Cond.methodLink "LevelStore$Row" 41 yX4_key ∈ lw_g := lw_g_of (i := 581) (by decide +kernel) (by decide +kernel)
theorem ml_Row_54 : Cond.methodLink "LevelStore$Row" 54 yX4_copyTo ∈ lw_g := lw_g_of (i := 582) (by decide +kernel) (by decide +kernel)
theorem im_X4_copyTo : Cond.instanceMethod yX4_copyTo ∈ lw_g := lw_g_of (i := 583) (by decide +kernel) (by decide +kernel)
theorem se_X4_copyTo : Cond.selects yX4_copyTo.cls yX4_copyTo yX4_copyTo ∈ lw_g := lw_g_of (i := 584) (by decide +kernel) (by decide +kernel)
theorem ml_Row_32 : Cond.methodLink "LevelStore$Row" 32 yX4_value ∈ lw_g := lw_g_of (i := 586) (by decide +kernel) (by decide +kernel)
theorem ml_LevelStore_139 : Cond.methodLink "LevelStore" 139 yX2_decide ∈ lw_g := lw_g_of (i := 587) (by decide +kernel) (by decide +kernel)
theorem im_X2_decide : Cond.instanceMethod yX2_decide ∈ lw_g := lw_g_of (i := 588) (by decide +kernel) (by decide +kernel)
theorem se_X2_decide : Cond.selects yX2_decide.cls yX2_decide yX2_decide ∈ lw_g := lw_g_of (i := 589) (by decide +kernel) (by decide +kernel)
theorem ml_Job_54 : Cond.methodLink "LevelStore$Job" 54 yX2_isFirstOfKey ∈ lw_g := lw_g_of (i := 591) (by decide +kernel) (by decide +kernel)
theorem im_X2_isFirstOfKey : Cond.instanceMethod yX2_isFirstOfKey ∈ lw_g := lw_g_of (i := 593) (by decide +kernel) (by decide +kernel)
theorem ml_Job_77 : Cond.methodLink "LevelStore$Job" 77 yX4_key ∈ lw_g := lw_g_of (i := 595) (by decide +kernel) (by decide +kernel)
theorem ml_Job_58 : Cond.methodLink "LevelStore$Job" 58 yX2_isSeen ∈ lw_g := lw_g_of (i := 596) (by decide +kernel) (by decide +kernel)
theorem im_X2_isSeen : Cond.instanceMethod yX2_isSeen ∈ lw_g := lw_g_of (i := 598) (by decide +kernel) (by decide +kernel)
theorem ml_Job_81 : Cond.methodLink "LevelStore$Job" 81 yX4_number ∈ lw_g := lw_g_of (i := 600) (by decide +kernel) (by decide +kernel)
theorem ml_Job_62 : Cond.methodLink "LevelStore$Job" 62 yX2_leaveOutGraves ∈ lw_g := lw_g_of (i := 601) (by decide +kernel) (by decide +kernel)
theorem im_X2_leaveOutGraves : Cond.instanceMethod yX2_leaveOutGraves ∈ lw_g := lw_g_of (i := 603) (by decide +kernel) (by decide +kernel)
theorem ml_Job_65 : Cond.methodLink "LevelStore$Job" 65 yJ9_min_7cf53 ∈ lw_g := lw_g_of (i := 605) (by decide +kernel) (by decide +kernel)
theorem ml_Job_71 : Cond.methodLink "LevelStore$Job" 71 yX2_isLastOfKey ∈ lw_g := lw_g_of (i := 606) (by decide +kernel) (by decide +kernel)
theorem im_X2_isLastOfKey : Cond.instanceMethod yX2_isLastOfKey ∈ lw_g := lw_g_of (i := 608) (by decide +kernel) (by decide +kernel)
theorem ml_Job_74 : Cond.methodLink "LevelStore$Job" 74 yX4_isGrave ∈ lw_g := lw_g_of (i := 610) (by decide +kernel) (by decide +kernel)
theorem im_X4_isGrave : Cond.instanceMethod yX4_isGrave ∈ lw_g := lw_g_of (i := 611) (by decide +kernel) (by decide +kernel)
theorem se_X4_isGrave : Cond.selects yX4_isGrave.cls yX4_isGrave yX4_isGrave ∈ lw_g := lw_g_of (i := 612) (by decide +kernel) (by decide +kernel)
theorem ml_LevelStore_143 : Cond.methodLink "LevelStore" 143 yX2_left ∈ lw_g := lw_g_of (i := 614) (by decide +kernel) (by decide +kernel)
theorem im_X2_left : Cond.instanceMethod yX2_left ∈ lw_g := lw_g_of (i := 615) (by decide +kernel) (by decide +kernel)
theorem se_X2_left : Cond.selects yX2_left.cls yX2_left yX2_left ∈ lw_g := lw_g_of (i := 616) (by decide +kernel) (by decide +kernel)
theorem ml_LevelStoreLaw_56 : Cond.methodLink "LevelStoreLaw" 56 yX6_merge ∈ lw_g := lw_g_of (i := 618) (by decide +kernel) (by decide +kernel)
theorem im_X6_merge : Cond.instanceMethod yX6_merge ∈ lw_g := lw_g_of (i := 619) (by decide +kernel) (by decide +kernel)
theorem se_X6_merge : Cond.selects yX6_merge.cls yX6_merge yX6_merge ∈ lw_g := lw_g_of (i := 620) (by decide +kernel) (by decide +kernel)
theorem ml_LevelStore_150 : Cond.methodLink "LevelStore" 150 yX1_at ∈ lw_g := lw_g_of (i := 622) (by decide +kernel) (by decide +kernel)
theorem ml_LevelStore_162 : Cond.methodLink "LevelStore" 162 yX1_leastKey ∈ lw_g := lw_g_of (i := 623) (by decide +kernel) (by decide +kernel)
theorem im_X1_leastKey : Cond.instanceMethod yX1_leastKey ∈ lw_g := lw_g_of (i := 624) (by decide +kernel) (by decide +kernel)
theorem se_X1_leastKey : Cond.selects yX1_leastKey.cls yX1_leastKey yX1_leastKey ∈ lw_g := lw_g_of (i := 625) (by decide +kernel) (by decide +kernel)
theorem ml_FileRow_46 : Cond.methodLink "LevelStore$FileRow" 46 yX5_leastKey ∈ lw_g := lw_g_of (i := 627) (by decide +kernel) (by decide +kernel)
theorem ml_FileRow_49 : Cond.methodLink "LevelStore$FileRow" 49 yJ9_min_7cf53 ∈ lw_g := lw_g_of (i := 628) (by decide +kernel) (by decide +kernel)
theorem ml_LevelStore_165 : Cond.methodLink "LevelStore" 165 yX1_howManyEndBelow ∈ lw_g := lw_g_of (i := 629) (by decide +kernel) (by decide +kernel)
theorem im_X1_howManyEndBelow : Cond.instanceMethod yX1_howManyEndBelow ∈ lw_g := lw_g_of (i := 630) (by decide +kernel) (by decide +kernel)
theorem se_X1_howManyEndBelow : Cond.selects yX1_howManyEndBelow.cls yX1_howManyEndBelow yX1_howManyEndBelow ∈ lw_g := lw_g_of (i := 631) (by decide +kernel) (by decide +kernel)
theorem ml_FileRow_55 : Cond.methodLink "LevelStore$FileRow" 55 yX5_greatestKey ∈ lw_g := lw_g_of (i := 633) (by decide +kernel) (by decide +kernel)
theorem ml_LevelStore_168 : Cond.methodLink "LevelStore" 168 yX1_greatestKey ∈ lw_g := lw_g_of (i := 634) (by decide +kernel) (by decide +kernel)
theorem im_X1_greatestKey : Cond.instanceMethod yX1_greatestKey ∈ lw_g := lw_g_of (i := 635) (by decide +kernel) (by decide +kernel)
theorem se_X1_greatestKey : Cond.selects yX1_greatestKey.cls yX1_greatestKey yX1_greatestKey ∈ lw_g := lw_g_of (i := 636) (by decide +kernel) (by decide +kernel)
theorem ml_LevelStore_171 : Cond.methodLink "LevelStore" 171 yX1_howManyBeginUpTo ∈ lw_g := lw_g_of (i := 638) (by decide +kernel) (by decide +kernel)
theorem im_X1_howManyBeginUpTo : Cond.instanceMethod yX1_howManyBeginUpTo ∈ lw_g := lw_g_of (i := 639) (by decide +kernel) (by decide +kernel)
theorem se_X1_howManyBeginUpTo : Cond.selects yX1_howManyBeginUpTo.cls yX1_howManyBeginUpTo yX1_howManyBeginUpTo ∈ lw_g := lw_g_of (i := 640) (by decide +kernel) (by decide +kernel)
theorem ml_LevelStore_174 : Cond.methodLink "LevelStore" 174 yX1_mergeInto ∈ lw_g := lw_g_of (i := 642) (by decide +kernel) (by decide +kernel)
theorem im_X1_mergeInto : Cond.instanceMethod yX1_mergeInto ∈ lw_g := lw_g_of (i := 643) (by decide +kernel) (by decide +kernel)
theorem se_X1_mergeInto : Cond.selects yX1_mergeInto.cls yX1_mergeInto yX1_mergeInto ∈ lw_g := lw_g_of (i := 644) (by decide +kernel) (by decide +kernel)
theorem ml_FileRow_65 : Cond.methodLink "LevelStore$FileRow" 65 yX4_mergeIn ∈ lw_g := lw_g_of (i := 646) (by decide +kernel) (by decide +kernel)
theorem im_X4_mergeIn : Cond.instanceMethod yX4_mergeIn ∈ lw_g := lw_g_of (i := 647) (by decide +kernel) (by decide +kernel)
theorem se_X4_mergeIn : Cond.selects yX4_mergeIn.cls yX4_mergeIn yX4_mergeIn ∈ lw_g := lw_g_of (i := 648) (by decide +kernel) (by decide +kernel)
theorem ml_LevelStoreLaw_60 : Cond.methodLink "LevelStoreLaw" 60 yX6_work ∈ lw_g := lw_g_of (i := 650) (by decide +kernel) (by decide +kernel)
theorem im_X6_work : Cond.instanceMethod yX6_work ∈ lw_g := lw_g_of (i := 651) (by decide +kernel) (by decide +kernel)
theorem se_X6_work : Cond.selects yX6_work.cls yX6_work yX6_work ∈ lw_g := lw_g_of (i := 652) (by decide +kernel) (by decide +kernel)
theorem ml_LevelStore_178 : Cond.methodLink "LevelStore" 178 yX6_doOneEntry ∈ lw_g := lw_g_of (i := 654) (by decide +kernel) (by decide +kernel)
theorem im_X6_doOneEntry : Cond.instanceMethod yX6_doOneEntry ∈ lw_g := lw_g_of (i := 656) (by decide +kernel) (by decide +kernel)
theorem ml_LevelStore_284 : Cond.methodLink "LevelStore" 284 yX2_isLeftOut ∈ lw_g := lw_g_of (i := 658) (by decide +kernel) (by decide +kernel)
theorem im_X2_isLeftOut : Cond.instanceMethod yX2_isLeftOut ∈ lw_g := lw_g_of (i := 659) (by decide +kernel) (by decide +kernel)
theorem se_X2_isLeftOut : Cond.selects yX2_isLeftOut.cls yX2_isLeftOut yX2_isLeftOut ∈ lw_g := lw_g_of (i := 660) (by decide +kernel) (by decide +kernel)
theorem ml_LevelStore_287 : Cond.methodLink "LevelStore" 287 yX2_endsFileAhead ∈ lw_g := lw_g_of (i := 662) (by decide +kernel) (by decide +kernel)
theorem im_X2_endsFileAhead : Cond.instanceMethod yX2_endsFileAhead ∈ lw_g := lw_g_of (i := 663) (by decide +kernel) (by decide +kernel)
theorem se_X2_endsFileAhead : Cond.selects yX2_endsFileAhead.cls yX2_endsFileAhead yX2_endsFileAhead ∈ lw_g := lw_g_of (i := 664) (by decide +kernel) (by decide +kernel)
theorem ml_LevelStore_182 : Cond.methodLink "LevelStore" 182 yX6_endFile ∈ lw_g := lw_g_of (i := 666) (by decide +kernel) (by decide +kernel)
theorem im_X6_endFile : Cond.instanceMethod yX6_endFile ∈ lw_g := lw_g_of (i := 668) (by decide +kernel) (by decide +kernel)
theorem ml_LevelStore_293 : Cond.methodLink "LevelStore" 293 yX6_freshFile ∈ lw_g := lw_g_of (i := 670) (by decide +kernel) (by decide +kernel)
theorem im_X6_freshFile : Cond.instanceMethod yX6_freshFile ∈ lw_g := lw_g_of (i := 672) (by decide +kernel) (by decide +kernel)
theorem cl_LevelStore_213 : Cond.classLink "LevelStore" 213 "LevelStore$SortedFile" ∈ lw_g := lw_g_of (i := 674) (by decide +kernel) (by decide +kernel)
theorem in_SortedFile : Cond.instantiable "LevelStore$SortedFile" 4 ∈ lw_g := lw_g_of (i := 675) (by decide +kernel) (by decide +kernel)
theorem ml_LevelStore_309 : Cond.methodLink "LevelStore" 309 yX5_init ∈ lw_g := lw_g_of (i := 676) (by decide +kernel) (by decide +kernel)
theorem im_X5_init : Cond.instanceMethod yX5_init ∈ lw_g := lw_g_of (i := 677) (by decide +kernel) (by decide +kernel)
theorem ml_SortedFile_3 : Cond.methodLink "LevelStore$SortedFile" 3 Lib.objectInit ∈ lw_g := lw_g_of (i := 679) (by decide +kernel) (by decide +kernel)
theorem cl_SortedFile_9 : Cond.classLink "LevelStore$SortedFile" 9 "LevelStore$Row" ∈ lw_g := lw_g_of (i := 680) (by decide +kernel) (by decide +kernel)
theorem ml_SortedFile_11 : Cond.methodLink "LevelStore$SortedFile" 11 yX4_init ∈ lw_g := lw_g_of (i := 681) (by decide +kernel) (by decide +kernel)
theorem fl_SortedFile_14 : ab_FL "LevelStore$SortedFile" 14 6 0 RX5 TX5 4 := ⟨ab_k6, by decide, "LevelStore$SortedFile", lw_g_of (i := 682) (by decide +kernel) (by decide +kernel), Or.inl rfl⟩
theorem fl_Field_22 : ab_FL "LevelStore$Field" 22 6 0 RX5 TX5 4 := ⟨ab_k6, by decide, "LevelStore$SortedFile", lw_g_of (i := 683) (by decide +kernel) (by decide +kernel), Or.inl rfl⟩
theorem fl_FileRow_61 : ab_FL "LevelStore$FileRow" 61 6 0 RX5 TX5 4 := ⟨ab_k6, by decide, "LevelStore$SortedFile", lw_g_of (i := 684) (by decide +kernel) (by decide +kernel), Or.inl rfl⟩
theorem fl_LevelStore_216 : ab_FL "LevelStore" 216 6 0 RX5 TX5 4 := ⟨ab_k6, by decide, "LevelStore$SortedFile", lw_g_of (i := 685) (by decide +kernel) (by decide +kernel), Or.inl rfl⟩
theorem fl_LevelStore_212 : ab_FL "LevelStore" 212 6 1 RX5 TX5 4 := ⟨ab_k6, by decide, "LevelStore$SortedFile", lw_g_of (i := 686) (by decide +kernel) (by decide +kernel), Or.inl rfl⟩
theorem fl_Field_40 : ab_FL "LevelStore$Field" 40 6 2 RX5 TX5 4 := ⟨ab_k6, by decide, "LevelStore$SortedFile", lw_g_of (i := 687) (by decide +kernel) (by decide +kernel), Or.inl rfl⟩
theorem fl_LevelStore_223 : ab_FL "LevelStore" 223 6 2 RX5 TX5 4 := ⟨ab_k6, by decide, "LevelStore$SortedFile", lw_g_of (i := 688) (by decide +kernel) (by decide +kernel), Or.inl rfl⟩
theorem fl_Field_43 : ab_FL "LevelStore$Field" 43 6 3 RX5 TX5 4 := ⟨ab_k6, by decide, "LevelStore$SortedFile", lw_g_of (i := 689) (by decide +kernel) (by decide +kernel), Or.inl rfl⟩
theorem fl_FileRow_80 : ab_FL "LevelStore$FileRow" 80 6 3 RX5 TX5 4 := ⟨ab_k6, by decide, "LevelStore$SortedFile", lw_g_of (i := 690) (by decide +kernel) (by decide +kernel), Or.inl rfl⟩
theorem fl_LevelStore_226 : ab_FL "LevelStore" 226 6 3 RX5 TX5 4 := ⟨ab_k6, by decide, "LevelStore$SortedFile", lw_g_of (i := 691) (by decide +kernel) (by decide +kernel), Or.inl rfl⟩
theorem ml_LevelStore_297 : Cond.methodLink "LevelStore" 297 yX4_takeAll ∈ lw_g := lw_g_of (i := 701) (by decide +kernel) (by decide +kernel)
theorem im_X4_takeAll : Cond.instanceMethod yX4_takeAll ∈ lw_g := lw_g_of (i := 702) (by decide +kernel) (by decide +kernel)
theorem se_X4_takeAll : Cond.selects yX4_takeAll.cls yX4_takeAll yX4_takeAll ∈ lw_g := lw_g_of (i := 703) (by decide +kernel) (by decide +kernel)
theorem ml_Row_51 : Cond.methodLink "LevelStore$Row" 51 yJ9_min_7cf53 ∈ lw_g := lw_g_of (i := 705) (by decide +kernel) (by decide +kernel)
theorem ml_LevelStore_300 : Cond.methodLink "LevelStore" 300 yX0_lay ∈ lw_g := lw_g_of (i := 706) (by decide +kernel) (by decide +kernel)
theorem im_X0_lay : Cond.instanceMethod yX0_lay ∈ lw_g := lw_g_of (i := 707) (by decide +kernel) (by decide +kernel)
theorem se_X0_lay : Cond.selects yX0_lay.cls yX0_lay yX0_lay ∈ lw_g := lw_g_of (i := 708) (by decide +kernel) (by decide +kernel)
theorem ml_Field_28 : Cond.methodLink "LevelStore$Field" 28 yX0_encode ∈ lw_g := lw_g_of (i := 710) (by decide +kernel) (by decide +kernel)
theorem im_X0_encode : Cond.instanceMethod yX0_encode ∈ lw_g := lw_g_of (i := 712) (by decide +kernel) (by decide +kernel)
theorem ml_Field_59 : Cond.methodLink "LevelStore$Field" 59 yX0_emit ∈ lw_g := lw_g_of (i := 714) (by decide +kernel) (by decide +kernel)
theorem im_X0_emit : Cond.instanceMethod yX0_emit ∈ lw_g := lw_g_of (i := 716) (by decide +kernel) (by decide +kernel)
theorem ml_Field_63 : Cond.methodLink "LevelStore$Field" 63 yX4_key ∈ lw_g := lw_g_of (i := 718) (by decide +kernel) (by decide +kernel)
theorem ml_Field_66 : Cond.methodLink "LevelStore$Field" 66 yX0_emitShort ∈ lw_g := lw_g_of (i := 719) (by decide +kernel) (by decide +kernel)
theorem im_X0_emitShort : Cond.instanceMethod yX0_emitShort ∈ lw_g := lw_g_of (i := 721) (by decide +kernel) (by decide +kernel)
theorem ml_Field_69 : Cond.methodLink "LevelStore$Field" 69 yX4_number ∈ lw_g := lw_g_of (i := 723) (by decide +kernel) (by decide +kernel)
theorem ml_Field_72 : Cond.methodLink "LevelStore$Field" 72 yX4_isGrave ∈ lw_g := lw_g_of (i := 724) (by decide +kernel) (by decide +kernel)
theorem ml_Field_75 : Cond.methodLink "LevelStore$Field" 75 yX4_value ∈ lw_g := lw_g_of (i := 725) (by decide +kernel) (by decide +kernel)
theorem ml_Field_78 : Cond.methodLink "LevelStore$Field" 78 yX0_folded ∈ lw_g := lw_g_of (i := 726) (by decide +kernel) (by decide +kernel)
theorem sm_X0_folded : Cond.static yX0_folded ∈ lw_g := lw_g_of (i := 727) (by decide +kernel) (by decide +kernel)
theorem ml_Field_81 : Cond.methodLink "LevelStore$Field" 81 yX0_sumOfCode ∈ lw_g := lw_g_of (i := 729) (by decide +kernel) (by decide +kernel)
theorem im_X0_sumOfCode : Cond.instanceMethod yX0_sumOfCode ∈ lw_g := lw_g_of (i := 731) (by decide +kernel) (by decide +kernel)
theorem ml_Field_36 : Cond.methodLink "LevelStore$Field" 36 yX0_firstRoom ∈ lw_g := lw_g_of (i := 733) (by decide +kernel) (by decide +kernel)
theorem im_X0_firstRoom : Cond.instanceMethod yX0_firstRoom ∈ lw_g := lw_g_of (i := 735) (by decide +kernel) (by decide +kernel)
theorem ml_LevelStoreLaw_64 : Cond.methodLink "LevelStoreLaw" 64 yX6_install ∈ lw_g := lw_g_of (i := 737) (by decide +kernel) (by decide +kernel)
theorem im_X6_install : Cond.instanceMethod yX6_install ∈ lw_g := lw_g_of (i := 738) (by decide +kernel) (by decide +kernel)
theorem se_X6_install : Cond.selects yX6_install.cls yX6_install yX6_install ∈ lw_g := lw_g_of (i := 739) (by decide +kernel) (by decide +kernel)
theorem ml_LevelStore_199 : Cond.methodLink "LevelStore" 199 yX1_insert ∈ lw_g := lw_g_of (i := 741) (by decide +kernel) (by decide +kernel)
theorem ml_LevelStore_202 : Cond.methodLink "LevelStore" 202 yX6_loseFirstLogged ∈ lw_g := lw_g_of (i := 742) (by decide +kernel) (by decide +kernel)
theorem im_X6_loseFirstLogged : Cond.instanceMethod yX6_loseFirstLogged ∈ lw_g := lw_g_of (i := 744) (by decide +kernel) (by decide +kernel)
theorem ml_LevelStore_258 : Cond.methodLink "LevelStore" 258 yX4_loseFirst ∈ lw_g := lw_g_of (i := 746) (by decide +kernel) (by decide +kernel)
theorem im_X4_loseFirst : Cond.instanceMethod yX4_loseFirst ∈ lw_g := lw_g_of (i := 747) (by decide +kernel) (by decide +kernel)
theorem se_X4_loseFirst : Cond.selects yX4_loseFirst.cls yX4_loseFirst yX4_loseFirst ∈ lw_g := lw_g_of (i := 748) (by decide +kernel) (by decide +kernel)
theorem ml_LevelStoreLaw_68 : Cond.methodLink "LevelStoreLaw" 68 yX6_stop ∈ lw_g := lw_g_of (i := 750) (by decide +kernel) (by decide +kernel)
theorem im_X6_stop : Cond.instanceMethod yX6_stop ∈ lw_g := lw_g_of (i := 751) (by decide +kernel) (by decide +kernel)
theorem se_X6_stop : Cond.selects yX6_stop.cls yX6_stop yX6_stop ∈ lw_g := lw_g_of (i := 752) (by decide +kernel) (by decide +kernel)
theorem ml_LevelStoreLaw_72 : Cond.methodLink "LevelStoreLaw" 72 yX6_high ∈ lw_g := lw_g_of (i := 754) (by decide +kernel) (by decide +kernel)
theorem im_X6_high : Cond.instanceMethod yX6_high ∈ lw_g := lw_g_of (i := 755) (by decide +kernel) (by decide +kernel)
theorem se_X6_high : Cond.selects yX6_high.cls yX6_high yX6_high ∈ lw_g := lw_g_of (i := 756) (by decide +kernel) (by decide +kernel)
theorem ml_LevelStoreLaw_76 : Cond.methodLink "LevelStoreLaw" 76 yX6_files ∈ lw_g := lw_g_of (i := 758) (by decide +kernel) (by decide +kernel)
theorem ml_LevelStoreLaw_80 : Cond.methodLink "LevelStoreLaw" 80 yX6_file ∈ lw_g := lw_g_of (i := 759) (by decide +kernel) (by decide +kernel)
theorem im_X6_file : Cond.instanceMethod yX6_file ∈ lw_g := lw_g_of (i := 760) (by decide +kernel) (by decide +kernel)
theorem se_X6_file : Cond.selects yX6_file.cls yX6_file yX6_file ∈ lw_g := lw_g_of (i := 761) (by decide +kernel) (by decide +kernel)
theorem ml_LevelStore_208 : Cond.methodLink "LevelStore" 208 yX6_fileAt ∈ lw_g := lw_g_of (i := 763) (by decide +kernel) (by decide +kernel)
theorem im_X6_fileAt : Cond.instanceMethod yX6_fileAt ∈ lw_g := lw_g_of (i := 765) (by decide +kernel) (by decide +kernel)
theorem ml_LevelStore_219 : Cond.methodLink "LevelStore" 219 yX5_leastKey ∈ lw_g := lw_g_of (i := 767) (by decide +kernel) (by decide +kernel)
theorem ml_LevelStore_221 : Cond.methodLink "LevelStore" 221 yX5_greatestKey ∈ lw_g := lw_g_of (i := 768) (by decide +kernel) (by decide +kernel)
theorem ml_LevelStoreLaw_85 : Cond.methodLink "LevelStoreLaw" 85 yX6_entry ∈ lw_g := lw_g_of (i := 769) (by decide +kernel) (by decide +kernel)
theorem im_X6_entry : Cond.instanceMethod yX6_entry ∈ lw_g := lw_g_of (i := 770) (by decide +kernel) (by decide +kernel)
theorem se_X6_entry : Cond.selects yX6_entry.cls yX6_entry yX6_entry ∈ lw_g := lw_g_of (i := 771) (by decide +kernel) (by decide +kernel)
theorem ml_LevelStore_229 : Cond.methodLink "LevelStore" 229 yX4_told ∈ lw_g := lw_g_of (i := 773) (by decide +kernel) (by decide +kernel)
theorem im_X4_told : Cond.instanceMethod yX4_told ∈ lw_g := lw_g_of (i := 774) (by decide +kernel) (by decide +kernel)
theorem se_X4_told : Cond.selects yX4_told.cls yX4_told yX4_told ∈ lw_g := lw_g_of (i := 775) (by decide +kernel) (by decide +kernel)
theorem cn_Row_40 : Cond.constant "LevelStore$Row" 40 (-1000002 : Int32) ∈ lw_g := lw_g_of (i := 777) (by decide +kernel) (by decide +kernel)
theorem ml_LevelStoreLaw_90 : Cond.methodLink "LevelStoreLaw" 90 yX6_byteAt ∈ lw_g := lw_g_of (i := 778) (by decide +kernel) (by decide +kernel)
theorem im_X6_byteAt : Cond.instanceMethod yX6_byteAt ∈ lw_g := lw_g_of (i := 779) (by decide +kernel) (by decide +kernel)
theorem se_X6_byteAt : Cond.selects yX6_byteAt.cls yX6_byteAt yX6_byteAt ∈ lw_g := lw_g_of (i := 780) (by decide +kernel) (by decide +kernel)
theorem ml_LevelStore_232 : Cond.methodLink "LevelStore" 232 yX0_has ∈ lw_g := lw_g_of (i := 782) (by decide +kernel) (by decide +kernel)
theorem ml_LevelStoreLaw_94 : Cond.methodLink "LevelStoreLaw" 94 yX6_log ∈ lw_g := lw_g_of (i := 783) (by decide +kernel) (by decide +kernel)
theorem im_X6_log : Cond.instanceMethod yX6_log ∈ lw_g := lw_g_of (i := 784) (by decide +kernel) (by decide +kernel)
theorem se_X6_log : Cond.selects yX6_log.cls yX6_log yX6_log ∈ lw_g := lw_g_of (i := 785) (by decide +kernel) (by decide +kernel)
theorem ml_LevelStoreLaw_98 : Cond.methodLink "LevelStoreLaw" 98 yX6_count ∈ lw_g := lw_g_of (i := 787) (by decide +kernel) (by decide +kernel)
theorem im_X6_count : Cond.instanceMethod yX6_count ∈ lw_g := lw_g_of (i := 788) (by decide +kernel) (by decide +kernel)
theorem se_X6_count : Cond.selects yX6_count.cls yX6_count yX6_count ∈ lw_g := lw_g_of (i := 789) (by decide +kernel) (by decide +kernel)
theorem ml_LevelStore_238 : Cond.methodLink "LevelStore" 238 yX6_filesInForce ∈ lw_g := lw_g_of (i := 791) (by decide +kernel) (by decide +kernel)
theorem im_X6_filesInForce : Cond.instanceMethod yX6_filesInForce ∈ lw_g := lw_g_of (i := 793) (by decide +kernel) (by decide +kernel)
theorem ml_LevelStore_241 : Cond.methodLink "LevelStore" 241 yX6_bytesInForce ∈ lw_g := lw_g_of (i := 795) (by decide +kernel) (by decide +kernel)
theorem im_X6_bytesInForce : Cond.instanceMethod yX6_bytesInForce ∈ lw_g := lw_g_of (i := 797) (by decide +kernel) (by decide +kernel)
theorem ml_LevelStore_313 : Cond.methodLink "LevelStore" 313 yX1_bytes ∈ lw_g := lw_g_of (i := 799) (by decide +kernel) (by decide +kernel)
theorem im_X1_bytes : Cond.instanceMethod yX1_bytes ∈ lw_g := lw_g_of (i := 800) (by decide +kernel) (by decide +kernel)
theorem se_X1_bytes : Cond.selects yX1_bytes.cls yX1_bytes yX1_bytes ∈ lw_g := lw_g_of (i := 801) (by decide +kernel) (by decide +kernel)
theorem ml_LevelStore_247 : Cond.methodLink "LevelStore" 247 yX6_entriesInForce ∈ lw_g := lw_g_of (i := 803) (by decide +kernel) (by decide +kernel)
theorem im_X6_entriesInForce : Cond.instanceMethod yX6_entriesInForce ∈ lw_g := lw_g_of (i := 805) (by decide +kernel) (by decide +kernel)
theorem ml_LevelStore_315 : Cond.methodLink "LevelStore" 315 yX1_entries ∈ lw_g := lw_g_of (i := 807) (by decide +kernel) (by decide +kernel)
theorem im_X1_entries : Cond.instanceMethod yX1_entries ∈ lw_g := lw_g_of (i := 808) (by decide +kernel) (by decide +kernel)
theorem se_X1_entries : Cond.selects yX1_entries.cls yX1_entries yX1_entries ∈ lw_g := lw_g_of (i := 809) (by decide +kernel) (by decide +kernel)
theorem ml_LevelStoreLaw_102 : Cond.methodLink "LevelStoreLaw" 102 yX6_check ∈ lw_g := lw_g_of (i := 811) (by decide +kernel) (by decide +kernel)
theorem im_X6_check : Cond.instanceMethod yX6_check ∈ lw_g := lw_g_of (i := 812) (by decide +kernel) (by decide +kernel)
theorem se_X6_check : Cond.selects yX6_check.cls yX6_check yX6_check ∈ lw_g := lw_g_of (i := 813) (by decide +kernel) (by decide +kernel)
theorem ml_LevelStore_250 : Cond.methodLink "LevelStore" 250 yX0_holds ∈ lw_g := lw_g_of (i := 815) (by decide +kernel) (by decide +kernel)
theorem im_X0_holds : Cond.instanceMethod yX0_holds ∈ lw_g := lw_g_of (i := 816) (by decide +kernel) (by decide +kernel)
theorem se_X0_holds : Cond.selects yX0_holds.cls yX0_holds yX0_holds ∈ lw_g := lw_g_of (i := 817) (by decide +kernel) (by decide +kernel)
theorem cl_LevelStoreLaw_10 : Cond.classLink "LevelStoreLaw" 10 "LevelStoreModel" ∈ lw_g := lw_g_of (i := 819) (by decide +kernel) (by decide +kernel)
theorem in_LevelStoreModel : Cond.instantiable "LevelStoreModel" 41 ∈ lw_g := lw_g_of (i := 820) (by decide +kernel) (by decide +kernel)
theorem ml_LevelStoreLaw_12 : Cond.methodLink "LevelStoreLaw" 12 yX7_init ∈ lw_g := lw_g_of (i := 821) (by decide +kernel) (by decide +kernel)
theorem im_X7_init : Cond.instanceMethod yX7_init ∈ lw_g := lw_g_of (i := 822) (by decide +kernel) (by decide +kernel)
theorem ml_LevelStoreModel_1 : Cond.methodLink "LevelStoreModel" 1 Lib.objectInit ∈ lw_g := lw_g_of (i := 824) (by decide +kernel) (by decide +kernel)
theorem fl_LevelStoreModel_89 : ab_FL "LevelStoreModel" 89 8 0 RX7 TX7 41 := ⟨ab_k8, by decide, "LevelStoreModel", lw_g_of (i := 825) (by decide +kernel) (by decide +kernel), Or.inl rfl⟩
theorem fl_LevelStoreModel_93 : ab_FL "LevelStoreModel" 93 8 1 RX7 TX7 41 := ⟨ab_k8, by decide, "LevelStoreModel", lw_g_of (i := 826) (by decide +kernel) (by decide +kernel), Or.inl rfl⟩
theorem fl_LevelStoreModel_117 : ab_FL "LevelStoreModel" 117 8 2 RX7 TX7 41 := ⟨ab_k8, by decide, "LevelStoreModel", lw_g_of (i := 827) (by decide +kernel) (by decide +kernel), Or.inl rfl⟩
theorem fl_LevelStoreModel_7 : ab_FL "LevelStoreModel" 7 8 3 RX7 TX7 41 := ⟨ab_k8, by decide, "LevelStoreModel", lw_g_of (i := 828) (by decide +kernel) (by decide +kernel), Or.inl rfl⟩
theorem fl_LevelStoreModel_13 : ab_FL "LevelStoreModel" 13 8 4 RX7 TX7 41 := ⟨ab_k8, by decide, "LevelStoreModel", lw_g_of (i := 829) (by decide +kernel) (by decide +kernel), Or.inl rfl⟩
theorem fl_LevelStoreModel_16 : ab_FL "LevelStoreModel" 16 8 5 RX7 TX7 41 := ⟨ab_k8, by decide, "LevelStoreModel", lw_g_of (i := 830) (by decide +kernel) (by decide +kernel), Or.inl rfl⟩
theorem fl_LevelStoreModel_96 : ab_FL "LevelStoreModel" 96 8 6 RX7 TX7 41 := ⟨ab_k8, by decide, "LevelStoreModel", lw_g_of (i := 831) (by decide +kernel) (by decide +kernel), Or.inl rfl⟩
theorem fl_LevelStoreModel_19 : ab_FL "LevelStoreModel" 19 8 7 RX7 TX7 41 := ⟨ab_k8, by decide, "LevelStoreModel", lw_g_of (i := 832) (by decide +kernel) (by decide +kernel), Or.inl rfl⟩
theorem fl_LevelStoreModel_22 : ab_FL "LevelStoreModel" 22 8 8 RX7 TX7 41 := ⟨ab_k8, by decide, "LevelStoreModel", lw_g_of (i := 833) (by decide +kernel) (by decide +kernel), Or.inl rfl⟩
theorem fl_LevelStoreModel_25 : ab_FL "LevelStoreModel" 25 8 9 RX7 TX7 41 := ⟨ab_k8, by decide, "LevelStoreModel", lw_g_of (i := 834) (by decide +kernel) (by decide +kernel), Or.inl rfl⟩
theorem fl_LevelStoreModel_28 : ab_FL "LevelStoreModel" 28 8 10 RX7 TX7 41 := ⟨ab_k8, by decide, "LevelStoreModel", lw_g_of (i := 835) (by decide +kernel) (by decide +kernel), Or.inl rfl⟩
theorem fl_LevelStoreModel_31 : ab_FL "LevelStoreModel" 31 8 11 RX7 TX7 41 := ⟨ab_k8, by decide, "LevelStoreModel", lw_g_of (i := 836) (by decide +kernel) (by decide +kernel), Or.inl rfl⟩
theorem fl_LevelStoreModel_34 : ab_FL "LevelStoreModel" 34 8 12 RX7 TX7 41 := ⟨ab_k8, by decide, "LevelStoreModel", lw_g_of (i := 837) (by decide +kernel) (by decide +kernel), Or.inl rfl⟩
theorem fl_LevelStoreModel_37 : ab_FL "LevelStoreModel" 37 8 13 RX7 TX7 41 := ⟨ab_k8, by decide, "LevelStoreModel", lw_g_of (i := 838) (by decide +kernel) (by decide +kernel), Or.inl rfl⟩
theorem fl_LevelStoreModel_40 : ab_FL "LevelStoreModel" 40 8 14 RX7 TX7 41 := ⟨ab_k8, by decide, "LevelStoreModel", lw_g_of (i := 839) (by decide +kernel) (by decide +kernel), Or.inl rfl⟩
theorem fl_LevelStoreModel_43 : ab_FL "LevelStoreModel" 43 8 15 RX7 TX7 41 := ⟨ab_k8, by decide, "LevelStoreModel", lw_g_of (i := 840) (by decide +kernel) (by decide +kernel), Or.inl rfl⟩
theorem fl_LevelStoreModel_201 : ab_FL "LevelStoreModel" 201 8 16 RX7 TX7 41 := ⟨ab_k8, by decide, "LevelStoreModel", lw_g_of (i := 841) (by decide +kernel) (by decide +kernel), Or.inl rfl⟩
theorem fl_LevelStoreModel_46 : ab_FL "LevelStoreModel" 46 8 17 RX7 TX7 41 := ⟨ab_k8, by decide, "LevelStoreModel", lw_g_of (i := 842) (by decide +kernel) (by decide +kernel), Or.inl rfl⟩
theorem fl_LevelStoreModel_137 : ab_FL "LevelStoreModel" 137 8 18 RX7 TX7 41 := ⟨ab_k8, by decide, "LevelStoreModel", lw_g_of (i := 843) (by decide +kernel) (by decide +kernel), Or.inl rfl⟩
theorem fl_LevelStoreModel_49 : ab_FL "LevelStoreModel" 49 8 19 RX7 TX7 41 := ⟨ab_k8, by decide, "LevelStoreModel", lw_g_of (i := 844) (by decide +kernel) (by decide +kernel), Or.inl rfl⟩
theorem fl_LevelStoreModel_143 : ab_FL "LevelStoreModel" 143 8 20 RX7 TX7 41 := ⟨ab_k8, by decide, "LevelStoreModel", lw_g_of (i := 845) (by decide +kernel) (by decide +kernel), Or.inl rfl⟩
theorem fl_LevelStoreModel_150 : ab_FL "LevelStoreModel" 150 8 21 RX7 TX7 41 := ⟨ab_k8, by decide, "LevelStoreModel", lw_g_of (i := 846) (by decide +kernel) (by decide +kernel), Or.inl rfl⟩
theorem fl_LevelStoreModel_140 : ab_FL "LevelStoreModel" 140 8 22 RX7 TX7 41 := ⟨ab_k8, by decide, "LevelStoreModel", lw_g_of (i := 847) (by decide +kernel) (by decide +kernel), Or.inl rfl⟩
theorem fl_LevelStoreModel_153 : ab_FL "LevelStoreModel" 153 8 23 RX7 TX7 41 := ⟨ab_k8, by decide, "LevelStoreModel", lw_g_of (i := 848) (by decide +kernel) (by decide +kernel), Or.inl rfl⟩
theorem fl_LevelStoreModel_52 : ab_FL "LevelStoreModel" 52 8 24 RX7 TX7 41 := ⟨ab_k8, by decide, "LevelStoreModel", lw_g_of (i := 849) (by decide +kernel) (by decide +kernel), Or.inl rfl⟩
theorem fl_LevelStoreModel_55 : ab_FL "LevelStoreModel" 55 8 25 RX7 TX7 41 := ⟨ab_k8, by decide, "LevelStoreModel", lw_g_of (i := 850) (by decide +kernel) (by decide +kernel), Or.inl rfl⟩
theorem fl_LevelStoreModel_58 : ab_FL "LevelStoreModel" 58 8 26 RX7 TX7 41 := ⟨ab_k8, by decide, "LevelStoreModel", lw_g_of (i := 851) (by decide +kernel) (by decide +kernel), Or.inl rfl⟩
theorem fl_LevelStoreModel_61 : ab_FL "LevelStoreModel" 61 8 27 RX7 TX7 41 := ⟨ab_k8, by decide, "LevelStoreModel", lw_g_of (i := 852) (by decide +kernel) (by decide +kernel), Or.inl rfl⟩
theorem fl_LevelStoreModel_65 : ab_FL "LevelStoreModel" 65 8 28 RX7 TX7 41 := ⟨ab_k8, by decide, "LevelStoreModel", lw_g_of (i := 853) (by decide +kernel) (by decide +kernel), Or.inl rfl⟩
theorem fl_LevelStoreModel_166 : ab_FL "LevelStoreModel" 166 8 29 RX7 TX7 41 := ⟨ab_k8, by decide, "LevelStoreModel", lw_g_of (i := 854) (by decide +kernel) (by decide +kernel), Or.inl rfl⟩
theorem fl_LevelStoreModel_156 : ab_FL "LevelStoreModel" 156 8 30 RX7 TX7 41 := ⟨ab_k8, by decide, "LevelStoreModel", lw_g_of (i := 855) (by decide +kernel) (by decide +kernel), Or.inl rfl⟩
theorem fl_LevelStoreModel_147 : ab_FL "LevelStoreModel" 147 8 31 RX7 TX7 41 := ⟨ab_k8, by decide, "LevelStoreModel", lw_g_of (i := 856) (by decide +kernel) (by decide +kernel), Or.inl rfl⟩
theorem fl_LevelStoreModel_159 : ab_FL "LevelStoreModel" 159 8 32 RX7 TX7 41 := ⟨ab_k8, by decide, "LevelStoreModel", lw_g_of (i := 857) (by decide +kernel) (by decide +kernel), Or.inl rfl⟩
theorem fl_LevelStoreModel_68 : ab_FL "LevelStoreModel" 68 8 33 RX7 TX7 41 := ⟨ab_k8, by decide, "LevelStoreModel", lw_g_of (i := 858) (by decide +kernel) (by decide +kernel), Or.inl rfl⟩
theorem fl_LevelStoreModel_71 : ab_FL "LevelStoreModel" 71 8 34 RX7 TX7 41 := ⟨ab_k8, by decide, "LevelStoreModel", lw_g_of (i := 859) (by decide +kernel) (by decide +kernel), Or.inl rfl⟩
theorem fl_LevelStoreModel_74 : ab_FL "LevelStoreModel" 74 8 35 RX7 TX7 41 := ⟨ab_k8, by decide, "LevelStoreModel", lw_g_of (i := 860) (by decide +kernel) (by decide +kernel), Or.inl rfl⟩
theorem fl_LevelStoreModel_189 : ab_FL "LevelStoreModel" 189 8 36 RX7 TX7 41 := ⟨ab_k8, by decide, "LevelStoreModel", lw_g_of (i := 861) (by decide +kernel) (by decide +kernel), Or.inl rfl⟩
theorem fl_LevelStoreModel_77 : ab_FL "LevelStoreModel" 77 8 37 RX7 TX7 41 := ⟨ab_k8, by decide, "LevelStoreModel", lw_g_of (i := 862) (by decide +kernel) (by decide +kernel), Or.inl rfl⟩
theorem fl_LevelStoreModel_80 : ab_FL "LevelStoreModel" 80 8 38 RX7 TX7 41 := ⟨ab_k8, by decide, "LevelStoreModel", lw_g_of (i := 863) (by decide +kernel) (by decide +kernel), Or.inl rfl⟩
theorem fl_LevelStoreModel_83 : ab_FL "LevelStoreModel" 83 8 39 RX7 TX7 41 := ⟨ab_k8, by decide, "LevelStoreModel", lw_g_of (i := 864) (by decide +kernel) (by decide +kernel), Or.inl rfl⟩
theorem fl_LevelStoreModel_86 : ab_FL "LevelStoreModel" 86 8 40 RX7 TX7 41 := ⟨ab_k8, by decide, "LevelStoreModel", lw_g_of (i := 865) (by decide +kernel) (by decide +kernel), Or.inl rfl⟩
theorem ml_LevelStoreLaw_17 : Cond.methodLink "LevelStoreLaw" 17 yX7_put ∈ lw_g := lw_g_of (i := 949) (by decide +kernel) (by decide +kernel)
theorem im_X7_put : Cond.instanceMethod yX7_put ∈ lw_g := lw_g_of (i := 950) (by decide +kernel) (by decide +kernel)
theorem se_X7_put : Cond.selects yX7_put.cls yX7_put yX7_put ∈ lw_g := lw_g_of (i := 951) (by decide +kernel) (by decide +kernel)
theorem cl2_LevelStoreModel_101 : Cond.constantLong "LevelStoreModel" 101 (999 : Int64) ∈ lw_g := lw_g_of (i := 953) (by decide +kernel) (by decide +kernel)
theorem ml_LevelStoreModel_103 : Cond.methodLink "LevelStoreModel" 103 yX7_in ∈ lw_g := lw_g_of (i := 954) (by decide +kernel) (by decide +kernel)
theorem sm_X7_in : Cond.static yX7_in ∈ lw_g := lw_g_of (i := 955) (by decide +kernel) (by decide +kernel)
theorem cl2_LevelStoreModel_107 : Cond.constantLong "LevelStoreModel" 107 (-100000 : Int64) ∈ lw_g := lw_g_of (i := 957) (by decide +kernel) (by decide +kernel)
theorem cl2_LevelStoreModel_109 : Cond.constantLong "LevelStoreModel" 109 (100000 : Int64) ∈ lw_g := lw_g_of (i := 958) (by decide +kernel) (by decide +kernel)
theorem cn_LevelStoreModel_111 : Cond.constant "LevelStoreModel" 111 (-1000002 : Int32) ∈ lw_g := lw_g_of (i := 959) (by decide +kernel) (by decide +kernel)
theorem ml_LevelStoreModel_112 : Cond.methodLink "LevelStoreModel" 112 yX7_write ∈ lw_g := lw_g_of (i := 960) (by decide +kernel) (by decide +kernel)
theorem im_X7_write : Cond.instanceMethod yX7_write ∈ lw_g := lw_g_of (i := 962) (by decide +kernel) (by decide +kernel)
theorem cn_LevelStoreModel_99 : Cond.constant "LevelStoreModel" 99 (60000 : Int32) ∈ lw_g := lw_g_of (i := 964) (by decide +kernel) (by decide +kernel)
theorem cn_LevelStoreModel_100 : Cond.constant "LevelStoreModel" 100 (-1000004 : Int32) ∈ lw_g := lw_g_of (i := 965) (by decide +kernel) (by decide +kernel)
theorem ml_LevelStoreLaw_22 : Cond.methodLink "LevelStoreLaw" 22 yX7_drop ∈ lw_g := lw_g_of (i := 966) (by decide +kernel) (by decide +kernel)
theorem im_X7_drop : Cond.instanceMethod yX7_drop ∈ lw_g := lw_g_of (i := 967) (by decide +kernel) (by decide +kernel)
theorem se_X7_drop : Cond.selects yX7_drop.cls yX7_drop yX7_drop ∈ lw_g := lw_g_of (i := 968) (by decide +kernel) (by decide +kernel)
theorem cn_LevelStoreModel_116 : Cond.constant "LevelStoreModel" 116 (-1000009 : Int32) ∈ lw_g := lw_g_of (i := 970) (by decide +kernel) (by decide +kernel)
theorem ml_LevelStoreLaw_27 : Cond.methodLink "LevelStoreLaw" 27 yX7_sync ∈ lw_g := lw_g_of (i := 971) (by decide +kernel) (by decide +kernel)
theorem im_X7_sync : Cond.instanceMethod yX7_sync ∈ lw_g := lw_g_of (i := 972) (by decide +kernel) (by decide +kernel)
theorem se_X7_sync : Cond.selects yX7_sync.cls yX7_sync yX7_sync ∈ lw_g := lw_g_of (i := 973) (by decide +kernel) (by decide +kernel)
theorem ml_LevelStoreLaw_31 : Cond.methodLink "LevelStoreLaw" 31 yX7_crash ∈ lw_g := lw_g_of (i := 975) (by decide +kernel) (by decide +kernel)
theorem im_X7_crash : Cond.instanceMethod yX7_crash ∈ lw_g := lw_g_of (i := 976) (by decide +kernel) (by decide +kernel)
theorem se_X7_crash : Cond.selects yX7_crash.cls yX7_crash yX7_crash ∈ lw_g := lw_g_of (i := 977) (by decide +kernel) (by decide +kernel)
theorem ml_LevelStoreModel_120 : Cond.methodLink "LevelStoreModel" 120 yX7_giveUp ∈ lw_g := lw_g_of (i := 979) (by decide +kernel) (by decide +kernel)
theorem im_X7_giveUp : Cond.instanceMethod yX7_giveUp ∈ lw_g := lw_g_of (i := 981) (by decide +kernel) (by decide +kernel)
theorem ml_LevelStoreLaw_35 : Cond.methodLink "LevelStoreLaw" 35 yX7_get ∈ lw_g := lw_g_of (i := 983) (by decide +kernel) (by decide +kernel)
theorem im_X7_get : Cond.instanceMethod yX7_get ∈ lw_g := lw_g_of (i := 984) (by decide +kernel) (by decide +kernel)
theorem se_X7_get : Cond.selects yX7_get.cls yX7_get yX7_get ∈ lw_g := lw_g_of (i := 985) (by decide +kernel) (by decide +kernel)
theorem ml_LevelStoreModel_128 : Cond.methodLink "LevelStoreModel" 128 yX7_read ∈ lw_g := lw_g_of (i := 987) (by decide +kernel) (by decide +kernel)
theorem im_X7_read : Cond.instanceMethod yX7_read ∈ lw_g := lw_g_of (i := 989) (by decide +kernel) (by decide +kernel)
theorem cl2_LevelStoreModel_124 : Cond.constantLong "LevelStoreModel" 124 (3 : Int64) ∈ lw_g := lw_g_of (i := 991) (by decide +kernel) (by decide +kernel)
theorem ml_LevelStoreLaw_39 : Cond.methodLink "LevelStoreLaw" 39 yX7_view ∈ lw_g := lw_g_of (i := 992) (by decide +kernel) (by decide +kernel)
theorem im_X7_view : Cond.instanceMethod yX7_view ∈ lw_g := lw_g_of (i := 993) (by decide +kernel) (by decide +kernel)
theorem se_X7_view : Cond.selects yX7_view.cls yX7_view yX7_view ∈ lw_g := lw_g_of (i := 994) (by decide +kernel) (by decide +kernel)
theorem ml_LevelStoreModel_131 : Cond.methodLink "LevelStoreModel" 131 yX7_noView ∈ lw_g := lw_g_of (i := 996) (by decide +kernel) (by decide +kernel)
theorem im_X7_noView : Cond.instanceMethod yX7_noView ∈ lw_g := lw_g_of (i := 998) (by decide +kernel) (by decide +kernel)
theorem cl2_LevelStoreModel_126 : Cond.constantLong "LevelStoreModel" 126 (2 : Int64) ∈ lw_g := lw_g_of (i := 1000) (by decide +kernel) (by decide +kernel)
theorem cn_LevelStoreModel_135 : Cond.constant "LevelStoreModel" 135 (-1000001 : Int32) ∈ lw_g := lw_g_of (i := 1001) (by decide +kernel) (by decide +kernel)
theorem ml_LevelStoreLaw_43 : Cond.methodLink "LevelStoreLaw" 43 yX7_next ∈ lw_g := lw_g_of (i := 1002) (by decide +kernel) (by decide +kernel)
theorem im_X7_next : Cond.instanceMethod yX7_next ∈ lw_g := lw_g_of (i := 1003) (by decide +kernel) (by decide +kernel)
theorem se_X7_next : Cond.selects yX7_next.cls yX7_next yX7_next ∈ lw_g := lw_g_of (i := 1004) (by decide +kernel) (by decide +kernel)
theorem ml_LevelStoreLaw_47 : Cond.methodLink "LevelStoreLaw" 47 yX7_hold ∈ lw_g := lw_g_of (i := 1006) (by decide +kernel) (by decide +kernel)
theorem im_X7_hold : Cond.instanceMethod yX7_hold ∈ lw_g := lw_g_of (i := 1007) (by decide +kernel) (by decide +kernel)
theorem se_X7_hold : Cond.selects yX7_hold.cls yX7_hold yX7_hold ∈ lw_g := lw_g_of (i := 1008) (by decide +kernel) (by decide +kernel)
theorem cn_LevelStoreModel_136 : Cond.constant "LevelStoreModel" 136 (-1000003 : Int32) ∈ lw_g := lw_g_of (i := 1010) (by decide +kernel) (by decide +kernel)
theorem ml_LevelStoreLaw_51 : Cond.methodLink "LevelStoreLaw" 51 yX7_release ∈ lw_g := lw_g_of (i := 1011) (by decide +kernel) (by decide +kernel)
theorem im_X7_release : Cond.instanceMethod yX7_release ∈ lw_g := lw_g_of (i := 1012) (by decide +kernel) (by decide +kernel)
theorem se_X7_release : Cond.selects yX7_release.cls yX7_release yX7_release ∈ lw_g := lw_g_of (i := 1013) (by decide +kernel) (by decide +kernel)
theorem ml_LevelStoreLaw_55 : Cond.methodLink "LevelStoreLaw" 55 yX7_flush ∈ lw_g := lw_g_of (i := 1015) (by decide +kernel) (by decide +kernel)
theorem im_X7_flush : Cond.instanceMethod yX7_flush ∈ lw_g := lw_g_of (i := 1016) (by decide +kernel) (by decide +kernel)
theorem se_X7_flush : Cond.selects yX7_flush.cls yX7_flush yX7_flush ∈ lw_g := lw_g_of (i := 1017) (by decide +kernel) (by decide +kernel)
theorem ml_LevelStoreModel_162 : Cond.methodLink "LevelStoreModel" 162 yX7_begin ∈ lw_g := lw_g_of (i := 1019) (by decide +kernel) (by decide +kernel)
theorem im_X7_begin : Cond.instanceMethod yX7_begin ∈ lw_g := lw_g_of (i := 1021) (by decide +kernel) (by decide +kernel)
theorem ml_LevelStoreModel_169 : Cond.methodLink "LevelStoreModel" 169 yX7_source ∈ lw_g := lw_g_of (i := 1023) (by decide +kernel) (by decide +kernel)
theorem im_X7_source : Cond.instanceMethod yX7_source ∈ lw_g := lw_g_of (i := 1025) (by decide +kernel) (by decide +kernel)
theorem ml_LevelStoreLaw_59 : Cond.methodLink "LevelStoreLaw" 59 yX7_merge ∈ lw_g := lw_g_of (i := 1027) (by decide +kernel) (by decide +kernel)
theorem im_X7_merge : Cond.instanceMethod yX7_merge ∈ lw_g := lw_g_of (i := 1028) (by decide +kernel) (by decide +kernel)
theorem se_X7_merge : Cond.selects yX7_merge.cls yX7_merge yX7_merge ∈ lw_g := lw_g_of (i := 1029) (by decide +kernel) (by decide +kernel)
theorem ml_LevelStoreModel_173 : Cond.methodLink "LevelStoreModel" 173 yX7_listLevel ∈ lw_g := lw_g_of (i := 1031) (by decide +kernel) (by decide +kernel)
theorem im_X7_listLevel : Cond.instanceMethod yX7_listLevel ∈ lw_g := lw_g_of (i := 1033) (by decide +kernel) (by decide +kernel)
theorem ml_LevelStoreModel_176 : Cond.methodLink "LevelStoreModel" 176 yX7_least ∈ lw_g := lw_g_of (i := 1035) (by decide +kernel) (by decide +kernel)
theorem im_X7_least : Cond.instanceMethod yX7_least ∈ lw_g := lw_g_of (i := 1037) (by decide +kernel) (by decide +kernel)
theorem ml_LevelStoreModel_180 : Cond.methodLink "LevelStoreModel" 180 yX7_greatest ∈ lw_g := lw_g_of (i := 1039) (by decide +kernel) (by decide +kernel)
theorem im_X7_greatest : Cond.instanceMethod yX7_greatest ∈ lw_g := lw_g_of (i := 1041) (by decide +kernel) (by decide +kernel)
theorem ml_LevelStoreModel_183 : Cond.methodLink "LevelStoreModel" 183 yX7_sourceFile ∈ lw_g := lw_g_of (i := 1043) (by decide +kernel) (by decide +kernel)
theorem im_X7_sourceFile : Cond.instanceMethod yX7_sourceFile ∈ lw_g := lw_g_of (i := 1045) (by decide +kernel) (by decide +kernel)
theorem ml_LevelStoreLaw_63 : Cond.methodLink "LevelStoreLaw" 63 yX7_work ∈ lw_g := lw_g_of (i := 1047) (by decide +kernel) (by decide +kernel)
theorem im_X7_work : Cond.instanceMethod yX7_work ∈ lw_g := lw_g_of (i := 1048) (by decide +kernel) (by decide +kernel)
theorem se_X7_work : Cond.selects yX7_work.cls yX7_work yX7_work ∈ lw_g := lw_g_of (i := 1049) (by decide +kernel) (by decide +kernel)
theorem cl2_LevelStoreModel_211 : Cond.constantLong "LevelStoreModel" 211 (500 : Int64) ∈ lw_g := lw_g_of (i := 1051) (by decide +kernel) (by decide +kernel)
theorem ml_LevelStoreModel_213 : Cond.methodLink "LevelStoreModel" 213 yX7_does ∈ lw_g := lw_g_of (i := 1052) (by decide +kernel) (by decide +kernel)
theorem im_X7_does : Cond.instanceMethod yX7_does ∈ lw_g := lw_g_of (i := 1054) (by decide +kernel) (by decide +kernel)
theorem ml_LevelStoreModel_204 : Cond.methodLink "LevelStoreModel" 204 yX7_isLeftOut ∈ lw_g := lw_g_of (i := 1056) (by decide +kernel) (by decide +kernel)
theorem im_X7_isLeftOut : Cond.instanceMethod yX7_isLeftOut ∈ lw_g := lw_g_of (i := 1058) (by decide +kernel) (by decide +kernel)
theorem ml_LevelStoreModel_186 : Cond.methodLink "LevelStoreModel" 186 yX7_isUnseen ∈ lw_g := lw_g_of (i := 1060) (by decide +kernel) (by decide +kernel)
theorem im_X7_isUnseen : Cond.instanceMethod yX7_isUnseen ∈ lw_g := lw_g_of (i := 1062) (by decide +kernel) (by decide +kernel)
theorem ml_LevelStoreModel_207 : Cond.methodLink "LevelStoreModel" 207 yX7_ends ∈ lw_g := lw_g_of (i := 1064) (by decide +kernel) (by decide +kernel)
theorem im_X7_ends : Cond.instanceMethod yX7_ends ∈ lw_g := lw_g_of (i := 1066) (by decide +kernel) (by decide +kernel)
theorem ml_LevelStoreModel_195 : Cond.methodLink "LevelStoreModel" 195 yX7_encode ∈ lw_g := lw_g_of (i := 1068) (by decide +kernel) (by decide +kernel)
theorem im_X7_encode : Cond.instanceMethod yX7_encode ∈ lw_g := lw_g_of (i := 1070) (by decide +kernel) (by decide +kernel)
theorem ml_LevelStoreModel_192 : Cond.methodLink "LevelStoreModel" 192 yX7_shortNumber ∈ lw_g := lw_g_of (i := 1072) (by decide +kernel) (by decide +kernel)
theorem im_X7_shortNumber : Cond.instanceMethod yX7_shortNumber ∈ lw_g := lw_g_of (i := 1074) (by decide +kernel) (by decide +kernel)
theorem ml_LevelStoreModel_198 : Cond.methodLink "LevelStoreModel" 198 yX7_room ∈ lw_g := lw_g_of (i := 1076) (by decide +kernel) (by decide +kernel)
theorem im_X7_room : Cond.instanceMethod yX7_room ∈ lw_g := lw_g_of (i := 1078) (by decide +kernel) (by decide +kernel)
theorem ml_LevelStoreLaw_67 : Cond.methodLink "LevelStoreLaw" 67 yX7_install ∈ lw_g := lw_g_of (i := 1080) (by decide +kernel) (by decide +kernel)
theorem im_X7_install : Cond.instanceMethod yX7_install ∈ lw_g := lw_g_of (i := 1081) (by decide +kernel) (by decide +kernel)
theorem se_X7_install : Cond.selects yX7_install.cls yX7_install yX7_install ∈ lw_g := lw_g_of (i := 1082) (by decide +kernel) (by decide +kernel)
theorem ml_LevelStoreLaw_71 : Cond.methodLink "LevelStoreLaw" 71 yX7_stop ∈ lw_g := lw_g_of (i := 1084) (by decide +kernel) (by decide +kernel)
theorem im_X7_stop : Cond.instanceMethod yX7_stop ∈ lw_g := lw_g_of (i := 1085) (by decide +kernel) (by decide +kernel)
theorem se_X7_stop : Cond.selects yX7_stop.cls yX7_stop yX7_stop ∈ lw_g := lw_g_of (i := 1086) (by decide +kernel) (by decide +kernel)
theorem ml_LevelStoreLaw_75 : Cond.methodLink "LevelStoreLaw" 75 yX7_high ∈ lw_g := lw_g_of (i := 1088) (by decide +kernel) (by decide +kernel)
theorem im_X7_high : Cond.instanceMethod yX7_high ∈ lw_g := lw_g_of (i := 1089) (by decide +kernel) (by decide +kernel)
theorem se_X7_high : Cond.selects yX7_high.cls yX7_high yX7_high ∈ lw_g := lw_g_of (i := 1090) (by decide +kernel) (by decide +kernel)
theorem ml_LevelStoreLaw_79 : Cond.methodLink "LevelStoreLaw" 79 yX7_files ∈ lw_g := lw_g_of (i := 1092) (by decide +kernel) (by decide +kernel)
theorem im_X7_files : Cond.instanceMethod yX7_files ∈ lw_g := lw_g_of (i := 1093) (by decide +kernel) (by decide +kernel)
theorem se_X7_files : Cond.selects yX7_files.cls yX7_files yX7_files ∈ lw_g := lw_g_of (i := 1094) (by decide +kernel) (by decide +kernel)
theorem ml_LevelStoreLaw_84 : Cond.methodLink "LevelStoreLaw" 84 yX7_file ∈ lw_g := lw_g_of (i := 1096) (by decide +kernel) (by decide +kernel)
theorem im_X7_file : Cond.instanceMethod yX7_file ∈ lw_g := lw_g_of (i := 1097) (by decide +kernel) (by decide +kernel)
theorem se_X7_file : Cond.selects yX7_file.cls yX7_file yX7_file ∈ lw_g := lw_g_of (i := 1098) (by decide +kernel) (by decide +kernel)
theorem ml_LevelStoreModel_216 : Cond.methodLink "LevelStoreModel" 216 yX7_slot ∈ lw_g := lw_g_of (i := 1100) (by decide +kernel) (by decide +kernel)
theorem im_X7_slot : Cond.instanceMethod yX7_slot ∈ lw_g := lw_g_of (i := 1102) (by decide +kernel) (by decide +kernel)
theorem ml_LevelStoreLaw_89 : Cond.methodLink "LevelStoreLaw" 89 yX7_entry ∈ lw_g := lw_g_of (i := 1104) (by decide +kernel) (by decide +kernel)
theorem im_X7_entry : Cond.instanceMethod yX7_entry ∈ lw_g := lw_g_of (i := 1105) (by decide +kernel) (by decide +kernel)
theorem se_X7_entry : Cond.selects yX7_entry.cls yX7_entry yX7_entry ∈ lw_g := lw_g_of (i := 1106) (by decide +kernel) (by decide +kernel)
theorem ml_LevelStoreLaw_93 : Cond.methodLink "LevelStoreLaw" 93 yX7_byteAt ∈ lw_g := lw_g_of (i := 1108) (by decide +kernel) (by decide +kernel)
theorem im_X7_byteAt : Cond.instanceMethod yX7_byteAt ∈ lw_g := lw_g_of (i := 1109) (by decide +kernel) (by decide +kernel)
theorem se_X7_byteAt : Cond.selects yX7_byteAt.cls yX7_byteAt yX7_byteAt ∈ lw_g := lw_g_of (i := 1110) (by decide +kernel) (by decide +kernel)
theorem cl2_LevelStoreModel_219 : Cond.constantLong "LevelStoreModel" 219 (1499 : Int64) ∈ lw_g := lw_g_of (i := 1112) (by decide +kernel) (by decide +kernel)
theorem ml_LevelStoreLaw_97 : Cond.methodLink "LevelStoreLaw" 97 yX7_log ∈ lw_g := lw_g_of (i := 1113) (by decide +kernel) (by decide +kernel)
theorem im_X7_log : Cond.instanceMethod yX7_log ∈ lw_g := lw_g_of (i := 1114) (by decide +kernel) (by decide +kernel)
theorem se_X7_log : Cond.selects yX7_log.cls yX7_log yX7_log ∈ lw_g := lw_g_of (i := 1115) (by decide +kernel) (by decide +kernel)
theorem ml_LevelStoreLaw_101 : Cond.methodLink "LevelStoreLaw" 101 yX7_count ∈ lw_g := lw_g_of (i := 1117) (by decide +kernel) (by decide +kernel)
theorem im_X7_count : Cond.instanceMethod yX7_count ∈ lw_g := lw_g_of (i := 1118) (by decide +kernel) (by decide +kernel)
theorem se_X7_count : Cond.selects yX7_count.cls yX7_count yX7_count ∈ lw_g := lw_g_of (i := 1119) (by decide +kernel) (by decide +kernel)
theorem ml_LevelStoreLaw_105 : Cond.methodLink "LevelStoreLaw" 105 yX7_check ∈ lw_g := lw_g_of (i := 1121) (by decide +kernel) (by decide +kernel)
theorem im_X7_check : Cond.instanceMethod yX7_check ∈ lw_g := lw_g_of (i := 1122) (by decide +kernel) (by decide +kernel)
theorem se_X7_check : Cond.selects yX7_check.cls yX7_check yX7_check ∈ lw_g := lw_g_of (i := 1123) (by decide +kernel) (by decide +kernel)
theorem ml_LevelStoreModel_221 : Cond.methodLink "LevelStoreModel" 221 yX7_codesAs ∈ lw_g := lw_g_of (i := 1125) (by decide +kernel) (by decide +kernel)
theorem im_X7_codesAs : Cond.instanceMethod yX7_codesAs ∈ lw_g := lw_g_of (i := 1127) (by decide +kernel) (by decide +kernel)
theorem se_getClass : Cond.selects "[Ljava/lang/Object;" ⟨"java/lang/Object", "getClass", "()Ljava/lang/Class;"⟩ ⟨"java/lang/Object", "getClass", "()Ljava/lang/Class;"⟩ ∈ lw_g := lw_g_of (i := 1139) (by decide +kernel) (by decide +kernel)
theorem se_X6_write : Cond.selects yX6_write.cls yX6_write yX6_write ∈ lw_g := lw_g_of (i := 0) (by decide +kernel) (by decide +kernel)
theorem se_X6_giveUpJob : Cond.selects yX6_giveUpJob.cls yX6_giveUpJob yX6_giveUpJob ∈ lw_g := lw_g_of (i := 1) (by decide +kernel) (by decide +kernel)
theorem se_X6_retire : Cond.selects yX6_retire.cls yX6_retire yX6_retire ∈ lw_g := lw_g_of (i := 2) (by decide +kernel) (by decide +kernel)
theorem se_Jx4a65c_fastRemove_b59b0 : Cond.selects yJx4a65c_fastRemove_b59b0.cls yJx4a65c_fastRemove_b59b0 yJx4a65c_fastRemove_b59b0 ∈ lw_g := lw_g_of (i := 3) (by decide +kernel) (by decide +kernel)
theorem se_X0_mark : Cond.selects yX0_mark.cls yX0_mark yX0_mark ∈ lw_g := lw_g_of (i := 4) (by decide +kernel) (by decide +kernel)
theorem se_Jx4a65c_rangeCheckForAdd_d00df : Cond.selects yJx4a65c_rangeCheckForAdd_d00df.cls yJx4a65c_rangeCheckForAdd_d00df yJx4a65c_rangeCheckForAdd_d00df ∈ lw_g := lw_g_of (i := 5) (by decide +kernel) (by decide +kernel)
theorem se_Jx4a65c_grow_d5877 : Cond.selects yJx4a65c_grow_d5877.cls yJx4a65c_grow_d5877 yJx4a65c_grow_d5877 ∈ lw_g := lw_g_of (i := 6) (by decide +kernel) (by decide +kernel)
theorem se_Jx4a65c_grow_92f84 : Cond.selects yJx4a65c_grow_92f84.cls yJx4a65c_grow_92f84 yJx4a65c_grow_92f84 ∈ lw_g := lw_g_of (i := 7) (by decide +kernel) (by decide +kernel)
theorem se_X6_greatestNumberLeft : Cond.selects yX6_greatestNumberLeft.cls yX6_greatestNumberLeft yX6_greatestNumberLeft ∈ lw_g := lw_g_of (i := 8) (by decide +kernel) (by decide +kernel)
theorem se_X6_readUpTo : Cond.selects yX6_readUpTo.cls yX6_readUpTo yX6_readUpTo ∈ lw_g := lw_g_of (i := 9) (by decide +kernel) (by decide +kernel)
theorem se_X6_readAll : Cond.selects yX6_readAll.cls yX6_readAll yX6_readAll ∈ lw_g := lw_g_of (i := 10) (by decide +kernel) (by decide +kernel)
theorem se_X6_isHeld : Cond.selects yX6_isHeld.cls yX6_isHeld yX6_isHeld ∈ lw_g := lw_g_of (i := 11) (by decide +kernel) (by decide +kernel)
theorem se_X6_numberOfView : Cond.selects yX6_numberOfView.cls yX6_numberOfView yX6_numberOfView ∈ lw_g := lw_g_of (i := 12) (by decide +kernel) (by decide +kernel)
theorem se_X6_isView : Cond.selects yX6_isView.cls yX6_isView yX6_isView ∈ lw_g := lw_g_of (i := 13) (by decide +kernel) (by decide +kernel)
theorem se_X6_levelAt : Cond.selects yX6_levelAt.cls yX6_levelAt yX6_levelAt ∈ lw_g := lw_g_of (i := 14) (by decide +kernel) (by decide +kernel)
theorem se_X2_isFirstOfKey : Cond.selects yX2_isFirstOfKey.cls yX2_isFirstOfKey yX2_isFirstOfKey ∈ lw_g := lw_g_of (i := 15) (by decide +kernel) (by decide +kernel)
theorem se_X2_isSeen : Cond.selects yX2_isSeen.cls yX2_isSeen yX2_isSeen ∈ lw_g := lw_g_of (i := 16) (by decide +kernel) (by decide +kernel)
theorem se_X2_leaveOutGraves : Cond.selects yX2_leaveOutGraves.cls yX2_leaveOutGraves yX2_leaveOutGraves ∈ lw_g := lw_g_of (i := 17) (by decide +kernel) (by decide +kernel)
theorem se_X2_isLastOfKey : Cond.selects yX2_isLastOfKey.cls yX2_isLastOfKey yX2_isLastOfKey ∈ lw_g := lw_g_of (i := 18) (by decide +kernel) (by decide +kernel)
theorem se_X6_doOneEntry : Cond.selects yX6_doOneEntry.cls yX6_doOneEntry yX6_doOneEntry ∈ lw_g := lw_g_of (i := 19) (by decide +kernel) (by decide +kernel)
theorem se_X6_endFile : Cond.selects yX6_endFile.cls yX6_endFile yX6_endFile ∈ lw_g := lw_g_of (i := 20) (by decide +kernel) (by decide +kernel)
theorem se_X6_freshFile : Cond.selects yX6_freshFile.cls yX6_freshFile yX6_freshFile ∈ lw_g := lw_g_of (i := 21) (by decide +kernel) (by decide +kernel)
theorem se_X0_encode : Cond.selects yX0_encode.cls yX0_encode yX0_encode ∈ lw_g := lw_g_of (i := 22) (by decide +kernel) (by decide +kernel)
theorem se_X0_emit : Cond.selects yX0_emit.cls yX0_emit yX0_emit ∈ lw_g := lw_g_of (i := 23) (by decide +kernel) (by decide +kernel)
theorem se_X0_emitShort : Cond.selects yX0_emitShort.cls yX0_emitShort yX0_emitShort ∈ lw_g := lw_g_of (i := 24) (by decide +kernel) (by decide +kernel)
theorem se_X0_sumOfCode : Cond.selects yX0_sumOfCode.cls yX0_sumOfCode yX0_sumOfCode ∈ lw_g := lw_g_of (i := 25) (by decide +kernel) (by decide +kernel)
theorem se_X0_firstRoom : Cond.selects yX0_firstRoom.cls yX0_firstRoom yX0_firstRoom ∈ lw_g := lw_g_of (i := 26) (by decide +kernel) (by decide +kernel)
theorem se_X6_loseFirstLogged : Cond.selects yX6_loseFirstLogged.cls yX6_loseFirstLogged yX6_loseFirstLogged ∈ lw_g := lw_g_of (i := 27) (by decide +kernel) (by decide +kernel)
theorem se_X6_fileAt : Cond.selects yX6_fileAt.cls yX6_fileAt yX6_fileAt ∈ lw_g := lw_g_of (i := 28) (by decide +kernel) (by decide +kernel)
theorem se_X6_filesInForce : Cond.selects yX6_filesInForce.cls yX6_filesInForce yX6_filesInForce ∈ lw_g := lw_g_of (i := 29) (by decide +kernel) (by decide +kernel)
theorem se_X6_bytesInForce : Cond.selects yX6_bytesInForce.cls yX6_bytesInForce yX6_bytesInForce ∈ lw_g := lw_g_of (i := 30) (by decide +kernel) (by decide +kernel)
theorem se_X6_entriesInForce : Cond.selects yX6_entriesInForce.cls yX6_entriesInForce yX6_entriesInForce ∈ lw_g := lw_g_of (i := 31) (by decide +kernel) (by decide +kernel)
theorem se_X7_write : Cond.selects yX7_write.cls yX7_write yX7_write ∈ lw_g := lw_g_of (i := 32) (by decide +kernel) (by decide +kernel)
theorem se_X7_giveUp : Cond.selects yX7_giveUp.cls yX7_giveUp yX7_giveUp ∈ lw_g := lw_g_of (i := 33) (by decide +kernel) (by decide +kernel)
theorem se_X7_read : Cond.selects yX7_read.cls yX7_read yX7_read ∈ lw_g := lw_g_of (i := 34) (by decide +kernel) (by decide +kernel)
theorem se_X7_noView : Cond.selects yX7_noView.cls yX7_noView yX7_noView ∈ lw_g := lw_g_of (i := 35) (by decide +kernel) (by decide +kernel)
theorem se_X7_begin : Cond.selects yX7_begin.cls yX7_begin yX7_begin ∈ lw_g := lw_g_of (i := 36) (by decide +kernel) (by decide +kernel)
theorem se_X7_source : Cond.selects yX7_source.cls yX7_source yX7_source ∈ lw_g := lw_g_of (i := 37) (by decide +kernel) (by decide +kernel)
theorem se_X7_listLevel : Cond.selects yX7_listLevel.cls yX7_listLevel yX7_listLevel ∈ lw_g := lw_g_of (i := 38) (by decide +kernel) (by decide +kernel)
theorem se_X7_least : Cond.selects yX7_least.cls yX7_least yX7_least ∈ lw_g := lw_g_of (i := 39) (by decide +kernel) (by decide +kernel)
theorem se_X7_greatest : Cond.selects yX7_greatest.cls yX7_greatest yX7_greatest ∈ lw_g := lw_g_of (i := 40) (by decide +kernel) (by decide +kernel)
theorem se_X7_sourceFile : Cond.selects yX7_sourceFile.cls yX7_sourceFile yX7_sourceFile ∈ lw_g := lw_g_of (i := 41) (by decide +kernel) (by decide +kernel)
theorem se_X7_does : Cond.selects yX7_does.cls yX7_does yX7_does ∈ lw_g := lw_g_of (i := 42) (by decide +kernel) (by decide +kernel)
theorem se_X7_isLeftOut : Cond.selects yX7_isLeftOut.cls yX7_isLeftOut yX7_isLeftOut ∈ lw_g := lw_g_of (i := 43) (by decide +kernel) (by decide +kernel)
theorem se_X7_isUnseen : Cond.selects yX7_isUnseen.cls yX7_isUnseen yX7_isUnseen ∈ lw_g := lw_g_of (i := 44) (by decide +kernel) (by decide +kernel)
theorem se_X7_ends : Cond.selects yX7_ends.cls yX7_ends yX7_ends ∈ lw_g := lw_g_of (i := 45) (by decide +kernel) (by decide +kernel)
theorem se_X7_encode : Cond.selects yX7_encode.cls yX7_encode yX7_encode ∈ lw_g := lw_g_of (i := 46) (by decide +kernel) (by decide +kernel)
theorem se_X7_shortNumber : Cond.selects yX7_shortNumber.cls yX7_shortNumber yX7_shortNumber ∈ lw_g := lw_g_of (i := 47) (by decide +kernel) (by decide +kernel)
theorem se_X7_room : Cond.selects yX7_room.cls yX7_room yX7_room ∈ lw_g := lw_g_of (i := 48) (by decide +kernel) (by decide +kernel)
theorem se_X7_slot : Cond.selects yX7_slot.cls yX7_slot yX7_slot ∈ lw_g := lw_g_of (i := 49) (by decide +kernel) (by decide +kernel)
theorem se_X7_codesAs : Cond.selects yX7_codesAs.cls yX7_codesAs yX7_codesAs ∈ lw_g := lw_g_of (i := 50) (by decide +kernel) (by decide +kernel)
theorem co_objInit : Cond.code Lib.objectInit ⟨#[0xb1]⟩ 1 none ∈ lw_g := lw_g_of (i := 76) (by decide +kernel) (by decide +kernel)
theorem mk_X6_init : ab_MK MX6_init 0 := ⟨lw_g_of (i := 73) (by decide +kernel) (by decide +kernel), ini_LevelStore, by decide +kernel, by decide +kernel, by decide +kernel, by decide +kernel⟩
theorem mk_X4_init : ab_MK MX4_init 1 := ⟨lw_g_of (i := 81) (by decide +kernel) (by decide +kernel), ini_Row, by decide +kernel, by decide +kernel, by decide +kernel, by decide +kernel⟩
theorem mk_X1_init : ab_MK MX1_init 0 := ⟨lw_g_of (i := 111) (by decide +kernel) (by decide +kernel), ini_FileRow, by decide +kernel, by decide +kernel, by decide +kernel, by decide +kernel⟩
theorem mk_Jx4a65c_init_da8c8 : ab_MK MJx4a65c_init_da8c8 0 := ⟨lw_g_of (i := 117) (by decide +kernel) (by decide +kernel), ini_ArrayList, by decide +kernel, by decide +kernel, by decide +kernel, by decide +kernel⟩
theorem mk_Jxc12de_init_da8c8 : ab_MK MJxc12de_init_da8c8 0 := ⟨lw_g_of (i := 120) (by decide +kernel) (by decide +kernel), ini_AbstractList, by decide +kernel, by decide +kernel, by decide +kernel, by decide +kernel⟩
theorem mk_Jxa1e45_init_da8c8 : ab_MK MJxa1e45_init_da8c8 0 := ⟨lw_g_of (i := 123) (by decide +kernel) (by decide +kernel), ini_AbstractCollection, by decide +kernel, by decide +kernel, by decide +kernel, by decide +kernel⟩
theorem mk_X0_init : ab_MK MX0_init 0 := ⟨lw_g_of (i := 147) (by decide +kernel) (by decide +kernel), ini_Field, by decide +kernel, by decide +kernel, by decide +kernel, by decide +kernel⟩
theorem mk_X3_init : ab_MK MX3_init 0 := ⟨lw_g_of (i := 168) (by decide +kernel) (by decide +kernel), ini_Reading, by decide +kernel, by decide +kernel, by decide +kernel, by decide +kernel⟩
theorem mk_X2_init : ab_MK MX2_init 0 := ⟨lw_g_of (i := 190) (by decide +kernel) (by decide +kernel), ini_Job, by decide +kernel, by decide +kernel, by decide +kernel, by decide +kernel⟩
theorem mk_X6_put : ab_MK MX6_put 2 := ⟨lw_g_of (i := 274) (by decide +kernel) (by decide +kernel), ini_LevelStore, by decide +kernel, by decide +kernel, by decide +kernel, by decide +kernel⟩
theorem mk_X6_isKey : ab_MK MX6_isKey 1 := ⟨lw_g_of (i := 277) (by decide +kernel) (by decide +kernel), ini_LevelStore, by decide +kernel, by decide +kernel, by decide +kernel, by decide +kernel⟩
theorem mk_X6_write : ab_MK MX6_write 2 := ⟨lw_g_of (i := 284) (by decide +kernel) (by decide +kernel), ini_LevelStore, by decide +kernel, by decide +kernel, by decide +kernel, by decide +kernel⟩
theorem mk_X4_add : ab_MK MX4_add 3 := ⟨lw_g_of (i := 290) (by decide +kernel) (by decide +kernel), ini_Row, by decide +kernel, by decide +kernel, by decide +kernel, by decide +kernel⟩
theorem mk_X4_setAt : ab_MK MX4_setAt 4 := ⟨lw_g_of (i := 294) (by decide +kernel) (by decide +kernel), ini_Row, by decide +kernel, by decide +kernel, by decide +kernel, by decide +kernel⟩
theorem mk_X4_has : ab_MK MX4_has 1 := ⟨lw_g_of (i := 298) (by decide +kernel) (by decide +kernel), ini_Row, by decide +kernel, by decide +kernel, by decide +kernel, by decide +kernel⟩
theorem mk_X6_drop : ab_MK MX6_drop 1 := ⟨lw_g_of (i := 302) (by decide +kernel) (by decide +kernel), ini_LevelStore, by decide +kernel, by decide +kernel, by decide +kernel, by decide +kernel⟩
theorem mk_X6_sync : ab_MK MX6_sync 0 := ⟨lw_g_of (i := 307) (by decide +kernel) (by decide +kernel), ini_LevelStore, by decide +kernel, by decide +kernel, by decide +kernel, by decide +kernel⟩
theorem mk_X6_crash : ab_MK MX6_crash 1 := ⟨lw_g_of (i := 311) (by decide +kernel) (by decide +kernel), ini_LevelStore, by decide +kernel, by decide +kernel, by decide +kernel, by decide +kernel⟩
theorem mk_X6_giveUpJob : ab_MK MX6_giveUpJob 0 := ⟨lw_g_of (i := 315) (by decide +kernel) (by decide +kernel), ini_LevelStore, by decide +kernel, by decide +kernel, by decide +kernel, by decide +kernel⟩
theorem mk_X1_size : ab_MK MX1_size 0 := ⟨lw_g_of (i := 319) (by decide +kernel) (by decide +kernel), ini_FileRow, by decide +kernel, by decide +kernel, by decide +kernel, by decide +kernel⟩
theorem mk_Jx4a65c_size_8abf5 : ab_MK MJx4a65c_size_8abf5 0 := ⟨lw_g_of (i := 323) (by decide +kernel) (by decide +kernel), ini_ArrayList, by decide +kernel, by decide +kernel, by decide +kernel, by decide +kernel⟩
theorem mk_X6_retire : ab_MK MX6_retire 3 := ⟨lw_g_of (i := 327) (by decide +kernel) (by decide +kernel), ini_LevelStore, by decide +kernel, by decide +kernel, by decide +kernel, by decide +kernel⟩
theorem mk_X1_takeOut : ab_MK MX1_takeOut 1 := ⟨lw_g_of (i := 331) (by decide +kernel) (by decide +kernel), ini_FileRow, by decide +kernel, by decide +kernel, by decide +kernel, by decide +kernel⟩
theorem mk_Jx4a65c_remove_915e3 : ab_MK MJx4a65c_remove_915e3 1 := ⟨lw_g_of (i := 335) (by decide +kernel) (by decide +kernel), ini_ArrayList, by decide +kernel, by decide +kernel, by decide +kernel, by decide +kernel⟩
theorem mk_J15_checkIndex_7cf53 : ab_MK MJ15_checkIndex_7cf53 2 := ⟨lw_g_of (i := 338) (by decide +kernel) (by decide +kernel), ini_Objects, by decide +kernel, by decide +kernel, by decide +kernel, by decide +kernel⟩
theorem mk_J3_checkIndex_8e157 : ab_MK MJ3_checkIndex_8e157 3 := ⟨lw_g_of (i := 341) (by decide +kernel) (by decide +kernel), ini_Preconditions, by decide +kernel, by decide +kernel, by decide +kernel, by decide +kernel⟩
theorem mk_Jx4a65c_fastRemove_b59b0 : ab_MK MJx4a65c_fastRemove_b59b0 2 := ⟨lw_g_of (i := 345) (by decide +kernel) (by decide +kernel), ini_ArrayList, by decide +kernel, by decide +kernel, by decide +kernel, by decide +kernel⟩
theorem mk_X0_free : ab_MK MX0_free 1 := ⟨lw_g_of (i := 353) (by decide +kernel) (by decide +kernel), ini_Field, by decide +kernel, by decide +kernel, by decide +kernel, by decide +kernel⟩
theorem mk_X0_mark : ab_MK MX0_mark 2 := ⟨lw_g_of (i := 357) (by decide +kernel) (by decide +kernel), ini_Field, by decide +kernel, by decide +kernel, by decide +kernel, by decide +kernel⟩
theorem mk_X0_has : ab_MK MX0_has 1 := ⟨lw_g_of (i := 361) (by decide +kernel) (by decide +kernel), ini_Field, by decide +kernel, by decide +kernel, by decide +kernel, by decide +kernel⟩
theorem mk_X1_add : ab_MK MX1_add 1 := ⟨lw_g_of (i := 365) (by decide +kernel) (by decide +kernel), ini_FileRow, by decide +kernel, by decide +kernel, by decide +kernel, by decide +kernel⟩
theorem mk_X1_insert : ab_MK MX1_insert 2 := ⟨lw_g_of (i := 369) (by decide +kernel) (by decide +kernel), ini_FileRow, by decide +kernel, by decide +kernel, by decide +kernel, by decide +kernel⟩
theorem mk_Jx4a65c_add_7a177 : ab_MK MJx4a65c_add_7a177 2 := ⟨lw_g_of (i := 373) (by decide +kernel) (by decide +kernel), ini_ArrayList, by decide +kernel, by decide +kernel, by decide +kernel, by decide +kernel⟩
theorem mk_Jx4a65c_rangeCheckForAdd_d00df : ab_MK MJx4a65c_rangeCheckForAdd_d00df 1 := ⟨lw_g_of (i := 377) (by decide +kernel) (by decide +kernel), ini_ArrayList, by decide +kernel, by decide +kernel, by decide +kernel, by decide +kernel⟩
theorem mk_Jx4a65c_grow_d5877 : ab_MK MJx4a65c_grow_d5877 0 := ⟨lw_g_of (i := 381) (by decide +kernel) (by decide +kernel), ini_ArrayList, by decide +kernel, by decide +kernel, by decide +kernel, by decide +kernel⟩
theorem mk_Jx4a65c_grow_92f84 : ab_MK MJx4a65c_grow_92f84 1 := ⟨lw_g_of (i := 385) (by decide +kernel) (by decide +kernel), ini_ArrayList, by decide +kernel, by decide +kernel, by decide +kernel, by decide +kernel⟩
theorem mk_J8_newLength_cabcc : ab_MK MJ8_newLength_cabcc 3 := ⟨lw_g_of (i := 388) (by decide +kernel) (by decide +kernel), ini_ArraysSupport, by decide +kernel, by decide +kernel, by decide +kernel, by decide +kernel⟩
theorem mk_J8_hugeLength_7cf53 : ab_MK MJ8_hugeLength_7cf53 2 := ⟨lw_g_of (i := 393) (by decide +kernel) (by decide +kernel), ini_ArraysSupport, by decide +kernel, by decide +kernel, by decide +kernel, by decide +kernel⟩
theorem mk_J7_copyOf_1904c : ab_MK MJ7_copyOf_1904c 2 := ⟨lw_g_of (i := 396) (by decide +kernel) (by decide +kernel), ini_Arrays, by decide +kernel, by decide +kernel, by decide +kernel, by decide +kernel⟩
theorem mk_J7_copyOf_6403c : ab_MK MJ7_copyOf_6403c 3 := ⟨lw_g_of (i := 412) (by decide +kernel) (by decide +kernel), ini_Arrays, by decide +kernel, by decide +kernel, by decide +kernel, by decide +kernel⟩
theorem mk_X2_end : ab_MK MX2_end 0 := ⟨lw_g_of (i := 425) (by decide +kernel) (by decide +kernel), ini_Job, by decide +kernel, by decide +kernel, by decide +kernel, by decide +kernel⟩
theorem mk_X1_empty : ab_MK MX1_empty 0 := ⟨lw_g_of (i := 429) (by decide +kernel) (by decide +kernel), ini_FileRow, by decide +kernel, by decide +kernel, by decide +kernel, by decide +kernel⟩
theorem mk_Jx4a65c_clear_da8c8 : ab_MK MJx4a65c_clear_da8c8 0 := ⟨lw_g_of (i := 433) (by decide +kernel) (by decide +kernel), ini_ArrayList, by decide +kernel, by decide +kernel, by decide +kernel, by decide +kernel⟩
theorem mk_X6_greatestNumberLeft : ab_MK MX6_greatestNumberLeft 0 := ⟨lw_g_of (i := 437) (by decide +kernel) (by decide +kernel), ini_LevelStore, by decide +kernel, by decide +kernel, by decide +kernel, by decide +kernel⟩
theorem mk_X4_greatestNumber : ab_MK MX4_greatestNumber 0 := ⟨lw_g_of (i := 441) (by decide +kernel) (by decide +kernel), ini_Row, by decide +kernel, by decide +kernel, by decide +kernel, by decide +kernel⟩
theorem mk_X4_number : ab_MK MX4_number 1 := ⟨lw_g_of (i := 445) (by decide +kernel) (by decide +kernel), ini_Row, by decide +kernel, by decide +kernel, by decide +kernel, by decide +kernel⟩
theorem mk_X1_greatestNumber : ab_MK MX1_greatestNumber 0 := ⟨lw_g_of (i := 450) (by decide +kernel) (by decide +kernel), ini_FileRow, by decide +kernel, by decide +kernel, by decide +kernel, by decide +kernel⟩
theorem mk_X1_at : ab_MK MX1_at 1 := ⟨lw_g_of (i := 454) (by decide +kernel) (by decide +kernel), ini_FileRow, by decide +kernel, by decide +kernel, by decide +kernel, by decide +kernel⟩
theorem mk_Jx4a65c_get_915e3 : ab_MK MJx4a65c_get_915e3 1 := ⟨lw_g_of (i := 458) (by decide +kernel) (by decide +kernel), ini_ArrayList, by decide +kernel, by decide +kernel, by decide +kernel, by decide +kernel⟩
theorem mk_Jx4a65c_elementData_915e3 : ab_MK MJx4a65c_elementData_915e3 1 := ⟨lw_g_of (i := 462) (by decide +kernel) (by decide +kernel), ini_ArrayList, by decide +kernel, by decide +kernel, by decide +kernel, by decide +kernel⟩
theorem mk_X6_get : ab_MK MX6_get 1 := ⟨lw_g_of (i := 469) (by decide +kernel) (by decide +kernel), ini_LevelStore, by decide +kernel, by decide +kernel, by decide +kernel, by decide +kernel⟩
theorem mk_X6_readUpTo : ab_MK MX6_readUpTo 2 := ⟨lw_g_of (i := 473) (by decide +kernel) (by decide +kernel), ini_LevelStore, by decide +kernel, by decide +kernel, by decide +kernel, by decide +kernel⟩
theorem mk_X3_begin : ab_MK MX3_begin 3 := ⟨lw_g_of (i := 477) (by decide +kernel) (by decide +kernel), ini_Reading, by decide +kernel, by decide +kernel, by decide +kernel, by decide +kernel⟩
theorem mk_X6_readAll : ab_MK MX6_readAll 0 := ⟨lw_g_of (i := 484) (by decide +kernel) (by decide +kernel), ini_LevelStore, by decide +kernel, by decide +kernel, by decide +kernel, by decide +kernel⟩
theorem mk_X3_take : ab_MK MX3_take 1 := ⟨lw_g_of (i := 488) (by decide +kernel) (by decide +kernel), ini_Reading, by decide +kernel, by decide +kernel, by decide +kernel, by decide +kernel⟩
theorem mk_X4_key : ab_MK MX4_key 1 := ⟨lw_g_of (i := 492) (by decide +kernel) (by decide +kernel), ini_Row, by decide +kernel, by decide +kernel, by decide +kernel, by decide +kernel⟩
theorem mk_X4_value : ab_MK MX4_value 1 := ⟨lw_g_of (i := 497) (by decide +kernel) (by decide +kernel), ini_Row, by decide +kernel, by decide +kernel, by decide +kernel, by decide +kernel⟩
theorem mk_X1_letRead : ab_MK MX1_letRead 1 := ⟨lw_g_of (i := 501) (by decide +kernel) (by decide +kernel), ini_FileRow, by decide +kernel, by decide +kernel, by decide +kernel, by decide +kernel⟩
theorem mk_X3_concerns : ab_MK MX3_concerns 1 := ⟨lw_g_of (i := 505) (by decide +kernel) (by decide +kernel), ini_Reading, by decide +kernel, by decide +kernel, by decide +kernel, by decide +kernel⟩
theorem mk_X5_leastKey : ab_MK MX5_leastKey 0 := ⟨lw_g_of (i := 509) (by decide +kernel) (by decide +kernel), ini_SortedFile, by decide +kernel, by decide +kernel, by decide +kernel, by decide +kernel⟩
theorem mk_X5_greatestKey : ab_MK MX5_greatestKey 0 := ⟨lw_g_of (i := 514) (by decide +kernel) (by decide +kernel), ini_SortedFile, by decide +kernel, by decide +kernel, by decide +kernel, by decide +kernel⟩
theorem mk_X3_valueOf : ab_MK MX3_valueOf 1 := ⟨lw_g_of (i := 519) (by decide +kernel) (by decide +kernel), ini_Reading, by decide +kernel, by decide +kernel, by decide +kernel, by decide +kernel⟩
theorem mk_X6_view : ab_MK MX6_view 2 := ⟨lw_g_of (i := 523) (by decide +kernel) (by decide +kernel), ini_LevelStore, by decide +kernel, by decide +kernel, by decide +kernel, by decide +kernel⟩
theorem mk_X6_isHeld : ab_MK MX6_isHeld 1 := ⟨lw_g_of (i := 527) (by decide +kernel) (by decide +kernel), ini_LevelStore, by decide +kernel, by decide +kernel, by decide +kernel, by decide +kernel⟩
theorem mk_X6_numberOfView : ab_MK MX6_numberOfView 1 := ⟨lw_g_of (i := 531) (by decide +kernel) (by decide +kernel), ini_LevelStore, by decide +kernel, by decide +kernel, by decide +kernel, by decide +kernel⟩
theorem mk_X6_isView : ab_MK MX6_isView 1 := ⟨lw_g_of (i := 535) (by decide +kernel) (by decide +kernel), ini_LevelStore, by decide +kernel, by decide +kernel, by decide +kernel, by decide +kernel⟩
theorem mk_X6_next : ab_MK MX6_next 2 := ⟨lw_g_of (i := 540) (by decide +kernel) (by decide +kernel), ini_LevelStore, by decide +kernel, by decide +kernel, by decide +kernel, by decide +kernel⟩
theorem mk_X3_leastKeyWithValue : ab_MK MX3_leastKeyWithValue 0 := ⟨lw_g_of (i := 544) (by decide +kernel) (by decide +kernel), ini_Reading, by decide +kernel, by decide +kernel, by decide +kernel, by decide +kernel⟩
theorem mk_X6_hold : ab_MK MX6_hold 1 := ⟨lw_g_of (i := 548) (by decide +kernel) (by decide +kernel), ini_LevelStore, by decide +kernel, by decide +kernel, by decide +kernel, by decide +kernel⟩
theorem mk_X6_release : ab_MK MX6_release 1 := ⟨lw_g_of (i := 553) (by decide +kernel) (by decide +kernel), ini_LevelStore, by decide +kernel, by decide +kernel, by decide +kernel, by decide +kernel⟩
theorem mk_X6_flush : ab_MK MX6_flush 0 := ⟨lw_g_of (i := 557) (by decide +kernel) (by decide +kernel), ini_LevelStore, by decide +kernel, by decide +kernel, by decide +kernel, by decide +kernel⟩
theorem mk_X2_begin : ab_MK MX2_begin 2 := ⟨lw_g_of (i := 561) (by decide +kernel) (by decide +kernel), ini_Job, by decide +kernel, by decide +kernel, by decide +kernel, by decide +kernel⟩
theorem mk_X6_files : ab_MK MX6_files 1 := ⟨lw_g_of (i := 565) (by decide +kernel) (by decide +kernel), ini_LevelStore, by decide +kernel, by decide +kernel, by decide +kernel, by decide +kernel⟩
theorem mk_X6_levelAt : ab_MK MX6_levelAt 1 := ⟨lw_g_of (i := 569) (by decide +kernel) (by decide +kernel), ini_LevelStore, by decide +kernel, by decide +kernel, by decide +kernel, by decide +kernel⟩
theorem mk_X4_insert : ab_MK MX4_insert 3 := ⟨lw_g_of (i := 576) (by decide +kernel) (by decide +kernel), ini_Row, by decide +kernel, by decide +kernel, by decide +kernel, by decide +kernel⟩
theorem mk_X4_standsBehind : ab_MK MX4_standsBehind 3 := ⟨lw_g_of (i := 580) (by decide +kernel) (by decide +kernel), ini_Row, by decide +kernel, by decide +kernel, by decide +kernel, by decide +kernel⟩
theorem mk_X4_copyTo : ab_MK MX4_copyTo 3 := ⟨lw_g_of (i := 585) (by decide +kernel) (by decide +kernel), ini_Row, by decide +kernel, by decide +kernel, by decide +kernel, by decide +kernel⟩
theorem mk_X2_decide : ab_MK MX2_decide 1 := ⟨lw_g_of (i := 590) (by decide +kernel) (by decide +kernel), ini_Job, by decide +kernel, by decide +kernel, by decide +kernel, by decide +kernel⟩
theorem mk_X2_isFirstOfKey : ab_MK MX2_isFirstOfKey 1 := ⟨lw_g_of (i := 594) (by decide +kernel) (by decide +kernel), ini_Job, by decide +kernel, by decide +kernel, by decide +kernel, by decide +kernel⟩
theorem mk_X2_isSeen : ab_MK MX2_isSeen 2 := ⟨lw_g_of (i := 599) (by decide +kernel) (by decide +kernel), ini_Job, by decide +kernel, by decide +kernel, by decide +kernel, by decide +kernel⟩
theorem mk_X2_leaveOutGraves : ab_MK MX2_leaveOutGraves 0 := ⟨lw_g_of (i := 604) (by decide +kernel) (by decide +kernel), ini_Job, by decide +kernel, by decide +kernel, by decide +kernel, by decide +kernel⟩
theorem mk_X2_isLastOfKey : ab_MK MX2_isLastOfKey 1 := ⟨lw_g_of (i := 609) (by decide +kernel) (by decide +kernel), ini_Job, by decide +kernel, by decide +kernel, by decide +kernel, by decide +kernel⟩
theorem mk_X4_isGrave : ab_MK MX4_isGrave 1 := ⟨lw_g_of (i := 613) (by decide +kernel) (by decide +kernel), ini_Row, by decide +kernel, by decide +kernel, by decide +kernel, by decide +kernel⟩
theorem mk_X2_left : ab_MK MX2_left 0 := ⟨lw_g_of (i := 617) (by decide +kernel) (by decide +kernel), ini_Job, by decide +kernel, by decide +kernel, by decide +kernel, by decide +kernel⟩
theorem mk_X6_merge : ab_MK MX6_merge 2 := ⟨lw_g_of (i := 621) (by decide +kernel) (by decide +kernel), ini_LevelStore, by decide +kernel, by decide +kernel, by decide +kernel, by decide +kernel⟩
theorem mk_X1_leastKey : ab_MK MX1_leastKey 2 := ⟨lw_g_of (i := 626) (by decide +kernel) (by decide +kernel), ini_FileRow, by decide +kernel, by decide +kernel, by decide +kernel, by decide +kernel⟩
theorem mk_X1_howManyEndBelow : ab_MK MX1_howManyEndBelow 1 := ⟨lw_g_of (i := 632) (by decide +kernel) (by decide +kernel), ini_FileRow, by decide +kernel, by decide +kernel, by decide +kernel, by decide +kernel⟩
theorem mk_X1_greatestKey : ab_MK MX1_greatestKey 2 := ⟨lw_g_of (i := 637) (by decide +kernel) (by decide +kernel), ini_FileRow, by decide +kernel, by decide +kernel, by decide +kernel, by decide +kernel⟩
theorem mk_X1_howManyBeginUpTo : ab_MK MX1_howManyBeginUpTo 1 := ⟨lw_g_of (i := 641) (by decide +kernel) (by decide +kernel), ini_FileRow, by decide +kernel, by decide +kernel, by decide +kernel, by decide +kernel⟩
theorem mk_X1_mergeInto : ab_MK MX1_mergeInto 3 := ⟨lw_g_of (i := 645) (by decide +kernel) (by decide +kernel), ini_FileRow, by decide +kernel, by decide +kernel, by decide +kernel, by decide +kernel⟩
theorem mk_X4_mergeIn : ab_MK MX4_mergeIn 1 := ⟨lw_g_of (i := 649) (by decide +kernel) (by decide +kernel), ini_Row, by decide +kernel, by decide +kernel, by decide +kernel, by decide +kernel⟩
theorem mk_X6_work : ab_MK MX6_work 1 := ⟨lw_g_of (i := 653) (by decide +kernel) (by decide +kernel), ini_LevelStore, by decide +kernel, by decide +kernel, by decide +kernel, by decide +kernel⟩
theorem mk_X6_doOneEntry : ab_MK MX6_doOneEntry 0 := ⟨lw_g_of (i := 657) (by decide +kernel) (by decide +kernel), ini_LevelStore, by decide +kernel, by decide +kernel, by decide +kernel, by decide +kernel⟩
theorem mk_X2_isLeftOut : ab_MK MX2_isLeftOut 1 := ⟨lw_g_of (i := 661) (by decide +kernel) (by decide +kernel), ini_Job, by decide +kernel, by decide +kernel, by decide +kernel, by decide +kernel⟩
theorem mk_X2_endsFileAhead : ab_MK MX2_endsFileAhead 1 := ⟨lw_g_of (i := 665) (by decide +kernel) (by decide +kernel), ini_Job, by decide +kernel, by decide +kernel, by decide +kernel, by decide +kernel⟩
theorem mk_X6_endFile : ab_MK MX6_endFile 0 := ⟨lw_g_of (i := 669) (by decide +kernel) (by decide +kernel), ini_LevelStore, by decide +kernel, by decide +kernel, by decide +kernel, by decide +kernel⟩
theorem mk_X6_freshFile : ab_MK MX6_freshFile 0 := ⟨lw_g_of (i := 673) (by decide +kernel) (by decide +kernel), ini_LevelStore, by decide +kernel, by decide +kernel, by decide +kernel, by decide +kernel⟩
theorem mk_X5_init : ab_MK MX5_init 0 := ⟨lw_g_of (i := 678) (by decide +kernel) (by decide +kernel), ini_SortedFile, by decide +kernel, by decide +kernel, by decide +kernel, by decide +kernel⟩
theorem mk_X4_takeAll : ab_MK MX4_takeAll 1 := ⟨lw_g_of (i := 704) (by decide +kernel) (by decide +kernel), ini_Row, by decide +kernel, by decide +kernel, by decide +kernel, by decide +kernel⟩
theorem mk_X0_lay : ab_MK MX0_lay 1 := ⟨lw_g_of (i := 709) (by decide +kernel) (by decide +kernel), ini_Field, by decide +kernel, by decide +kernel, by decide +kernel, by decide +kernel⟩
theorem mk_X0_encode : ab_MK MX0_encode 1 := ⟨lw_g_of (i := 713) (by decide +kernel) (by decide +kernel), ini_Field, by decide +kernel, by decide +kernel, by decide +kernel, by decide +kernel⟩
theorem mk_X0_emit : ab_MK MX0_emit 1 := ⟨lw_g_of (i := 717) (by decide +kernel) (by decide +kernel), ini_Field, by decide +kernel, by decide +kernel, by decide +kernel, by decide +kernel⟩
theorem mk_X0_emitShort : ab_MK MX0_emitShort 1 := ⟨lw_g_of (i := 722) (by decide +kernel) (by decide +kernel), ini_Field, by decide +kernel, by decide +kernel, by decide +kernel, by decide +kernel⟩
theorem mk_X0_folded : ab_MK MX0_folded 1 := ⟨lw_g_of (i := 728) (by decide +kernel) (by decide +kernel), ini_Field, by decide +kernel, by decide +kernel, by decide +kernel, by decide +kernel⟩
theorem mk_X0_sumOfCode : ab_MK MX0_sumOfCode 0 := ⟨lw_g_of (i := 732) (by decide +kernel) (by decide +kernel), ini_Field, by decide +kernel, by decide +kernel, by decide +kernel, by decide +kernel⟩
theorem mk_X0_firstRoom : ab_MK MX0_firstRoom 1 := ⟨lw_g_of (i := 736) (by decide +kernel) (by decide +kernel), ini_Field, by decide +kernel, by decide +kernel, by decide +kernel, by decide +kernel⟩
theorem mk_X6_install : ab_MK MX6_install 0 := ⟨lw_g_of (i := 740) (by decide +kernel) (by decide +kernel), ini_LevelStore, by decide +kernel, by decide +kernel, by decide +kernel, by decide +kernel⟩
theorem mk_X6_loseFirstLogged : ab_MK MX6_loseFirstLogged 1 := ⟨lw_g_of (i := 745) (by decide +kernel) (by decide +kernel), ini_LevelStore, by decide +kernel, by decide +kernel, by decide +kernel, by decide +kernel⟩
theorem mk_X4_loseFirst : ab_MK MX4_loseFirst 1 := ⟨lw_g_of (i := 749) (by decide +kernel) (by decide +kernel), ini_Row, by decide +kernel, by decide +kernel, by decide +kernel, by decide +kernel⟩
theorem mk_X6_stop : ab_MK MX6_stop 0 := ⟨lw_g_of (i := 753) (by decide +kernel) (by decide +kernel), ini_LevelStore, by decide +kernel, by decide +kernel, by decide +kernel, by decide +kernel⟩
theorem mk_X6_high : ab_MK MX6_high 0 := ⟨lw_g_of (i := 757) (by decide +kernel) (by decide +kernel), ini_LevelStore, by decide +kernel, by decide +kernel, by decide +kernel, by decide +kernel⟩
theorem mk_X6_file : ab_MK MX6_file 3 := ⟨lw_g_of (i := 762) (by decide +kernel) (by decide +kernel), ini_LevelStore, by decide +kernel, by decide +kernel, by decide +kernel, by decide +kernel⟩
theorem mk_X6_fileAt : ab_MK MX6_fileAt 2 := ⟨lw_g_of (i := 766) (by decide +kernel) (by decide +kernel), ini_LevelStore, by decide +kernel, by decide +kernel, by decide +kernel, by decide +kernel⟩
theorem mk_X6_entry : ab_MK MX6_entry 4 := ⟨lw_g_of (i := 772) (by decide +kernel) (by decide +kernel), ini_LevelStore, by decide +kernel, by decide +kernel, by decide +kernel, by decide +kernel⟩
theorem mk_X4_told : ab_MK MX4_told 2 := ⟨lw_g_of (i := 776) (by decide +kernel) (by decide +kernel), ini_Row, by decide +kernel, by decide +kernel, by decide +kernel, by decide +kernel⟩
theorem mk_X6_byteAt : ab_MK MX6_byteAt 1 := ⟨lw_g_of (i := 781) (by decide +kernel) (by decide +kernel), ini_LevelStore, by decide +kernel, by decide +kernel, by decide +kernel, by decide +kernel⟩
theorem mk_X6_log : ab_MK MX6_log 2 := ⟨lw_g_of (i := 786) (by decide +kernel) (by decide +kernel), ini_LevelStore, by decide +kernel, by decide +kernel, by decide +kernel, by decide +kernel⟩
theorem mk_X6_count : ab_MK MX6_count 1 := ⟨lw_g_of (i := 790) (by decide +kernel) (by decide +kernel), ini_LevelStore, by decide +kernel, by decide +kernel, by decide +kernel, by decide +kernel⟩
theorem mk_X6_filesInForce : ab_MK MX6_filesInForce 0 := ⟨lw_g_of (i := 794) (by decide +kernel) (by decide +kernel), ini_LevelStore, by decide +kernel, by decide +kernel, by decide +kernel, by decide +kernel⟩
theorem mk_X6_bytesInForce : ab_MK MX6_bytesInForce 0 := ⟨lw_g_of (i := 798) (by decide +kernel) (by decide +kernel), ini_LevelStore, by decide +kernel, by decide +kernel, by decide +kernel, by decide +kernel⟩
theorem mk_X1_bytes : ab_MK MX1_bytes 0 := ⟨lw_g_of (i := 802) (by decide +kernel) (by decide +kernel), ini_FileRow, by decide +kernel, by decide +kernel, by decide +kernel, by decide +kernel⟩
theorem mk_X6_entriesInForce : ab_MK MX6_entriesInForce 0 := ⟨lw_g_of (i := 806) (by decide +kernel) (by decide +kernel), ini_LevelStore, by decide +kernel, by decide +kernel, by decide +kernel, by decide +kernel⟩
theorem mk_X1_entries : ab_MK MX1_entries 0 := ⟨lw_g_of (i := 810) (by decide +kernel) (by decide +kernel), ini_FileRow, by decide +kernel, by decide +kernel, by decide +kernel, by decide +kernel⟩
theorem mk_X6_check : ab_MK MX6_check 0 := ⟨lw_g_of (i := 814) (by decide +kernel) (by decide +kernel), ini_LevelStore, by decide +kernel, by decide +kernel, by decide +kernel, by decide +kernel⟩
theorem mk_X0_holds : ab_MK MX0_holds 1 := ⟨lw_g_of (i := 818) (by decide +kernel) (by decide +kernel), ini_Field, by decide +kernel, by decide +kernel, by decide +kernel, by decide +kernel⟩
theorem mk_X7_init : ab_MK MX7_init 0 := ⟨lw_g_of (i := 823) (by decide +kernel) (by decide +kernel), ini_LevelStoreModel, by decide +kernel, by decide +kernel, by decide +kernel, by decide +kernel⟩
theorem mk_X7_put : ab_MK MX7_put 2 := ⟨lw_g_of (i := 952) (by decide +kernel) (by decide +kernel), ini_LevelStoreModel, by decide +kernel, by decide +kernel, by decide +kernel, by decide +kernel⟩
theorem mk_X7_in : ab_MK MX7_in 3 := ⟨lw_g_of (i := 956) (by decide +kernel) (by decide +kernel), ini_LevelStoreModel, by decide +kernel, by decide +kernel, by decide +kernel, by decide +kernel⟩
theorem mk_X7_write : ab_MK MX7_write 2 := ⟨lw_g_of (i := 963) (by decide +kernel) (by decide +kernel), ini_LevelStoreModel, by decide +kernel, by decide +kernel, by decide +kernel, by decide +kernel⟩
theorem mk_X7_drop : ab_MK MX7_drop 1 := ⟨lw_g_of (i := 969) (by decide +kernel) (by decide +kernel), ini_LevelStoreModel, by decide +kernel, by decide +kernel, by decide +kernel, by decide +kernel⟩
theorem mk_X7_sync : ab_MK MX7_sync 0 := ⟨lw_g_of (i := 974) (by decide +kernel) (by decide +kernel), ini_LevelStoreModel, by decide +kernel, by decide +kernel, by decide +kernel, by decide +kernel⟩
theorem mk_X7_crash : ab_MK MX7_crash 1 := ⟨lw_g_of (i := 978) (by decide +kernel) (by decide +kernel), ini_LevelStoreModel, by decide +kernel, by decide +kernel, by decide +kernel, by decide +kernel⟩
theorem mk_X7_giveUp : ab_MK MX7_giveUp 0 := ⟨lw_g_of (i := 982) (by decide +kernel) (by decide +kernel), ini_LevelStoreModel, by decide +kernel, by decide +kernel, by decide +kernel, by decide +kernel⟩
theorem mk_X7_get : ab_MK MX7_get 1 := ⟨lw_g_of (i := 986) (by decide +kernel) (by decide +kernel), ini_LevelStoreModel, by decide +kernel, by decide +kernel, by decide +kernel, by decide +kernel⟩
theorem mk_X7_read : ab_MK MX7_read 2 := ⟨lw_g_of (i := 990) (by decide +kernel) (by decide +kernel), ini_LevelStoreModel, by decide +kernel, by decide +kernel, by decide +kernel, by decide +kernel⟩
theorem mk_X7_view : ab_MK MX7_view 2 := ⟨lw_g_of (i := 995) (by decide +kernel) (by decide +kernel), ini_LevelStoreModel, by decide +kernel, by decide +kernel, by decide +kernel, by decide +kernel⟩
theorem mk_X7_noView : ab_MK MX7_noView 1 := ⟨lw_g_of (i := 999) (by decide +kernel) (by decide +kernel), ini_LevelStoreModel, by decide +kernel, by decide +kernel, by decide +kernel, by decide +kernel⟩
theorem mk_X7_next : ab_MK MX7_next 2 := ⟨lw_g_of (i := 1005) (by decide +kernel) (by decide +kernel), ini_LevelStoreModel, by decide +kernel, by decide +kernel, by decide +kernel, by decide +kernel⟩
theorem mk_X7_hold : ab_MK MX7_hold 1 := ⟨lw_g_of (i := 1009) (by decide +kernel) (by decide +kernel), ini_LevelStoreModel, by decide +kernel, by decide +kernel, by decide +kernel, by decide +kernel⟩
theorem mk_X7_release : ab_MK MX7_release 1 := ⟨lw_g_of (i := 1014) (by decide +kernel) (by decide +kernel), ini_LevelStoreModel, by decide +kernel, by decide +kernel, by decide +kernel, by decide +kernel⟩
theorem mk_X7_flush : ab_MK MX7_flush 0 := ⟨lw_g_of (i := 1018) (by decide +kernel) (by decide +kernel), ini_LevelStoreModel, by decide +kernel, by decide +kernel, by decide +kernel, by decide +kernel⟩
theorem mk_X7_begin : ab_MK MX7_begin 1 := ⟨lw_g_of (i := 1022) (by decide +kernel) (by decide +kernel), ini_LevelStoreModel, by decide +kernel, by decide +kernel, by decide +kernel, by decide +kernel⟩
theorem mk_X7_source : ab_MK MX7_source 3 := ⟨lw_g_of (i := 1026) (by decide +kernel) (by decide +kernel), ini_LevelStoreModel, by decide +kernel, by decide +kernel, by decide +kernel, by decide +kernel⟩
theorem mk_X7_merge : ab_MK MX7_merge 2 := ⟨lw_g_of (i := 1030) (by decide +kernel) (by decide +kernel), ini_LevelStoreModel, by decide +kernel, by decide +kernel, by decide +kernel, by decide +kernel⟩
theorem mk_X7_listLevel : ab_MK MX7_listLevel 1 := ⟨lw_g_of (i := 1034) (by decide +kernel) (by decide +kernel), ini_LevelStoreModel, by decide +kernel, by decide +kernel, by decide +kernel, by decide +kernel⟩
theorem mk_X7_least : ab_MK MX7_least 1 := ⟨lw_g_of (i := 1038) (by decide +kernel) (by decide +kernel), ini_LevelStoreModel, by decide +kernel, by decide +kernel, by decide +kernel, by decide +kernel⟩
theorem mk_X7_greatest : ab_MK MX7_greatest 1 := ⟨lw_g_of (i := 1042) (by decide +kernel) (by decide +kernel), ini_LevelStoreModel, by decide +kernel, by decide +kernel, by decide +kernel, by decide +kernel⟩
theorem mk_X7_sourceFile : ab_MK MX7_sourceFile 1 := ⟨lw_g_of (i := 1046) (by decide +kernel) (by decide +kernel), ini_LevelStoreModel, by decide +kernel, by decide +kernel, by decide +kernel, by decide +kernel⟩
theorem mk_X7_work : ab_MK MX7_work 1 := ⟨lw_g_of (i := 1050) (by decide +kernel) (by decide +kernel), ini_LevelStoreModel, by decide +kernel, by decide +kernel, by decide +kernel, by decide +kernel⟩
theorem mk_X7_does : ab_MK MX7_does 1 := ⟨lw_g_of (i := 1055) (by decide +kernel) (by decide +kernel), ini_LevelStoreModel, by decide +kernel, by decide +kernel, by decide +kernel, by decide +kernel⟩
theorem mk_X7_isLeftOut : ab_MK MX7_isLeftOut 1 := ⟨lw_g_of (i := 1059) (by decide +kernel) (by decide +kernel), ini_LevelStoreModel, by decide +kernel, by decide +kernel, by decide +kernel, by decide +kernel⟩
theorem mk_X7_isUnseen : ab_MK MX7_isUnseen 1 := ⟨lw_g_of (i := 1063) (by decide +kernel) (by decide +kernel), ini_LevelStoreModel, by decide +kernel, by decide +kernel, by decide +kernel, by decide +kernel⟩
theorem mk_X7_ends : ab_MK MX7_ends 0 := ⟨lw_g_of (i := 1067) (by decide +kernel) (by decide +kernel), ini_LevelStoreModel, by decide +kernel, by decide +kernel, by decide +kernel, by decide +kernel⟩
theorem mk_X7_encode : ab_MK MX7_encode 0 := ⟨lw_g_of (i := 1071) (by decide +kernel) (by decide +kernel), ini_LevelStoreModel, by decide +kernel, by decide +kernel, by decide +kernel, by decide +kernel⟩
theorem mk_X7_shortNumber : ab_MK MX7_shortNumber 1 := ⟨lw_g_of (i := 1075) (by decide +kernel) (by decide +kernel), ini_LevelStoreModel, by decide +kernel, by decide +kernel, by decide +kernel, by decide +kernel⟩
theorem mk_X7_room : ab_MK MX7_room 1 := ⟨lw_g_of (i := 1079) (by decide +kernel) (by decide +kernel), ini_LevelStoreModel, by decide +kernel, by decide +kernel, by decide +kernel, by decide +kernel⟩
theorem mk_X7_install : ab_MK MX7_install 0 := ⟨lw_g_of (i := 1083) (by decide +kernel) (by decide +kernel), ini_LevelStoreModel, by decide +kernel, by decide +kernel, by decide +kernel, by decide +kernel⟩
theorem mk_X7_stop : ab_MK MX7_stop 0 := ⟨lw_g_of (i := 1087) (by decide +kernel) (by decide +kernel), ini_LevelStoreModel, by decide +kernel, by decide +kernel, by decide +kernel, by decide +kernel⟩
theorem mk_X7_high : ab_MK MX7_high 0 := ⟨lw_g_of (i := 1091) (by decide +kernel) (by decide +kernel), ini_LevelStoreModel, by decide +kernel, by decide +kernel, by decide +kernel, by decide +kernel⟩
theorem mk_X7_files : ab_MK MX7_files 1 := ⟨lw_g_of (i := 1095) (by decide +kernel) (by decide +kernel), ini_LevelStoreModel, by decide +kernel, by decide +kernel, by decide +kernel, by decide +kernel⟩
theorem mk_X7_file : ab_MK MX7_file 3 := ⟨lw_g_of (i := 1099) (by decide +kernel) (by decide +kernel), ini_LevelStoreModel, by decide +kernel, by decide +kernel, by decide +kernel, by decide +kernel⟩
theorem mk_X7_slot : ab_MK MX7_slot 2 := ⟨lw_g_of (i := 1103) (by decide +kernel) (by decide +kernel), ini_LevelStoreModel, by decide +kernel, by decide +kernel, by decide +kernel, by decide +kernel⟩
theorem mk_X7_entry : ab_MK MX7_entry 4 := ⟨lw_g_of (i := 1107) (by decide +kernel) (by decide +kernel), ini_LevelStoreModel, by decide +kernel, by decide +kernel, by decide +kernel, by decide +kernel⟩
theorem mk_X7_byteAt : ab_MK MX7_byteAt 1 := ⟨lw_g_of (i := 1111) (by decide +kernel) (by decide +kernel), ini_LevelStoreModel, by decide +kernel, by decide +kernel, by decide +kernel, by decide +kernel⟩
theorem mk_X7_log : ab_MK MX7_log 2 := ⟨lw_g_of (i := 1116) (by decide +kernel) (by decide +kernel), ini_LevelStoreModel, by decide +kernel, by decide +kernel, by decide +kernel, by decide +kernel⟩
theorem mk_X7_count : ab_MK MX7_count 1 := ⟨lw_g_of (i := 1120) (by decide +kernel) (by decide +kernel), ini_LevelStoreModel, by decide +kernel, by decide +kernel, by decide +kernel, by decide +kernel⟩
theorem mk_X7_check : ab_MK MX7_check 0 := ⟨lw_g_of (i := 1124) (by decide +kernel) (by decide +kernel), ini_LevelStoreModel, by decide +kernel, by decide +kernel, by decide +kernel, by decide +kernel⟩
theorem mk_X7_codesAs : ab_MK MX7_codesAs 1 := ⟨lw_g_of (i := 1128) (by decide +kernel) (by decide +kernel), ini_LevelStoreModel, by decide +kernel, by decide +kernel, by decide +kernel, by decide +kernel⟩
