theorem mf_0 : 0 < mm_cn 0 := by decide
theorem mf_1 : 0 < mm_cn 1 := by decide
theorem mf_2 : 0 < mm_cn 2 := by decide
theorem mf_3 : 0 < mm_cn 3 := by decide
theorem mf_4 : 0 < mm_cn 4 := by decide
theorem mf_6 : 0 < mm_cn 6 := by decide
theorem mf_7 : 0 < mm_cn 7 := by decide
theorem mf_8 : 0 < mm_cn 8 := by decide
theorem mf_11 : 0 < mm_cn 11 := by decide
theorem mf_15 : 0 < mm_cn 15 := by decide
theorem mf_16 : 0 < mm_cn 16 := by decide
theorem mf_17 : 0 < mm_cn 17 := by decide
theorem mf_18 : 0 < mm_cn 18 := by decide
theorem mf_19 : 0 < mm_cn 19 := by decide
theorem mf_20 : 0 < mm_cn 20 := by decide
theorem mf_21 : 0 < mm_cn 21 := by decide
theorem mf_22 : 0 < mm_cn 22 := by decide
theorem mf_23 : 0 < mm_cn 23 := by decide
theorem mf_24 : 0 < mm_cn 24 := by decide
theorem mf_25 : 0 < mm_cn 25 := by decide
theorem mf_26 : 0 < mm_cn 26 := by decide
theorem mf_27 : 0 < mm_cn 27 := by decide
theorem mf_28 : 0 < mm_cn 28 := by decide
theorem mf_29 : 0 < mm_cn 29 := by decide
theorem mf_30 : 0 < mm_cn 30 := by decide
theorem mf_31 : 0 < mm_cn 31 := by decide
theorem mf_32 : 0 < mm_cn 32 := by decide
theorem mf_33 : 0 < mm_cn 33 := by decide
theorem mf_34 : 0 < mm_cn 34 := by decide
theorem mf_35 : 0 < mm_cn 35 := by decide
theorem mf_36 : 0 < mm_cn 36 := by decide
theorem mf_37 : 0 < mm_cn 37 := by decide
theorem mf_38 : 0 < mm_cn 38 := by decide
theorem mf_39 : 0 < mm_cn 39 := by decide
theorem mf_40 : 0 < mm_cn 40 := by decide
theorem mf_41 : 0 < mm_cn 41 := by decide
theorem mf_42 : 0 < mm_cn 42 := by decide
theorem mf_43 : 0 < mm_cn 43 := by decide
theorem mf_44 : 0 < mm_cn 44 := by decide
theorem mf_45 : 0 < mm_cn 45 := by decide
theorem mf_46 : 0 < mm_cn 46 := by decide
theorem mf_47 : 0 < mm_cn 47 := by decide
theorem mf_48 : 0 < mm_cn 48 := by decide
theorem mm_lt {x : Int32} {n : Nat} (h : vp_in x n) : x.toNatClampNeg < n := Nat.not_le.mp fun q => h (Or.inr q)
theorem dv_0 : ∀ j, j < 11 → defaultValue (tyX0 j) = (if mm_st 0 j = 0 then Value.int 0 else if mm_st 0 j = 1 then .long 0 else .null) := by decide
theorem dv_1 : ∀ j, j < 6 → defaultValue (tyX1 j) = (if mm_st 1 j = 0 then Value.int 0 else if mm_st 1 j = 1 then .long 0 else .null) := by decide
theorem dv_2 : ∀ j, j < 1 → defaultValue (tyX2 j) = (if mm_st 2 j = 0 then Value.int 0 else if mm_st 2 j = 1 then .long 0 else .null) := by decide
theorem dv_3 : ∀ j, j < 9 → defaultValue (tyX3 j) = (if mm_st 3 j = 0 then Value.int 0 else if mm_st 3 j = 1 then .long 0 else .null) := by decide
theorem dv_4 : ∀ j, j < 5 → defaultValue (tyX4 j) = (if mm_st 4 j = 0 then Value.int 0 else if mm_st 4 j = 1 then .long 0 else .null) := by decide
theorem dv_5 : ∀ j, j < 8 → defaultValue (tyX5 j) = (if mm_st 5 j = 0 then Value.int 0 else if mm_st 5 j = 1 then .long 0 else .null) := by decide
theorem dv_6 : ∀ j, j < 2 → defaultValue (tyX6 j) = (if mm_st 6 j = 0 then Value.int 0 else if mm_st 6 j = 1 then .long 0 else .null) := by decide
theorem dv_7 : ∀ j, j < 6 → defaultValue (tyX7 j) = (if mm_st 7 j = 0 then Value.int 0 else if mm_st 7 j = 1 then .long 0 else .null) := by decide
theorem dv_8 : ∀ j, j < 6 → defaultValue (tyX8 j) = (if mm_st 8 j = 0 then Value.int 0 else if mm_st 8 j = 1 then .long 0 else .null) := by decide
theorem dv_9 : ∀ j, j < 1 → defaultValue (tyX9 j) = (if mm_st 9 j = 0 then Value.int 0 else if mm_st 9 j = 1 then .long 0 else .null) := by decide
theorem dv_10 : ∀ j, j < 7 → defaultValue (tyX10 j) = (if mm_st 10 j = 0 then Value.int 0 else if mm_st 10 j = 1 then .long 0 else .null) := by decide
theorem dv_11 : ∀ j, j < 42 → defaultValue (tyX11 j) = (if mm_st 11 j = 0 then Value.int 0 else if mm_st 11 j = 1 then .long 0 else .null) := by decide
theorem mX5_init_0 : Cond.methodLink RX5 3 Lib.objectInit ∈ wsX5_init := List.mem_of_getElem? (i := 1) (by decide +kernel)
theorem mX5_init_1 : Cond.instanceMethod Lib.objectInit ∈ wsX5_init := List.mem_of_getElem? (i := 2) (by decide +kernel)
theorem mX5_init_2 : Cond.code Lib.objectInit ⟨#[0xb1]⟩ 1 none ∈ wsX5_init := List.mem_of_getElem? (i := 3) (by decide +kernel)
theorem dsc_X5_init : yX5_init.cls ≠ "java/lang/invoke/MethodHandle" ∧ yX5_init.cls ≠ "java/lang/invoke/VarHandle" ∧ (parseMethodDescriptor yX5_init.desc).map (fun d => d.parameters.length) = some 0 := by decide +kernel
set_option maxHeartbeats 4000000 in
set_option maxRecDepth 100000 in
theorem kX5_init (l : Launch) (i n : Nat) : mn_C l yX5_init wsX5_init ({ frames := 1, cells := 0, slots := 0, locals := 12 }) n n 0 0 (fun z => [.ref (z + mm_ad 9 i)]) (fun μ ρ Po => Po μ ρ) := by
  refine jq_entry (cc := cX5_init) (nL := 1) (own := RX5) (plainFor_of_name (by decide)) rfl rfl rfl (fun _ => Nat.le_of_ble_eq_true rfl) ?_
  intro p e s m args below meth c D cy z μ ρ Po C hK h0 hX hr hlk hini h
  change jG p l e ({ frames := 1, cells := 0, slots := 0, locals := 12 }) s m args below meth c (mm_B z) (MQ below (va_Qv (fun u : mm_T × mm_R => Po u.1 u.2) (fun u t => mn_P D cy z n u.1 u.2 t.heap) (mm_B z)) args s 0 0 (mm_B z)) 1 0 0 (mn_P D cy z n μ ρ) 0 [(0, .ref (z + mm_ad 9 i))] []
  refine jg_aload_n (q := 1) C 0 dX5_init_0 rfl rfl rfl ?_
  refine jg_obj (q := 4) C mX5_init_0 mX5_init_1 mX5_init_2 (by decide) (Nat.le_of_ble_eq_true rfl) dX5_init_1 rfl ?_
  exact jq_vret C hK h0 hr hlk rfl dX5_init_4 h
theorem mX7_init_0 : Cond.methodLink RX7 3 Lib.objectInit ∈ wsX7_init := List.mem_of_getElem? (i := 1) (by decide +kernel)
theorem mX7_init_1 : Cond.instanceMethod Lib.objectInit ∈ wsX7_init := List.mem_of_getElem? (i := 2) (by decide +kernel)
theorem mX7_init_2 : Cond.code Lib.objectInit ⟨#[0xb1]⟩ 1 none ∈ wsX7_init := List.mem_of_getElem? (i := 3) (by decide +kernel)
theorem dsc_X7_init : yX7_init.cls ≠ "java/lang/invoke/MethodHandle" ∧ yX7_init.cls ≠ "java/lang/invoke/VarHandle" ∧ (parseMethodDescriptor yX7_init.desc).map (fun d => d.parameters.length) = some 0 := by decide +kernel
set_option maxHeartbeats 4000000 in
set_option maxRecDepth 100000 in
theorem kX7_init (l : Launch) (i n : Nat) : mn_C l yX7_init wsX7_init ({ frames := 1, cells := 0, slots := 0, locals := 12 }) n n 0 0 (fun z => [.ref (z + mm_ad 10 i)]) (fun μ ρ Po => Po μ ρ) := by
  refine jq_entry (cc := cX7_init) (nL := 1) (own := RX7) (plainFor_of_name (by decide)) rfl rfl rfl (fun _ => Nat.le_of_ble_eq_true rfl) ?_
  intro p e s m args below meth c D cy z μ ρ Po C hK h0 hX hr hlk hini h
  change jG p l e ({ frames := 1, cells := 0, slots := 0, locals := 12 }) s m args below meth c (mm_B z) (MQ below (va_Qv (fun u : mm_T × mm_R => Po u.1 u.2) (fun u t => mn_P D cy z n u.1 u.2 t.heap) (mm_B z)) args s 0 0 (mm_B z)) 1 0 0 (mn_P D cy z n μ ρ) 0 [(0, .ref (z + mm_ad 10 i))] []
  refine jg_aload_n (q := 1) C 0 dX7_init_0 rfl rfl rfl ?_
  refine jg_obj (q := 4) C mX7_init_0 mX7_init_1 mX7_init_2 (by decide) (Nat.le_of_ble_eq_true rfl) dX7_init_1 rfl ?_
  exact jq_vret C hK h0 hr hlk rfl dX7_init_4 h
theorem mi_13 : ∀ i, i < 49 → mm_ft[31 + 3 * i]? = some (13, i) := by decide +kernel
theorem mi_14 : ∀ i, i < 49 → mm_ft[31 + 3 * i + 1]? = some (14, i) := by decide +kernel
theorem mi_12a : ∀ i, i < 49 → mm_ad 12 i < 31 + 3 * i + 1 := by decide +kernel
theorem mi_12b : ∀ i, i < 49 → mm_ad 12 i < 31 + 3 * i + 1 + 1 := by decide +kernel
theorem mX4_init_0 : Cond.methodLink RX4 3 Lib.objectInit ∈ wsX4_init := List.mem_of_getElem? (i := 1) (by decide +kernel)
theorem mX4_init_1 : Cond.instanceMethod Lib.objectInit ∈ wsX4_init := List.mem_of_getElem? (i := 2) (by decide +kernel)
theorem mX4_init_2 : Cond.code Lib.objectInit ⟨#[0xb1]⟩ 1 none ∈ wsX4_init := List.mem_of_getElem? (i := 3) (by decide +kernel)
theorem mX4_init_3 : Cond.arrayClass .int ∈ wsX4_init := List.mem_of_getElem? (i := 4) (by decide +kernel)
theorem nX4_init_4 : ∀ w ∈ wsX40, w ∈ wsX4_init := fun _ h => List.mem_cons_of_mem _ (List.mem_append_right _ h)
theorem mX4_init_5 : Cond.fieldLink RX4 9 RX4 (TX4 0).2.1 (TX4 0).2.2.1 ∈ wsX4_init := List.mem_of_getElem? (i := 5) (by decide +kernel)
theorem mX4_init_6 : Cond.fieldLink RX4 15 RX4 (TX4 1).2.1 (TX4 1).2.2.1 ∈ wsX4_init := List.mem_of_getElem? (i := 6) (by decide +kernel)
theorem dsc_X4_init : yX4_init.cls ≠ "java/lang/invoke/MethodHandle" ∧ yX4_init.cls ≠ "java/lang/invoke/VarHandle" ∧ (parseMethodDescriptor yX4_init.desc).map (fun d => d.parameters.length) = some 0 := by decide +kernel
set_option maxHeartbeats 4000000 in
set_option maxRecDepth 100000 in
theorem kX4_init (l : Launch) (i : Nat) (hi : i < 49) : mn_C l yX4_init wsX4_init ({ frames := 1, cells := 2, slots := 12, locals := 12 }) (31 + 3 * i) (31 + 3 * i + 2) 2 12 (fun z => [.ref (z + mm_ad 12 i)]) (fun μ ρ Po => Po (mm_Z (mm_Z μ 13 i) 14 i) (mr_W (mr_Z (mr_W (mr_Z ρ 13 i) 12 i 0 (mm_ad 13 i)) 14 i) 12 i 1 (mm_ad 14 i))) := by
  refine jq_entry (cc := cX4_init) (nL := 1) (own := RX4) (plainFor_of_name (by decide)) rfl rfl rfl (fun _ => Nat.le_of_ble_eq_true rfl) ?_
  intro p e s m args below meth c D cy z μ ρ Po C hK h0 hX hr hlk hini h
  change jG p l e ({ frames := 1, cells := 2, slots := 12, locals := 12 }) s m args below meth c (mm_B z) (MQ below (va_Qv (fun u : mm_T × mm_R => Po u.1 u.2) (fun u t => mn_P D cy z (31 + 3 * i + 2) u.1 u.2 t.heap) (mm_B z)) args s 2 12 (mm_B z)) 1 0 0 (mn_P D cy z (31 + 3 * i) μ ρ) 0 [(0, .ref (z + mm_ad 12 i))] []
  refine jg_aload_n (q := 1) C 0 dX4_init_0 rfl rfl rfl ?_
  refine jg_obj (q := 4) C mX4_init_0 mX4_init_1 mX4_init_2 (by decide) (Nat.le_of_ble_eq_true rfl) dX4_init_1 rfl ?_
  refine jg_aload_n (q := 5) C 0 dX4_init_4 rfl rfl rfl ?_
  refine jg_bipush (q := 7) (v := (6 : Int32)) C dX4_init_5 (by decide) rfl ?_
  refine jq_newI (q := 9) (f := 13) (i := i) (N := 6) C hK h0 (mi_13 i hi) rfl mX4_init_3 (by decide) (by decide) (by decide) (by decide) (by decide) dX4_init_7 rfl ?_
  refine jq_putF (q := 12) (ci := 4) (Cn := RX4) (T := TX4) (N := 5) (j := 0) C hK h0 hi (mi_12a i hi) rfl rfl (by decide) rfl rfl hini rfl tyX4 tyX4_ok nmX4 rfl (tyX4_ok 0 (by decide)) rfl rfl nX4_init_4 mX4_init_5 dX4_init_9 rfl rfl ?_
  refine jg_aload_n (q := 13) C 0 dX4_init_12 rfl rfl rfl ?_
  refine jg_bipush (q := 15) (v := (6 : Int32)) C dX4_init_13 (by decide) rfl ?_
  refine jq_newI (q := 17) (f := 14) (i := i) (N := 6) C hK h0 (mi_14 i hi) rfl mX4_init_3 (by decide) (by decide) (by decide) (by decide) (by decide) dX4_init_15 rfl ?_
  refine jq_putF (q := 20) (ci := 4) (Cn := RX4) (T := TX4) (N := 5) (j := 1) C hK h0 hi (mi_12b i hi) rfl rfl (by decide) rfl rfl hini rfl tyX4 tyX4_ok nmX4 rfl (tyX4_ok 1 (by decide)) rfl rfl nX4_init_4 mX4_init_6 dX4_init_17 rfl rfl ?_
  exact jq_vret C hK h0 hr hlk rfl dX4_init_20 h
theorem mX6_init_0 : Cond.methodLink RX6 3 Lib.objectInit ∈ wsX6_init := List.mem_of_getElem? (i := 1) (by decide +kernel)
theorem mX6_init_1 : Cond.instanceMethod Lib.objectInit ∈ wsX6_init := List.mem_of_getElem? (i := 2) (by decide +kernel)
theorem mX6_init_2 : Cond.code Lib.objectInit ⟨#[0xb1]⟩ 1 none ∈ wsX6_init := List.mem_of_getElem? (i := 3) (by decide +kernel)
theorem mX6_init_3 : Cond.arrayClass .int ∈ wsX6_init := List.mem_of_getElem? (i := 4) (by decide +kernel)
theorem nX6_init_6 : ∀ w ∈ wsX60, w ∈ wsX6_init := fun _ h => List.mem_cons_of_mem _ (List.mem_append_right _ h)
theorem mX6_init_5 : Cond.fieldLink RX6 9 RX6 (TX6 0).2.1 (TX6 0).2.2.1 ∈ wsX6_init := List.mem_of_getElem? (i := 5) (by decide +kernel)
theorem dsc_X6_init : yX6_init.cls ≠ "java/lang/invoke/MethodHandle" ∧ yX6_init.cls ≠ "java/lang/invoke/VarHandle" ∧ (parseMethodDescriptor yX6_init.desc).map (fun d => d.parameters.length) = some 0 := by decide +kernel
set_option maxHeartbeats 4000000 in
set_option maxRecDepth 100000 in
theorem kX6_init (l : Launch) : mn_C l yX6_init wsX6_init ({ frames := 1, cells := 1, slots := 110, locals := 12 }) 2 3 1 110 (fun z => [.ref (z + mm_ad 1 0)]) (fun μ ρ Po => Po (mm_Z μ 2 0) (mr_W (mr_Z ρ 2 0) 1 0 0 (mm_ad 2 0))) := by
  refine jq_entry (cc := cX6_init) (nL := 1) (own := RX6) (plainFor_of_name (by decide)) rfl rfl rfl (fun _ => Nat.le_of_ble_eq_true rfl) ?_
  intro p e s m args below meth c D cy z μ ρ Po C hK h0 hX hr hlk hini h
  change jG p l e ({ frames := 1, cells := 1, slots := 110, locals := 12 }) s m args below meth c (mm_B z) (MQ below (va_Qv (fun u : mm_T × mm_R => Po u.1 u.2) (fun u t => mn_P D cy z 3 u.1 u.2 t.heap) (mm_B z)) args s 1 110 (mm_B z)) 1 0 0 (mn_P D cy z 2 μ ρ) 0 [(0, .ref (z + mm_ad 1 0))] []
  refine jg_aload_n (q := 1) C 0 dX6_init_0 rfl rfl rfl ?_
  refine jg_obj (q := 4) C mX6_init_0 mX6_init_1 mX6_init_2 (by decide) (Nat.le_of_ble_eq_true rfl) dX6_init_1 rfl ?_
  refine jg_aload_n (q := 5) C 0 dX6_init_4 rfl rfl rfl ?_
  refine jg_bipush (q := 7) (v := (110 : Int32)) C dX6_init_5 (by decide) rfl ?_
  refine jq_newI (q := 9) (f := 2) (i := 0) (N := 110) C hK h0 (by decide +kernel) rfl mX6_init_3 (by decide) (by decide) (by decide) (by decide) (by decide) dX6_init_7 rfl ?_
  refine jq_putF (q := 12) (ci := 6) (Cn := RX6) (T := TX6) (N := 2) (j := 0) C hK h0 mf_1 (by decide) rfl rfl (by decide) rfl rfl hini rfl tyX6 tyX6_ok nmX6 rfl (tyX6_ok 0 (by decide)) rfl rfl nX6_init_6 mX6_init_5 dX6_init_9 rfl rfl ?_
  exact jq_vret C hK h0 hr hlk rfl dX6_init_12 h
theorem mX8_init_0 : Cond.methodLink RX8 3 Lib.objectInit ∈ wsX8_init := List.mem_of_getElem? (i := 1) (by decide +kernel)
theorem mX8_init_1 : Cond.instanceMethod Lib.objectInit ∈ wsX8_init := List.mem_of_getElem? (i := 2) (by decide +kernel)
theorem mX8_init_2 : Cond.code Lib.objectInit ⟨#[0xb1]⟩ 1 none ∈ wsX8_init := List.mem_of_getElem? (i := 3) (by decide +kernel)
theorem mX8_init_3 : Cond.classLink RX8 9 ("[" ++ (FieldType.array .int).toString) ∈ wsX8_init := List.mem_of_getElem? (i := 4) (by decide +kernel)
theorem mX8_init_4 : Cond.arrayClass .int ∈ wsX8_init := List.mem_of_getElem? (i := 5) (by decide +kernel)
theorem nX8_init_8 : ∀ w ∈ wsX80, w ∈ wsX8_init := fun _ h => List.mem_cons_of_mem _ (List.mem_append_right _ h)
theorem mX8_init_6 : Cond.fieldLink RX8 11 RX8 (TX8 0).2.1 (TX8 0).2.2.1 ∈ wsX8_init := List.mem_of_getElem? (i := 6) (by decide +kernel)
theorem dsc_X8_init : yX8_init.cls ≠ "java/lang/invoke/MethodHandle" ∧ yX8_init.cls ≠ "java/lang/invoke/VarHandle" ∧ (parseMethodDescriptor yX8_init.desc).map (fun d => d.parameters.length) = some 0 := by decide +kernel
set_option maxHeartbeats 4000000 in
set_option maxRecDepth 100000 in
theorem kX8_init (l : Launch) : mn_C l yX8_init wsX8_init ({ frames := 1, cells := 8, slots := 42, locals := 12 }) 4 12 8 42 (fun z => [.ref (z + mm_ad 3 0)]) (fun μ ρ Po => Po (mg_μ μ) (mr_W (mg_ρ ρ) 3 0 0 (mm_ad 4 0))) := by
  refine jq_entry (cc := cX8_init) (nL := 1) (own := RX8) (plainFor_of_name (by decide)) rfl rfl rfl (fun _ => Nat.le_of_ble_eq_true rfl) ?_
  intro p e s m args below meth c D cy z μ ρ Po C hK h0 hX hr hlk hini h
  change jG p l e ({ frames := 1, cells := 8, slots := 42, locals := 12 }) s m args below meth c (mm_B z) (MQ below (va_Qv (fun u : mm_T × mm_R => Po u.1 u.2) (fun u t => mn_P D cy z 12 u.1 u.2 t.heap) (mm_B z)) args s 8 42 (mm_B z)) 1 0 0 (mn_P D cy z 4 μ ρ) 0 [(0, .ref (z + mm_ad 3 0))] []
  refine jg_aload_n (q := 1) C 0 dX8_init_0 rfl rfl rfl ?_
  refine jg_obj (q := 4) C mX8_init_0 mX8_init_1 mX8_init_2 (by decide) (Nat.le_of_ble_eq_true rfl) dX8_init_1 rfl ?_
  refine jg_aload_n (q := 5) C 0 dX8_init_4 rfl rfl rfl ?_
  refine jg_bipush (q := 7) (v := (7 : Int32)) C dX8_init_5 (by decide) rfl ?_
  refine jg_iconst (q := 8) (v := (5 : Int32)) C dX8_init_7 (by decide) rfl ?_
  refine jq_rows (q := 12) C hK (Jvm.Stand.arrayOver_alikeB (Vm.Alike.refl s.vm) hX.2.2.1) mX8_init_3 mX8_init_4 (by decide) (by decide) dX8_init_8 rfl ?_
  refine jq_putF (q := 15) (ci := 8) (Cn := RX8) (T := TX8) (N := 6) (j := 0) C hK h0 mf_3 (by decide) rfl rfl (by decide) rfl rfl hini rfl tyX8 tyX8_ok nmX8 rfl (tyX8_ok 0 (by decide)) rfl rfl nX8_init_8 mX8_init_6 dX8_init_12 rfl rfl ?_
  exact jq_vret C hK h0 hr hlk rfl dX8_init_15 h
theorem mX3_init_0 : Cond.methodLink RX3 3 Lib.objectInit ∈ wsX3_init := List.mem_of_getElem? (i := 1) (by decide +kernel)
theorem mX3_init_1 : Cond.instanceMethod Lib.objectInit ∈ wsX3_init := List.mem_of_getElem? (i := 2) (by decide +kernel)
theorem mX3_init_2 : Cond.code Lib.objectInit ⟨#[0xb1]⟩ 1 none ∈ wsX3_init := List.mem_of_getElem? (i := 3) (by decide +kernel)
theorem mX3_init_3 : Cond.arrayClass .long ∈ wsX3_init := List.mem_of_getElem? (i := 4) (by decide +kernel)
theorem nX3_init_3 : ∀ w ∈ wsX30, w ∈ wsX3_init := fun _ h => List.mem_cons_of_mem _ (List.mem_append_right _ h)
theorem mX3_init_5 : Cond.fieldLink RX3 9 RX3 (TX3 8).2.1 (TX3 8).2.2.1 ∈ wsX3_init := List.mem_of_getElem? (i := 5) (by decide +kernel)
theorem dsc_X3_init : yX3_init.cls ≠ "java/lang/invoke/MethodHandle" ∧ yX3_init.cls ≠ "java/lang/invoke/VarHandle" ∧ (parseMethodDescriptor yX3_init.desc).map (fun d => d.parameters.length) = some 0 := by decide +kernel
set_option maxHeartbeats 4000000 in
set_option maxRecDepth 100000 in
theorem kX3_init (l : Launch) : mn_C l yX3_init wsX3_init ({ frames := 1, cells := 1, slots := 7, locals := 12 }) 178 179 1 7 (fun z => [.ref (z + mm_ad 15 0)]) (fun μ ρ Po => Po (mm_Z μ 16 0) (mr_W (mr_Z ρ 16 0) 15 0 8 (mm_ad 16 0))) := by
  refine jq_entry (cc := cX3_init) (nL := 1) (own := RX3) (plainFor_of_name (by decide)) rfl rfl rfl (fun _ => Nat.le_of_ble_eq_true rfl) ?_
  intro p e s m args below meth c D cy z μ ρ Po C hK h0 hX hr hlk hini h
  change jG p l e ({ frames := 1, cells := 1, slots := 7, locals := 12 }) s m args below meth c (mm_B z) (MQ below (va_Qv (fun u : mm_T × mm_R => Po u.1 u.2) (fun u t => mn_P D cy z 179 u.1 u.2 t.heap) (mm_B z)) args s 1 7 (mm_B z)) 1 0 0 (mn_P D cy z 178 μ ρ) 0 [(0, .ref (z + mm_ad 15 0))] []
  refine jg_aload_n (q := 1) C 0 dX3_init_0 rfl rfl rfl ?_
  refine jg_obj (q := 4) C mX3_init_0 mX3_init_1 mX3_init_2 (by decide) (Nat.le_of_ble_eq_true rfl) dX3_init_1 rfl ?_
  refine jg_aload_n (q := 5) C 0 dX3_init_4 rfl rfl rfl ?_
  refine jg_bipush (q := 7) (v := (7 : Int32)) C dX3_init_5 (by decide) rfl ?_
  refine jq_newJ (q := 9) (f := 16) (i := 0) (N := 7) C hK h0 (by decide +kernel) rfl mX3_init_3 (by decide) (by decide) (by decide) (by decide) (by decide) dX3_init_7 rfl ?_
  refine jq_putF (q := 12) (ci := 3) (Cn := RX3) (T := TX3) (N := 9) (j := 8) C hK h0 mf_15 (by decide) rfl rfl (by decide) rfl rfl hini rfl tyX3 tyX3_ok nmX3 rfl (tyX3_ok 8 (by decide)) rfl rfl nX3_init_3 mX3_init_5 dX3_init_9 rfl rfl ?_
  exact jq_vret C hK h0 hr hlk rfl dX3_init_12 h
theorem mX9_init_0 : Cond.methodLink RX9 3 Lib.objectInit ∈ wsX9_init := List.mem_of_getElem? (i := 1) (by decide +kernel)
theorem mX9_init_1 : Cond.instanceMethod Lib.objectInit ∈ wsX9_init := List.mem_of_getElem? (i := 2) (by decide +kernel)
theorem mX9_init_2 : Cond.code Lib.objectInit ⟨#[0xb1]⟩ 1 none ∈ wsX9_init := List.mem_of_getElem? (i := 3) (by decide +kernel)
theorem mX9_init_3 : Cond.arrayClass .int ∈ wsX9_init := List.mem_of_getElem? (i := 4) (by decide +kernel)
theorem nX9_init_9 : ∀ w ∈ wsX90, w ∈ wsX9_init := fun _ h => List.mem_cons_of_mem _ (List.mem_append_right _ h)
theorem mX9_init_5 : Cond.fieldLink RX9 9 RX9 (TX9 0).2.1 (TX9 0).2.2.1 ∈ wsX9_init := List.mem_of_getElem? (i := 5) (by decide +kernel)
theorem dsc_X9_init : yX9_init.cls ≠ "java/lang/invoke/MethodHandle" ∧ yX9_init.cls ≠ "java/lang/invoke/VarHandle" ∧ (parseMethodDescriptor yX9_init.desc).map (fun d => d.parameters.length) = some 0 := by decide +kernel
set_option maxHeartbeats 4000000 in
set_option maxRecDepth 100000 in
theorem kX9_init (l : Launch) : mn_C l yX9_init wsX9_init ({ frames := 1, cells := 1, slots := 16, locals := 12 }) 180 181 1 16 (fun z => [.ref (z + mm_ad 17 0)]) (fun μ ρ Po => Po (mm_Z μ 18 0) (mr_W (mr_Z ρ 18 0) 17 0 0 (mm_ad 18 0))) := by
  refine jq_entry (cc := cX9_init) (nL := 1) (own := RX9) (plainFor_of_name (by decide)) rfl rfl rfl (fun _ => Nat.le_of_ble_eq_true rfl) ?_
  intro p e s m args below meth c D cy z μ ρ Po C hK h0 hX hr hlk hini h
  change jG p l e ({ frames := 1, cells := 1, slots := 16, locals := 12 }) s m args below meth c (mm_B z) (MQ below (va_Qv (fun u : mm_T × mm_R => Po u.1 u.2) (fun u t => mn_P D cy z 181 u.1 u.2 t.heap) (mm_B z)) args s 1 16 (mm_B z)) 1 0 0 (mn_P D cy z 180 μ ρ) 0 [(0, .ref (z + mm_ad 17 0))] []
  refine jg_aload_n (q := 1) C 0 dX9_init_0 rfl rfl rfl ?_
  refine jg_obj (q := 4) C mX9_init_0 mX9_init_1 mX9_init_2 (by decide) (Nat.le_of_ble_eq_true rfl) dX9_init_1 rfl ?_
  refine jg_aload_n (q := 5) C 0 dX9_init_4 rfl rfl rfl ?_
  refine jg_bipush (q := 7) (v := (16 : Int32)) C dX9_init_5 (by decide) rfl ?_
  refine jq_newI (q := 9) (f := 18) (i := 0) (N := 16) C hK h0 (by decide +kernel) rfl mX9_init_3 (by decide) (by decide) (by decide) (by decide) (by decide) dX9_init_7 rfl ?_
  refine jq_putF (q := 12) (ci := 9) (Cn := RX9) (T := TX9) (N := 1) (j := 0) C hK h0 mf_17 (by decide) rfl rfl (by decide) rfl rfl hini rfl tyX9 tyX9_ok nmX9 rfl (tyX9_ok 0 (by decide)) rfl rfl nX9_init_9 mX9_init_5 dX9_init_9 rfl rfl ?_
  exact jq_vret C hK h0 hr hlk rfl dX9_init_12 h
theorem mX1_init_0 : Cond.methodLink RX1 3 Lib.objectInit ∈ wsX1_init := List.mem_of_getElem? (i := 1) (by decide +kernel)
theorem mX1_init_1 : Cond.instanceMethod Lib.objectInit ∈ wsX1_init := List.mem_of_getElem? (i := 2) (by decide +kernel)
theorem mX1_init_2 : Cond.code Lib.objectInit ⟨#[0xb1]⟩ 1 none ∈ wsX1_init := List.mem_of_getElem? (i := 3) (by decide +kernel)
theorem nX1_init_1 : ∀ w ∈ wsX10, w ∈ wsX1_init := fun _ h => List.mem_cons_of_mem _ (List.mem_append_right _ h)
theorem mX1_init_4 : Cond.fieldLink RX1 9 RX1 (TX1 0).2.1 (TX1 0).2.2.1 ∈ wsX1_init := List.mem_of_getElem? (i := 4) (by decide +kernel)
theorem mX1_init_5 : Cond.arrayClass .int ∈ wsX1_init := List.mem_of_getElem? (i := 5) (by decide +kernel)
theorem mX1_init_6 : Cond.fieldLink RX1 15 RX1 (TX1 1).2.1 (TX1 1).2.2.1 ∈ wsX1_init := List.mem_of_getElem? (i := 6) (by decide +kernel)
theorem mX1_init_7 : Cond.fieldLink RX1 19 RX1 (TX1 2).2.1 (TX1 2).2.2.1 ∈ wsX1_init := List.mem_of_getElem? (i := 7) (by decide +kernel)
theorem mX1_init_8 : Cond.fieldLink RX1 22 RX1 (TX1 3).2.1 (TX1 3).2.2.1 ∈ wsX1_init := List.mem_of_getElem? (i := 8) (by decide +kernel)
theorem mX1_init_9 : Cond.fieldLink RX1 25 RX1 (TX1 5).2.1 (TX1 5).2.2.1 ∈ wsX1_init := List.mem_of_getElem? (i := 9) (by decide +kernel)
theorem dsc_X1_init : yX1_init.cls ≠ "java/lang/invoke/MethodHandle" ∧ yX1_init.cls ≠ "java/lang/invoke/VarHandle" ∧ (parseMethodDescriptor yX1_init.desc).map (fun d => d.parameters.length) = some 1 := by decide +kernel
set_option maxHeartbeats 4000000 in
set_option maxRecDepth 100000 in
theorem kX1_init (l : Launch) : mn_C l yX1_init wsX1_init ({ frames := 1, cells := 4, slots := 1045, locals := 12 }) 184 188 4 1045 (fun z => [.ref (z + mm_ad 21 0), .ref (z + mm_ad 19 0)]) (fun μ ρ Po => Po (mm_Z (mm_Z (mm_Z (mm_Z μ 22 0) 23 0) 24 0) 25 0) (mr_W (mr_Z (mr_W (mr_Z (mr_W (mr_Z (mr_W (mr_Z (mr_W ρ 21 0 0 (mm_ad 19 0)) 22 0) 21 0 1 (mm_ad 22 0)) 23 0) 21 0 2 (mm_ad 23 0)) 24 0) 21 0 3 (mm_ad 24 0)) 25 0) 21 0 5 (mm_ad 25 0))) := by
  refine jq_entry (cc := cX1_init) (nL := 2) (own := RX1) (plainFor_of_name (by decide)) rfl rfl rfl (fun _ => Nat.le_of_ble_eq_true rfl) ?_
  intro p e s m args below meth c D cy z μ ρ Po C hK h0 hX hr hlk hini h
  change jG p l e ({ frames := 1, cells := 4, slots := 1045, locals := 12 }) s m args below meth c (mm_B z) (MQ below (va_Qv (fun u : mm_T × mm_R => Po u.1 u.2) (fun u t => mn_P D cy z 188 u.1 u.2 t.heap) (mm_B z)) args s 4 1045 (mm_B z)) 2 0 0 (mn_P D cy z 184 μ ρ) 0 [(0, .ref (z + mm_ad 21 0)), (1, .ref (z + mm_ad 19 0))] []
  refine jg_aload_n (q := 1) C 0 dX1_init_0 rfl rfl rfl ?_
  refine jg_obj (q := 4) C mX1_init_0 mX1_init_1 mX1_init_2 (by decide) (Nat.le_of_ble_eq_true rfl) dX1_init_1 rfl ?_
  refine jg_aload_n (q := 5) C 0 dX1_init_4 rfl rfl rfl ?_
  refine jg_aload_n (q := 6) C 1 dX1_init_5 rfl rfl rfl ?_
  refine jq_putF (q := 9) (ci := 1) (Cn := RX1) (T := TX1) (N := 6) (j := 0) C hK h0 mf_21 (by decide) rfl rfl (by decide) rfl rfl hini rfl tyX1 tyX1_ok nmX1 rfl (tyX1_ok 0 (by decide)) rfl rfl nX1_init_1 mX1_init_4 dX1_init_6 rfl rfl ?_
  refine jg_aload_n (q := 10) C 0 dX1_init_9 rfl rfl rfl ?_
  refine jg_bipush (q := 12) (v := (7 : Int32)) C dX1_init_10 (by decide) rfl ?_
  refine jq_newI (q := 14) (f := 22) (i := 0) (N := 7) C hK h0 (by decide +kernel) rfl mX1_init_5 (by decide) (by decide) (by decide) (by decide) (by decide) dX1_init_12 rfl ?_
  refine jq_putF (q := 17) (ci := 1) (Cn := RX1) (T := TX1) (N := 6) (j := 1) C hK h0 mf_21 (by decide) rfl rfl (by decide) rfl rfl hini rfl tyX1 tyX1_ok nmX1 rfl (tyX1_ok 1 (by decide)) rfl rfl nX1_init_1 mX1_init_6 dX1_init_14 rfl rfl ?_
  refine jg_aload_n (q := 18) C 0 dX1_init_17 rfl rfl rfl ?_
  refine jg_bipush (q := 20) (v := (7 : Int32)) C dX1_init_18 (by decide) rfl ?_
  refine jq_newI (q := 22) (f := 23) (i := 0) (N := 7) C hK h0 (by decide +kernel) rfl mX1_init_5 (by decide) (by decide) (by decide) (by decide) (by decide) dX1_init_20 rfl ?_
  refine jq_putF (q := 25) (ci := 1) (Cn := RX1) (T := TX1) (N := 6) (j := 2) C hK h0 mf_21 (by decide) rfl rfl (by decide) rfl rfl hini rfl tyX1 tyX1_ok nmX1 rfl (tyX1_ok 2 (by decide)) rfl rfl nX1_init_1 mX1_init_7 dX1_init_22 rfl rfl ?_
  refine jg_aload_n (q := 26) C 0 dX1_init_25 rfl rfl rfl ?_
  refine jg_bipush (q := 28) (v := (7 : Int32)) C dX1_init_26 (by decide) rfl ?_
  refine jq_newI (q := 30) (f := 24) (i := 0) (N := 7) C hK h0 (by decide +kernel) rfl mX1_init_5 (by decide) (by decide) (by decide) (by decide) (by decide) dX1_init_28 rfl ?_
  refine jq_putF (q := 33) (ci := 1) (Cn := RX1) (T := TX1) (N := 6) (j := 3) C hK h0 mf_21 (by decide) rfl rfl (by decide) rfl rfl hini rfl tyX1 tyX1_ok nmX1 rfl (tyX1_ok 3 (by decide)) rfl rfl nX1_init_1 mX1_init_8 dX1_init_30 rfl rfl ?_
  refine jg_aload_n (q := 34) C 0 dX1_init_33 rfl rfl rfl ?_
  refine jg_sipush (q := 37) (v := (1024 : Int32)) C dX1_init_34 (by decide) rfl ?_
  refine jq_newI (q := 39) (f := 25) (i := 0) (N := 1024) C hK h0 (by decide +kernel) rfl mX1_init_5 (by decide) (by decide) (by decide) (by decide) (by decide) dX1_init_37 rfl ?_
  refine jq_putF (q := 42) (ci := 1) (Cn := RX1) (T := TX1) (N := 6) (j := 5) C hK h0 mf_21 (by decide) rfl rfl (by decide) rfl rfl hini rfl tyX1 tyX1_ok nmX1 rfl (tyX1_ok 5 (by decide)) rfl rfl nX1_init_1 mX1_init_9 dX1_init_39 rfl rfl ?_
  exact jq_vret C hK h0 hr hlk rfl dX1_init_42 h
theorem mX11_init_0 : Cond.methodLink RX11 1 Lib.objectInit ∈ wsX11_init := List.mem_of_getElem? (i := 1) (by decide +kernel)
theorem mX11_init_1 : Cond.instanceMethod Lib.objectInit ∈ wsX11_init := List.mem_of_getElem? (i := 2) (by decide +kernel)
theorem mX11_init_2 : Cond.code Lib.objectInit ⟨#[0xb1]⟩ 1 none ∈ wsX11_init := List.mem_of_getElem? (i := 3) (by decide +kernel)
theorem mX11_init_3 : Cond.arrayClass .int ∈ wsX11_init := List.mem_of_getElem? (i := 4) (by decide +kernel)
theorem nX11_init_11 : ∀ w ∈ wsX110, w ∈ wsX11_init := fun _ h => List.mem_cons_of_mem _ (List.mem_append_right _ h)
theorem mX11_init_5 : Cond.fieldLink RX11 7 RX11 (TX11 1).2.1 (TX11 1).2.2.1 ∈ wsX11_init := List.mem_of_getElem? (i := 5) (by decide +kernel)
theorem mX11_init_6 : Cond.arrayClass .boolean ∈ wsX11_init := List.mem_of_getElem? (i := 6) (by decide +kernel)
theorem mX11_init_7 : Cond.fieldLink RX11 13 RX11 (TX11 3).2.1 (TX11 3).2.2.1 ∈ wsX11_init := List.mem_of_getElem? (i := 7) (by decide +kernel)
theorem mX11_init_8 : Cond.fieldLink RX11 17 RX11 (TX11 4).2.1 (TX11 4).2.2.1 ∈ wsX11_init := List.mem_of_getElem? (i := 8) (by decide +kernel)
theorem mX11_init_9 : Cond.fieldLink RX11 20 RX11 (TX11 5).2.1 (TX11 5).2.2.1 ∈ wsX11_init := List.mem_of_getElem? (i := 9) (by decide +kernel)
theorem mX11_init_10 : Cond.fieldLink RX11 23 RX11 (TX11 6).2.1 (TX11 6).2.2.1 ∈ wsX11_init := List.mem_of_getElem? (i := 10) (by decide +kernel)
theorem mX11_init_11 : Cond.fieldLink RX11 26 RX11 (TX11 7).2.1 (TX11 7).2.2.1 ∈ wsX11_init := List.mem_of_getElem? (i := 11) (by decide +kernel)
theorem mX11_init_12 : Cond.fieldLink RX11 29 RX11 (TX11 8).2.1 (TX11 8).2.2.1 ∈ wsX11_init := List.mem_of_getElem? (i := 12) (by decide +kernel)
theorem mX11_init_13 : Cond.fieldLink RX11 32 RX11 (TX11 9).2.1 (TX11 9).2.2.1 ∈ wsX11_init := List.mem_of_getElem? (i := 13) (by decide +kernel)
theorem mX11_init_14 : Cond.fieldLink RX11 35 RX11 (TX11 10).2.1 (TX11 10).2.2.1 ∈ wsX11_init := List.mem_of_getElem? (i := 14) (by decide +kernel)
theorem mX11_init_15 : Cond.fieldLink RX11 38 RX11 (TX11 11).2.1 (TX11 11).2.2.1 ∈ wsX11_init := List.mem_of_getElem? (i := 15) (by decide +kernel)
theorem mX11_init_16 : Cond.fieldLink RX11 41 RX11 (TX11 12).2.1 (TX11 12).2.2.1 ∈ wsX11_init := List.mem_of_getElem? (i := 16) (by decide +kernel)
theorem mX11_init_17 : Cond.fieldLink RX11 44 RX11 (TX11 13).2.1 (TX11 13).2.2.1 ∈ wsX11_init := List.mem_of_getElem? (i := 17) (by decide +kernel)
theorem mX11_init_18 : Cond.fieldLink RX11 47 RX11 (TX11 14).2.1 (TX11 14).2.2.1 ∈ wsX11_init := List.mem_of_getElem? (i := 18) (by decide +kernel)
theorem mX11_init_19 : Cond.fieldLink RX11 50 RX11 (TX11 15).2.1 (TX11 15).2.2.1 ∈ wsX11_init := List.mem_of_getElem? (i := 19) (by decide +kernel)
theorem mX11_init_20 : Cond.fieldLink RX11 53 RX11 (TX11 16).2.1 (TX11 16).2.2.1 ∈ wsX11_init := List.mem_of_getElem? (i := 20) (by decide +kernel)
theorem mX11_init_21 : Cond.fieldLink RX11 56 RX11 (TX11 25).2.1 (TX11 25).2.2.1 ∈ wsX11_init := List.mem_of_getElem? (i := 21) (by decide +kernel)
theorem mX11_init_22 : Cond.fieldLink RX11 59 RX11 (TX11 26).2.1 (TX11 26).2.2.1 ∈ wsX11_init := List.mem_of_getElem? (i := 22) (by decide +kernel)
theorem mX11_init_23 : Cond.fieldLink RX11 62 RX11 (TX11 36).2.1 (TX11 36).2.2.1 ∈ wsX11_init := List.mem_of_getElem? (i := 23) (by decide +kernel)
theorem mX11_init_24 : Cond.fieldLink RX11 65 RX11 (TX11 37).2.1 (TX11 37).2.2.1 ∈ wsX11_init := List.mem_of_getElem? (i := 24) (by decide +kernel)
theorem mX11_init_25 : Cond.fieldLink RX11 68 RX11 (TX11 38).2.1 (TX11 38).2.2.1 ∈ wsX11_init := List.mem_of_getElem? (i := 25) (by decide +kernel)
theorem mX11_init_26 : Cond.fieldLink RX11 71 RX11 (TX11 39).2.1 (TX11 39).2.2.1 ∈ wsX11_init := List.mem_of_getElem? (i := 26) (by decide +kernel)
theorem mX11_init_27 : Cond.fieldLink RX11 74 RX11 (TX11 40).2.1 (TX11 40).2.2.1 ∈ wsX11_init := List.mem_of_getElem? (i := 27) (by decide +kernel)
theorem dsc_X11_init : yX11_init.cls ≠ "java/lang/invoke/MethodHandle" ∧ yX11_init.cls ≠ "java/lang/invoke/VarHandle" ∧ (parseMethodDescriptor yX11_init.desc).map (fun d => d.parameters.length) = some 0 := by decide +kernel
set_option maxHeartbeats 4000000 in
set_option maxRecDepth 100000 in
theorem kX11_init (l : Launch) : mn_C l yX11_init wsX11_init ({ frames := 1, cells := 22, slots := 966, locals := 12 }) 189 211 22 966 (fun z => [.ref (z + mm_ad 26 0)]) (fun μ ρ Po => Po (mm_Z (mm_Z (mm_Z (mm_Z (mm_Z (mm_Z (mm_Z (mm_Z (mm_Z (mm_Z (mm_Z (mm_Z (mm_Z (mm_Z (mm_Z (mm_Z (mm_Z (mm_Z (mm_Z (mm_Z (mm_Z (mm_Z μ 27 0) 28 0) 29 0) 30 0) 31 0) 32 0) 33 0) 34 0) 35 0) 36 0) 37 0) 38 0) 39 0) 40 0) 41 0) 42 0) 43 0) 44 0) 45 0) 46 0) 47 0) 48 0) (mr_W (mr_Z (mr_W (mr_Z (mr_W (mr_Z (mr_W (mr_Z (mr_W (mr_Z (mr_W (mr_Z (mr_W (mr_Z (mr_W (mr_Z (mr_W (mr_Z (mr_W (mr_Z (mr_W (mr_Z (mr_W (mr_Z (mr_W (mr_Z (mr_W (mr_Z (mr_W (mr_Z (mr_W (mr_Z (mr_W (mr_Z (mr_W (mr_Z (mr_W (mr_Z (mr_W (mr_Z (mr_W (mr_Z (mr_W (mr_Z ρ 27 0) 26 0 1 (mm_ad 27 0)) 28 0) 26 0 3 (mm_ad 28 0)) 29 0) 26 0 4 (mm_ad 29 0)) 30 0) 26 0 5 (mm_ad 30 0)) 31 0) 26 0 6 (mm_ad 31 0)) 32 0) 26 0 7 (mm_ad 32 0)) 33 0) 26 0 8 (mm_ad 33 0)) 34 0) 26 0 9 (mm_ad 34 0)) 35 0) 26 0 10 (mm_ad 35 0)) 36 0) 26 0 11 (mm_ad 36 0)) 37 0) 26 0 12 (mm_ad 37 0)) 38 0) 26 0 13 (mm_ad 38 0)) 39 0) 26 0 14 (mm_ad 39 0)) 40 0) 26 0 15 (mm_ad 40 0)) 41 0) 26 0 16 (mm_ad 41 0)) 42 0) 26 0 25 (mm_ad 42 0)) 43 0) 26 0 26 (mm_ad 43 0)) 44 0) 26 0 36 (mm_ad 44 0)) 45 0) 26 0 37 (mm_ad 45 0)) 46 0) 26 0 38 (mm_ad 46 0)) 47 0) 26 0 39 (mm_ad 47 0)) 48 0) 26 0 40 (mm_ad 48 0))) := by
  refine jq_entry (cc := cX11_init) (nL := 1) (own := RX11) (plainFor_of_name (by decide)) rfl rfl rfl (fun _ => Nat.le_of_ble_eq_true rfl) ?_
  intro p e s m args below meth c D cy z μ ρ Po C hK h0 hX hr hlk hini h
  change jG p l e ({ frames := 1, cells := 22, slots := 966, locals := 12 }) s m args below meth c (mm_B z) (MQ below (va_Qv (fun u : mm_T × mm_R => Po u.1 u.2) (fun u t => mn_P D cy z 211 u.1 u.2 t.heap) (mm_B z)) args s 22 966 (mm_B z)) 1 0 0 (mn_P D cy z 189 μ ρ) 0 [(0, .ref (z + mm_ad 26 0))] []
  refine jg_aload_n (q := 1) C 0 dX11_init_0 rfl rfl rfl ?_
  refine jg_obj (q := 4) C mX11_init_0 mX11_init_1 mX11_init_2 (by decide) (Nat.le_of_ble_eq_true rfl) dX11_init_1 rfl ?_
  refine jg_aload_n (q := 5) C 0 dX11_init_4 rfl rfl rfl ?_
  refine jg_bipush (q := 7) (v := (110 : Int32)) C dX11_init_5 (by decide) rfl ?_
  refine jq_newI (q := 9) (f := 27) (i := 0) (N := 110) C hK h0 (by decide +kernel) rfl mX11_init_3 (by decide) (by decide) (by decide) (by decide) (by decide) dX11_init_7 rfl ?_
  refine jq_putF (q := 12) (ci := 11) (Cn := RX11) (T := TX11) (N := 42) (j := 1) C hK h0 mf_26 (by decide) rfl rfl (by decide) rfl rfl hini rfl tyX11 tyX11_ok nmX11 rfl (tyX11_ok 1 (by decide)) rfl rfl nX11_init_11 mX11_init_5 dX11_init_9 rfl rfl ?_
  refine jg_aload_n (q := 13) C 0 dX11_init_12 rfl rfl rfl ?_
  refine jg_bipush (q := 15) (v := (7 : Int32)) C dX11_init_13 (by decide) rfl ?_
  refine jq_newZ (q := 17) (f := 28) (i := 0) (N := 7) C hK h0 (by decide +kernel) rfl mX11_init_6 (by decide) (by decide) (by decide) (by decide) (by decide) dX11_init_15 rfl ?_
  refine jq_putF (q := 20) (ci := 11) (Cn := RX11) (T := TX11) (N := 42) (j := 3) C hK h0 mf_26 (by decide) rfl rfl (by decide) rfl rfl hini rfl tyX11 tyX11_ok nmX11 rfl (tyX11_ok 3 (by decide)) rfl rfl nX11_init_11 mX11_init_7 dX11_init_17 rfl rfl ?_
  refine jg_aload_n (q := 21) C 0 dX11_init_20 rfl rfl rfl ?_
  refine jg_bipush (q := 23) (v := (7 : Int32)) C dX11_init_21 (by decide) rfl ?_
  refine jq_newI (q := 25) (f := 29) (i := 0) (N := 7) C hK h0 (by decide +kernel) rfl mX11_init_3 (by decide) (by decide) (by decide) (by decide) (by decide) dX11_init_23 rfl ?_
  refine jq_putF (q := 28) (ci := 11) (Cn := RX11) (T := TX11) (N := 42) (j := 4) C hK h0 mf_26 (by decide) rfl rfl (by decide) rfl rfl hini rfl tyX11 tyX11_ok nmX11 rfl (tyX11_ok 4 (by decide)) rfl rfl nX11_init_11 mX11_init_8 dX11_init_25 rfl rfl ?_
  refine jg_aload_n (q := 29) C 0 dX11_init_28 rfl rfl rfl ?_
  refine jg_bipush (q := 31) (v := (7 : Int32)) C dX11_init_29 (by decide) rfl ?_
  refine jq_newI (q := 33) (f := 30) (i := 0) (N := 7) C hK h0 (by decide +kernel) rfl mX11_init_3 (by decide) (by decide) (by decide) (by decide) (by decide) dX11_init_31 rfl ?_
  refine jq_putF (q := 36) (ci := 11) (Cn := RX11) (T := TX11) (N := 42) (j := 5) C hK h0 mf_26 (by decide) rfl rfl (by decide) rfl rfl hini rfl tyX11 tyX11_ok nmX11 rfl (tyX11_ok 5 (by decide)) rfl rfl nX11_init_11 mX11_init_9 dX11_init_33 rfl rfl ?_
  refine jg_aload_n (q := 37) C 0 dX11_init_36 rfl rfl rfl ?_
  refine jg_bipush (q := 39) (v := (7 : Int32)) C dX11_init_37 (by decide) rfl ?_
  refine jq_newI (q := 41) (f := 31) (i := 0) (N := 7) C hK h0 (by decide +kernel) rfl mX11_init_3 (by decide) (by decide) (by decide) (by decide) (by decide) dX11_init_39 rfl ?_
  refine jq_putF (q := 44) (ci := 11) (Cn := RX11) (T := TX11) (N := 42) (j := 6) C hK h0 mf_26 (by decide) rfl rfl (by decide) rfl rfl hini rfl tyX11 tyX11_ok nmX11 rfl (tyX11_ok 6 (by decide)) rfl rfl nX11_init_11 mX11_init_10 dX11_init_41 rfl rfl ?_
  refine jg_aload_n (q := 45) C 0 dX11_init_44 rfl rfl rfl ?_
  refine jg_bipush (q := 47) (v := (7 : Int32)) C dX11_init_45 (by decide) rfl ?_
  refine jq_newI (q := 49) (f := 32) (i := 0) (N := 7) C hK h0 (by decide +kernel) rfl mX11_init_3 (by decide) (by decide) (by decide) (by decide) (by decide) dX11_init_47 rfl ?_
  refine jq_putF (q := 52) (ci := 11) (Cn := RX11) (T := TX11) (N := 42) (j := 7) C hK h0 mf_26 (by decide) rfl rfl (by decide) rfl rfl hini rfl tyX11 tyX11_ok nmX11 rfl (tyX11_ok 7 (by decide)) rfl rfl nX11_init_11 mX11_init_11 dX11_init_49 rfl rfl ?_
  refine jg_aload_n (q := 53) C 0 dX11_init_52 rfl rfl rfl ?_
  refine jg_bipush (q := 55) (v := (7 : Int32)) C dX11_init_53 (by decide) rfl ?_
  refine jq_newI (q := 57) (f := 33) (i := 0) (N := 7) C hK h0 (by decide +kernel) rfl mX11_init_3 (by decide) (by decide) (by decide) (by decide) (by decide) dX11_init_55 rfl ?_
  refine jq_putF (q := 60) (ci := 11) (Cn := RX11) (T := TX11) (N := 42) (j := 8) C hK h0 mf_26 (by decide) rfl rfl (by decide) rfl rfl hini rfl tyX11 tyX11_ok nmX11 rfl (tyX11_ok 8 (by decide)) rfl rfl nX11_init_11 mX11_init_12 dX11_init_57 rfl rfl ?_
  refine jg_aload_n (q := 61) C 0 dX11_init_60 rfl rfl rfl ?_
  refine jg_bipush (q := 63) (v := (7 : Int32)) C dX11_init_61 (by decide) rfl ?_
  refine jq_newI (q := 65) (f := 34) (i := 0) (N := 7) C hK h0 (by decide +kernel) rfl mX11_init_3 (by decide) (by decide) (by decide) (by decide) (by decide) dX11_init_63 rfl ?_
  refine jq_putF (q := 68) (ci := 11) (Cn := RX11) (T := TX11) (N := 42) (j := 9) C hK h0 mf_26 (by decide) rfl rfl (by decide) rfl rfl hini rfl tyX11 tyX11_ok nmX11 rfl (tyX11_ok 9 (by decide)) rfl rfl nX11_init_11 mX11_init_13 dX11_init_65 rfl rfl ?_
  refine jg_aload_n (q := 69) C 0 dX11_init_68 rfl rfl rfl ?_
  refine jg_bipush (q := 71) (v := (7 : Int32)) C dX11_init_69 (by decide) rfl ?_
  refine jq_newI (q := 73) (f := 35) (i := 0) (N := 7) C hK h0 (by decide +kernel) rfl mX11_init_3 (by decide) (by decide) (by decide) (by decide) (by decide) dX11_init_71 rfl ?_
  refine jq_putF (q := 76) (ci := 11) (Cn := RX11) (T := TX11) (N := 42) (j := 10) C hK h0 mf_26 (by decide) rfl rfl (by decide) rfl rfl hini rfl tyX11 tyX11_ok nmX11 rfl (tyX11_ok 10 (by decide)) rfl rfl nX11_init_11 mX11_init_14 dX11_init_73 rfl rfl ?_
  refine jg_aload_n (q := 77) C 0 dX11_init_76 rfl rfl rfl ?_
  refine jg_bipush (q := 79) (v := (49 : Int32)) C dX11_init_77 (by decide) rfl ?_
  refine jq_newI (q := 81) (f := 36) (i := 0) (N := 49) C hK h0 (by decide +kernel) rfl mX11_init_3 (by decide) (by decide) (by decide) (by decide) (by decide) dX11_init_79 rfl ?_
  refine jq_putF (q := 84) (ci := 11) (Cn := RX11) (T := TX11) (N := 42) (j := 11) C hK h0 mf_26 (by decide) rfl rfl (by decide) rfl rfl hini rfl tyX11 tyX11_ok nmX11 rfl (tyX11_ok 11 (by decide)) rfl rfl nX11_init_11 mX11_init_15 dX11_init_81 rfl rfl ?_
  refine jg_aload_n (q := 85) C 0 dX11_init_84 rfl rfl rfl ?_
  refine jg_sipush (q := 88) (v := (294 : Int32)) C dX11_init_85 (by decide) rfl ?_
  refine jq_newI (q := 90) (f := 37) (i := 0) (N := 294) C hK h0 (by decide +kernel) rfl mX11_init_3 (by decide) (by decide) (by decide) (by decide) (by decide) dX11_init_88 rfl ?_
  refine jq_putF (q := 93) (ci := 11) (Cn := RX11) (T := TX11) (N := 42) (j := 12) C hK h0 mf_26 (by decide) rfl rfl (by decide) rfl rfl hini rfl tyX11 tyX11_ok nmX11 rfl (tyX11_ok 12 (by decide)) rfl rfl nX11_init_11 mX11_init_16 dX11_init_90 rfl rfl ?_
  refine jg_aload_n (q := 94) C 0 dX11_init_93 rfl rfl rfl ?_
  refine jg_sipush (q := 97) (v := (294 : Int32)) C dX11_init_94 (by decide) rfl ?_
  refine jq_newI (q := 99) (f := 38) (i := 0) (N := 294) C hK h0 (by decide +kernel) rfl mX11_init_3 (by decide) (by decide) (by decide) (by decide) (by decide) dX11_init_97 rfl ?_
  refine jq_putF (q := 102) (ci := 11) (Cn := RX11) (T := TX11) (N := 42) (j := 13) C hK h0 mf_26 (by decide) rfl rfl (by decide) rfl rfl hini rfl tyX11 tyX11_ok nmX11 rfl (tyX11_ok 13 (by decide)) rfl rfl nX11_init_11 mX11_init_17 dX11_init_99 rfl rfl ?_
  refine jg_aload_n (q := 103) C 0 dX11_init_102 rfl rfl rfl ?_
  refine jg_bipush (q := 105) (v := (49 : Int32)) C dX11_init_103 (by decide) rfl ?_
  refine jq_newZ (q := 107) (f := 39) (i := 0) (N := 49) C hK h0 (by decide +kernel) rfl mX11_init_6 (by decide) (by decide) (by decide) (by decide) (by decide) dX11_init_105 rfl ?_
  refine jq_putF (q := 110) (ci := 11) (Cn := RX11) (T := TX11) (N := 42) (j := 14) C hK h0 mf_26 (by decide) rfl rfl (by decide) rfl rfl hini rfl tyX11 tyX11_ok nmX11 rfl (tyX11_ok 14 (by decide)) rfl rfl nX11_init_11 mX11_init_18 dX11_init_107 rfl rfl ?_
  refine jg_aload_n (q := 111) C 0 dX11_init_110 rfl rfl rfl ?_
  refine jg_bipush (q := 113) (v := (49 : Int32)) C dX11_init_111 (by decide) rfl ?_
  refine jq_newI (q := 115) (f := 40) (i := 0) (N := 49) C hK h0 (by decide +kernel) rfl mX11_init_3 (by decide) (by decide) (by decide) (by decide) (by decide) dX11_init_113 rfl ?_
  refine jq_putF (q := 118) (ci := 11) (Cn := RX11) (T := TX11) (N := 42) (j := 15) C hK h0 mf_26 (by decide) rfl rfl (by decide) rfl rfl hini rfl tyX11 tyX11_ok nmX11 rfl (tyX11_ok 15 (by decide)) rfl rfl nX11_init_11 mX11_init_19 dX11_init_115 rfl rfl ?_
  refine jg_aload_n (q := 119) C 0 dX11_init_118 rfl rfl rfl ?_
  refine jg_bipush (q := 121) (v := (16 : Int32)) C dX11_init_119 (by decide) rfl ?_
  refine jq_newI (q := 123) (f := 41) (i := 0) (N := 16) C hK h0 (by decide +kernel) rfl mX11_init_3 (by decide) (by decide) (by decide) (by decide) (by decide) dX11_init_121 rfl ?_
  refine jq_putF (q := 126) (ci := 11) (Cn := RX11) (T := TX11) (N := 42) (j := 16) C hK h0 mf_26 (by decide) rfl rfl (by decide) rfl rfl hini rfl tyX11 tyX11_ok nmX11 rfl (tyX11_ok 16 (by decide)) rfl rfl nX11_init_11 mX11_init_20 dX11_init_123 rfl rfl ?_
  refine jg_aload_n (q := 127) C 0 dX11_init_126 rfl rfl rfl ?_
  refine jg_bipush (q := 129) (v := (7 : Int32)) C dX11_init_127 (by decide) rfl ?_
  refine jq_newI (q := 131) (f := 42) (i := 0) (N := 7) C hK h0 (by decide +kernel) rfl mX11_init_3 (by decide) (by decide) (by decide) (by decide) (by decide) dX11_init_129 rfl ?_
  refine jq_putF (q := 134) (ci := 11) (Cn := RX11) (T := TX11) (N := 42) (j := 25) C hK h0 mf_26 (by decide) rfl rfl (by decide) rfl rfl hini rfl tyX11 tyX11_ok nmX11 rfl (tyX11_ok 25 (by decide)) rfl rfl nX11_init_11 mX11_init_21 dX11_init_131 rfl rfl ?_
  refine jg_aload_n (q := 135) C 0 dX11_init_134 rfl rfl rfl ?_
  refine jg_bipush (q := 137) (v := (7 : Int32)) C dX11_init_135 (by decide) rfl ?_
  refine jq_newI (q := 139) (f := 43) (i := 0) (N := 7) C hK h0 (by decide +kernel) rfl mX11_init_3 (by decide) (by decide) (by decide) (by decide) (by decide) dX11_init_137 rfl ?_
  refine jq_putF (q := 142) (ci := 11) (Cn := RX11) (T := TX11) (N := 42) (j := 26) C hK h0 mf_26 (by decide) rfl rfl (by decide) rfl rfl hini rfl tyX11 tyX11_ok nmX11 rfl (tyX11_ok 26 (by decide)) rfl rfl nX11_init_11 mX11_init_22 dX11_init_139 rfl rfl ?_
  refine jg_aload_n (q := 143) C 0 dX11_init_142 rfl rfl rfl ?_
  refine jg_bipush (q := 145) (v := (7 : Int32)) C dX11_init_143 (by decide) rfl ?_
  refine jq_newZ (q := 147) (f := 44) (i := 0) (N := 7) C hK h0 (by decide +kernel) rfl mX11_init_6 (by decide) (by decide) (by decide) (by decide) (by decide) dX11_init_145 rfl ?_
  refine jq_putF (q := 150) (ci := 11) (Cn := RX11) (T := TX11) (N := 42) (j := 36) C hK h0 mf_26 (by decide) rfl rfl (by decide) rfl rfl hini rfl tyX11 tyX11_ok nmX11 rfl (tyX11_ok 36 (by decide)) rfl rfl nX11_init_11 mX11_init_23 dX11_init_147 rfl rfl ?_
  refine jg_aload_n (q := 151) C 0 dX11_init_150 rfl rfl rfl ?_
  refine jg_bipush (q := 153) (v := (7 : Int32)) C dX11_init_151 (by decide) rfl ?_
  refine jq_newI (q := 155) (f := 45) (i := 0) (N := 7) C hK h0 (by decide +kernel) rfl mX11_init_3 (by decide) (by decide) (by decide) (by decide) (by decide) dX11_init_153 rfl ?_
  refine jq_putF (q := 158) (ci := 11) (Cn := RX11) (T := TX11) (N := 42) (j := 37) C hK h0 mf_26 (by decide) rfl rfl (by decide) rfl rfl hini rfl tyX11 tyX11_ok nmX11 rfl (tyX11_ok 37 (by decide)) rfl rfl nX11_init_11 mX11_init_24 dX11_init_155 rfl rfl ?_
  refine jg_aload_n (q := 159) C 0 dX11_init_158 rfl rfl rfl ?_
  refine jg_bipush (q := 161) (v := (7 : Int32)) C dX11_init_159 (by decide) rfl ?_
  refine jq_newI (q := 163) (f := 46) (i := 0) (N := 7) C hK h0 (by decide +kernel) rfl mX11_init_3 (by decide) (by decide) (by decide) (by decide) (by decide) dX11_init_161 rfl ?_
  refine jq_putF (q := 166) (ci := 11) (Cn := RX11) (T := TX11) (N := 42) (j := 38) C hK h0 mf_26 (by decide) rfl rfl (by decide) rfl rfl hini rfl tyX11 tyX11_ok nmX11 rfl (tyX11_ok 38 (by decide)) rfl rfl nX11_init_11 mX11_init_25 dX11_init_163 rfl rfl ?_
  refine jg_aload_n (q := 167) C 0 dX11_init_166 rfl rfl rfl ?_
  refine jg_bipush (q := 169) (v := (7 : Int32)) C dX11_init_167 (by decide) rfl ?_
  refine jq_newI (q := 171) (f := 47) (i := 0) (N := 7) C hK h0 (by decide +kernel) rfl mX11_init_3 (by decide) (by decide) (by decide) (by decide) (by decide) dX11_init_169 rfl ?_
  refine jq_putF (q := 174) (ci := 11) (Cn := RX11) (T := TX11) (N := 42) (j := 39) C hK h0 mf_26 (by decide) rfl rfl (by decide) rfl rfl hini rfl tyX11 tyX11_ok nmX11 rfl (tyX11_ok 39 (by decide)) rfl rfl nX11_init_11 mX11_init_26 dX11_init_171 rfl rfl ?_
  refine jg_aload_n (q := 175) C 0 dX11_init_174 rfl rfl rfl ?_
  refine jg_bipush (q := 177) (v := (7 : Int32)) C dX11_init_175 (by decide) rfl ?_
  refine jq_newI (q := 179) (f := 48) (i := 0) (N := 7) C hK h0 (by decide +kernel) rfl mX11_init_3 (by decide) (by decide) (by decide) (by decide) (by decide) dX11_init_177 rfl ?_
  refine jq_putF (q := 182) (ci := 11) (Cn := RX11) (T := TX11) (N := 42) (j := 40) C hK h0 mf_26 (by decide) rfl rfl (by decide) rfl rfl hini rfl tyX11 tyX11_ok nmX11 rfl (tyX11_ok 40 (by decide)) rfl rfl nX11_init_11 mX11_init_27 dX11_init_179 rfl rfl ?_
  exact jq_vret C hK h0 hr hlk rfl dX11_init_182 h
