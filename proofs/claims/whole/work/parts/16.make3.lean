def zm_ (μ : mm_T) : Prop := (∀ a b c, μ.1 a b c = 0) ∧ ∀ a b c, μ.2 a b c = 0
theorem zm_Z {μ : mm_T} (h : zm_ μ) (f i : Nat) : zm_ (mm_Z μ f i) := by
  refine ⟨fun a b c => ?_, fun a b c => ?_⟩
  · show (if a = f ∧ b = i then (fun _ => (0 : Int32)) else μ.1 a b) c = 0
    by_cases e : a = f ∧ b = i
    · rw [if_pos e]
    · rw [if_neg e]; exact h.1 a b c
  · show (if a = f ∧ b = i then (fun _ => (0 : Int64)) else μ.2 a b) c = 0
    by_cases e : a = f ∧ b = i
    · rw [if_pos e]
    · rw [if_neg e]; exact h.2 a b c
/-- all is 0 but the row of roots -/
def zq_ (μ : mm_T) : Prop := (∀ a b c, a ≠ 20 → μ.1 a b c = 0) ∧ (∀ a b c, μ.2 a b c = 0) ∧ ∀ j, j < 1923 → ∃ r, is_R (100 * j) r ∧ μ.1 20 0 j = nI r
theorem zq_of {μ0 μ : mm_T} (h0 : zm_ μ0) (h : fq_ μ0 μ 1923) : zq_ μ := ⟨fun a b c ha => by rw [h.1 a b ha]; exact h0.1 a b c, fun a b c => by rw [h.2.1]; exact h0.2 a b c, h.2.2⟩
theorem zq_Z {μ : mm_T} (h : zq_ μ) (f i : Nat) (hf : f ≠ 20) : zq_ (mm_Z μ f i) := by
  refine ⟨fun a b c ha => ?_, fun a b c => ?_, fun j hj => ?_⟩
  · show (if a = f ∧ b = i then (fun _ => (0 : Int32)) else μ.1 a b) c = 0
    by_cases e : a = f ∧ b = i
    · rw [if_pos e]
    · rw [if_neg e]; exact h.1 a b c ha
  · show (if a = f ∧ b = i then (fun _ => (0 : Int64)) else μ.2 a b) c = 0
    by_cases e : a = f ∧ b = i
    · rw [if_pos e]
    · rw [if_neg e]; exact h.2.1 a b c
  · obtain ⟨r, h1, h2⟩ := h.2.2 j hj
    refine ⟨r, h1, ?_⟩
    show (if 20 = f ∧ 0 = i then (fun _ => (0 : Int32)) else μ.1 20 0) j = nI r
    rw [if_neg (fun q => hf q.1.symm)]
    exact h2
theorem mr_Wr (ρ : mm_R) (f i j k a b c : Nat) : mr_W ρ f i j k a b c = if a = f ∧ b = i ∧ c = j then some k else ρ a b c := by
  unfold mr_W
  by_cases e : a = f ∧ b = i
  · obtain ⟨rfl, rfl⟩ := e
    by_cases e2 : c = j
    · simp [e2]
    · simp [e2]
  · rw [if_neg e, if_neg (fun q => e ⟨q.1, q.2.1⟩)]
theorem mr_Zr (ρ : mm_R) (f i a b c : Nat) : mr_Z ρ f i a b c = if a = f ∧ b = i then none else ρ a b c := by
  unfold mr_Z
  by_cases e : a = f ∧ b = i
  · rw [if_pos e, if_pos e]
  · rw [if_neg e, if_neg e]
/-- the field's references while its nodes are made, i of them -/
def i1_ (i : Nat) (μ : mm_T) (ρ ρ0 : mm_R) : Prop := zm_ μ ∧ (∀ a b c, a < 6 → ρ a b c = ρ0 a b c) ∧ ρ 6 0 0 = some (mm_ad 7 0) ∧ ρ 6 0 8 = some (mm_ad 8 0) ∧ (∀ k, k < i → ρ 7 0 k = some (mm_ad 9 k)) ∧ ∀ k, k < i → ρ 8 0 k = some (mm_ad 10 k)
/-- .. and while its links are made -/
def i2_ (i : Nat) (μ : mm_T) (ρ ρ0 : mm_R) : Prop := i1_ 7 μ ρ ρ0 ∧ ρ 6 0 7 = some (mm_ad 11 0) ∧ (∀ k, k < i → ρ 11 0 k = some (mm_ad 12 k)) ∧ ∀ k, k < i → ρ 12 k 0 = some (mm_ad 13 k) ∧ ρ 12 k 1 = some (mm_ad 14 k)
/-- all that the field holds -/
def i3_ (μ : mm_T) (ρ ρ0 : mm_R) : Prop := zq_ μ ∧ (∀ a b c, a < 6 → ρ a b c = ρ0 a b c) ∧ (ρ 6 0 0 = some (mm_ad 7 0) ∧ ρ 6 0 8 = some (mm_ad 8 0) ∧ ρ 6 0 7 = some (mm_ad 11 0) ∧ ρ 6 0 5 = some (mm_ad 15 0) ∧ ρ 6 0 6 = some (mm_ad 17 0) ∧ ρ 6 0 9 = some (mm_ad 19 0) ∧ ρ 6 0 10 = some (mm_ad 21 0)) ∧ (∀ k, k < 7 → ρ 7 0 k = some (mm_ad 9 k)) ∧ (∀ k, k < 7 → ρ 8 0 k = some (mm_ad 10 k)) ∧ (∀ k, k < 49 → ρ 11 0 k = some (mm_ad 12 k)) ∧ (∀ k, k < 49 → ρ 12 k 0 = some (mm_ad 13 k) ∧ ρ 12 k 1 = some (mm_ad 14 k)) ∧ ρ 15 0 8 = some (mm_ad 16 0) ∧ ρ 17 0 0 = some (mm_ad 18 0) ∧ ρ 19 0 0 = some (mm_ad 20 0) ∧ ρ 21 0 0 = some (mm_ad 19 0) ∧ ρ 21 0 1 = some (mm_ad 22 0) ∧ ρ 21 0 2 = some (mm_ad 23 0) ∧ ρ 21 0 3 = some (mm_ad 24 0) ∧ ρ 21 0 5 = some (mm_ad 25 0)
theorem i1_s {i : Nat} {μ : mm_T} {ρ ρ0 : mm_R} (h : i1_ i μ ρ ρ0) : i1_ (i + 1) (mm_Z (mm_Z μ 9 i) 10 i) (mr_W (mr_Z (mr_W (mr_Z ρ 9 i) 7 0 i (mm_ad 9 i)) 10 i) 8 0 i (mm_ad 10 i)) ρ0 := by
  obtain ⟨h1, h2, h3, h4, h5, h6⟩ := h
  refine ⟨zm_Z (zm_Z h1 9 i) 10 i, fun a b c ha => ?_, ?_, ?_, fun k hk => ?_, fun k hk => ?_⟩
  · simp only [mr_Wr, mr_Zr]
    rw [if_neg (by omega), if_neg (by omega), if_neg (by omega), if_neg (by omega)]
    exact h2 a b c ha
  · simp [mr_Wr, mr_Zr, h3]
  · simp [mr_Wr, mr_Zr, h4]
  · by_cases e : k = i
    · subst e
      simp [mr_Wr, mr_Zr]
    · simp [mr_Wr, mr_Zr, e, h5 k (by omega)]
  · by_cases e : k = i
    · subst e
      simp [mr_Wr, mr_Zr]
    · simp [mr_Wr, mr_Zr, e, h6 k (by omega)]
theorem i2_s {i : Nat} {μ : mm_T} {ρ ρ0 : mm_R} (h : i2_ i μ ρ ρ0) : i2_ (i + 1) (mm_Z (mm_Z (mm_Z μ 12 i) 13 i) 14 i) (mr_W (mr_W (mr_Z (mr_W (mr_Z (mr_Z ρ 12 i) 13 i) 12 i 0 (mm_ad 13 i)) 14 i) 12 i 1 (mm_ad 14 i)) 11 0 i (mm_ad 12 i)) ρ0 := by
  obtain ⟨⟨h1, h2, h3, h4, h5, h6⟩, h7, h8, h9⟩ := h
  refine ⟨⟨zm_Z (zm_Z (zm_Z h1 12 i) 13 i) 14 i, fun a b c ha => ?_, ?_, ?_, fun k hk => ?_, fun k hk => ?_⟩, ?_, fun k hk => ?_, fun k hk => ?_⟩
  · simp only [mr_Wr, mr_Zr]
    rw [if_neg (by omega), if_neg (by omega), if_neg (by omega), if_neg (by omega), if_neg (by omega), if_neg (by omega)]
    exact h2 a b c ha
  · simp [mr_Wr, mr_Zr, h3]
  · simp [mr_Wr, mr_Zr, h4]
  · simp [mr_Wr, mr_Zr, h5 k hk]
  · simp [mr_Wr, mr_Zr, h6 k hk]
  · simp [mr_Wr, mr_Zr, h7]
  · by_cases e : k = i
    · subst e
      simp [mr_Wr, mr_Zr]
    · simp [mr_Wr, mr_Zr, e, h8 k (by omega)]
  · by_cases e : k = i
    · subst e
      simp [mr_Wr, mr_Zr]
    · have h10 := h9 k (by omega)
      simp [mr_Wr, mr_Zr, e, h10.1, h10.2]
theorem mi_9 : ∀ i, i < 7 → mm_ft[15 + 2 * i]? = some (9, i) := by decide +kernel
theorem mi_10 : ∀ i, i < 7 → mm_ft[15 + 2 * i + 1]? = some (10, i) := by decide +kernel
theorem mi_12 : ∀ i, i < 49 → mm_ft[30 + 3 * i]? = some (12, i) := by decide +kernel
theorem mi_a9 : ∀ i, i < 7 → mm_ad 9 i < 15 + 2 * i + 1 := by decide +kernel
theorem mi_a10 : ∀ i, i < 7 → mm_ad 10 i < 15 + 2 * i + 1 + 1 := by decide +kernel
theorem mi_a12 : ∀ i, i < 49 → mm_ad 12 i < 31 + 3 * i + 2 := by decide +kernel
theorem mX0_init_0 : Cond.methodLink RX0 3 Lib.objectInit ∈ wsX0_init := List.mem_of_getElem? (i := 1) (by decide +kernel)
theorem mX0_init_1 : Cond.instanceMethod Lib.objectInit ∈ wsX0_init := List.mem_of_getElem? (i := 2) (by decide +kernel)
theorem mX0_init_2 : Cond.code Lib.objectInit ⟨#[0xb1]⟩ 1 none ∈ wsX0_init := List.mem_of_getElem? (i := 3) (by decide +kernel)
theorem mX0_init_3 : Cond.classLink RX0 9 RX5 ∈ wsX0_init := List.mem_of_getElem? (i := 4) (by decide +kernel)
theorem nX0_init_0 : ∀ w ∈ wsX00, w ∈ wsX0_init := fun _ h => List.mem_cons_of_mem _ (List.mem_append_left _ (List.mem_append_left _ (List.mem_append_left _ (List.mem_append_left _ (List.mem_append_left _ (List.mem_append_left _ (List.mem_append_left _ (List.mem_append_right _ h))))))))
theorem mX0_init_5 : Cond.fieldLink RX0 11 RX0 (TX0 0).2.1 (TX0 0).2.2.1 ∈ wsX0_init := List.mem_of_getElem? (i := 5) (by decide +kernel)
theorem mX0_init_6 : Cond.classLink RX0 17 RX7 ∈ wsX0_init := List.mem_of_getElem? (i := 6) (by decide +kernel)
theorem mX0_init_7 : Cond.fieldLink RX0 19 RX0 (TX0 8).2.1 (TX0 8).2.2.1 ∈ wsX0_init := List.mem_of_getElem? (i := 7) (by decide +kernel)
theorem mX0_init_8 : Cond.instantiable RX5 8 ∈ wsX0_init := List.mem_of_getElem? (i := 8) (by decide +kernel)
theorem mX0_init_9 : Cond.initialized RX5 ∈ wsX0_init := List.mem_of_getElem? (i := 9) (by decide +kernel)
theorem nX0_init_5 : ∀ w ∈ wsX50, w ∈ wsX0_init := fun _ h => List.mem_cons_of_mem _ (List.mem_append_left _ (List.mem_append_left _ (List.mem_append_left _ (List.mem_append_left _ (List.mem_append_left _ (List.mem_append_left _ (List.mem_append_right _ h)))))))
theorem mX0_init_11 : Cond.instanceMethod yX5_init ∈ wsX0_init := List.mem_of_getElem? (i := 32) (by decide +kernel)
theorem mX0_init_12 : Cond.instantiable RX7 6 ∈ wsX0_init := List.mem_of_getElem? (i := 10) (by decide +kernel)
theorem mX0_init_13 : Cond.initialized RX7 ∈ wsX0_init := List.mem_of_getElem? (i := 11) (by decide +kernel)
theorem nX0_init_7 : ∀ w ∈ wsX70, w ∈ wsX0_init := fun _ h => List.mem_cons_of_mem _ (List.mem_append_left _ (List.mem_append_left _ (List.mem_append_left _ (List.mem_append_left _ (List.mem_append_left _ (List.mem_append_right _ h))))))
theorem mX0_init_15 : Cond.instanceMethod yX7_init ∈ wsX0_init := List.mem_of_getElem? (i := 35) (by decide +kernel)
theorem mX0_init_16 : Cond.classLink RX0 25 RX4 ∈ wsX0_init := List.mem_of_getElem? (i := 12) (by decide +kernel)
theorem mX0_init_17 : Cond.fieldLink RX0 27 RX0 (TX0 7).2.1 (TX0 7).2.2.1 ∈ wsX0_init := List.mem_of_getElem? (i := 13) (by decide +kernel)
theorem mX0_init_18 : Cond.instantiable RX4 5 ∈ wsX0_init := List.mem_of_getElem? (i := 14) (by decide +kernel)
theorem mX0_init_19 : Cond.initialized RX4 ∈ wsX0_init := List.mem_of_getElem? (i := 15) (by decide +kernel)
theorem nX0_init_4 : ∀ w ∈ wsX40, w ∈ wsX0_init := fun _ h => List.mem_cons_of_mem _ (List.mem_append_left _ (List.mem_append_left _ (List.mem_append_left _ (List.mem_append_left _ (List.mem_append_right _ h)))))
theorem mX0_init_21 : Cond.methodLink RX0 31 yX4_init ∈ wsX0_init := List.mem_of_getElem? (i := 38) (by decide +kernel)
theorem mX0_init_22 : Cond.instanceMethod yX4_init ∈ wsX0_init := List.mem_of_getElem? (i := 39) (by decide +kernel)
theorem mX0_init_23 : Cond.classLink RX0 32 RX3 ∈ wsX0_init := List.mem_of_getElem? (i := 16) (by decide +kernel)
theorem mX0_init_24 : Cond.instantiable RX3 9 ∈ wsX0_init := List.mem_of_getElem? (i := 17) (by decide +kernel)
theorem mX0_init_25 : Cond.initialized RX3 ∈ wsX0_init := List.mem_of_getElem? (i := 18) (by decide +kernel)
theorem nX0_init_3 : ∀ w ∈ wsX30, w ∈ wsX0_init := fun _ h => List.mem_cons_of_mem _ (List.mem_append_left _ (List.mem_append_left _ (List.mem_append_left _ (List.mem_append_right _ h))))
theorem mX0_init_27 : Cond.methodLink RX0 34 yX3_init ∈ wsX0_init := List.mem_of_getElem? (i := 45) (by decide +kernel)
theorem mX0_init_28 : Cond.instanceMethod yX3_init ∈ wsX0_init := List.mem_of_getElem? (i := 46) (by decide +kernel)
theorem mX0_init_29 : Cond.fieldLink RX0 35 RX0 (TX0 5).2.1 (TX0 5).2.2.1 ∈ wsX0_init := List.mem_of_getElem? (i := 19) (by decide +kernel)
theorem mX0_init_30 : Cond.classLink RX0 39 RX9 ∈ wsX0_init := List.mem_of_getElem? (i := 20) (by decide +kernel)
theorem mX0_init_31 : Cond.instantiable RX9 1 ∈ wsX0_init := List.mem_of_getElem? (i := 21) (by decide +kernel)
theorem mX0_init_32 : Cond.initialized RX9 ∈ wsX0_init := List.mem_of_getElem? (i := 22) (by decide +kernel)
theorem nX0_init_9 : ∀ w ∈ wsX90, w ∈ wsX0_init := fun _ h => List.mem_cons_of_mem _ (List.mem_append_left _ (List.mem_append_left _ (List.mem_append_right _ h)))
theorem mX0_init_34 : Cond.methodLink RX0 41 yX9_init ∈ wsX0_init := List.mem_of_getElem? (i := 51) (by decide +kernel)
theorem mX0_init_35 : Cond.instanceMethod yX9_init ∈ wsX0_init := List.mem_of_getElem? (i := 52) (by decide +kernel)
theorem mX0_init_36 : Cond.fieldLink RX0 42 RX0 (TX0 6).2.1 (TX0 6).2.2.1 ∈ wsX0_init := List.mem_of_getElem? (i := 23) (by decide +kernel)
theorem mX0_init_37 : Cond.classLink RX0 46 RX2 ∈ wsX0_init := List.mem_of_getElem? (i := 24) (by decide +kernel)
theorem mX0_init_38 : Cond.instantiable RX2 1 ∈ wsX0_init := List.mem_of_getElem? (i := 25) (by decide +kernel)
theorem mX0_init_39 : Cond.initialized RX2 ∈ wsX0_init := List.mem_of_getElem? (i := 26) (by decide +kernel)
theorem nX0_init_2 : ∀ w ∈ wsX20, w ∈ wsX0_init := fun _ h => List.mem_cons_of_mem _ (List.mem_append_left _ (List.mem_append_right _ h))
theorem mX0_init_41 : Cond.methodLink RX0 48 yX2_init ∈ wsX0_init := List.mem_of_getElem? (i := 56) (by decide +kernel)
theorem mX0_init_42 : Cond.instanceMethod yX2_init ∈ wsX0_init := List.mem_of_getElem? (i := 57) (by decide +kernel)
theorem mX0_init_43 : Cond.fieldLink RX0 49 RX0 (TX0 9).2.1 (TX0 9).2.2.1 ∈ wsX0_init := List.mem_of_getElem? (i := 27) (by decide +kernel)
theorem mX0_init_44 : Cond.classLink RX0 53 RX1 ∈ wsX0_init := List.mem_of_getElem? (i := 28) (by decide +kernel)
theorem mX0_init_45 : Cond.instantiable RX1 6 ∈ wsX0_init := List.mem_of_getElem? (i := 29) (by decide +kernel)
theorem mX0_init_46 : Cond.initialized RX1 ∈ wsX0_init := List.mem_of_getElem? (i := 30) (by decide +kernel)
theorem nX0_init_1 : ∀ w ∈ wsX10, w ∈ wsX0_init := fun _ h => List.mem_cons_of_mem _ (List.mem_append_right _ h)
theorem mX0_init_48 : Cond.methodLink RX0 55 yX1_init ∈ wsX0_init := List.mem_of_getElem? (i := 61) (by decide +kernel)
theorem mX0_init_49 : Cond.instanceMethod yX1_init ∈ wsX0_init := List.mem_of_getElem? (i := 62) (by decide +kernel)
theorem mX0_init_50 : Cond.fieldLink RX0 58 RX0 (TX0 10).2.1 (TX0 10).2.2.1 ∈ wsX0_init := List.mem_of_getElem? (i := 31) (by decide +kernel)
theorem dsc_X0_init : yX0_init.cls ≠ "java/lang/invoke/MethodHandle" ∧ yX0_init.cls ≠ "java/lang/invoke/VarHandle" ∧ (parseMethodDescriptor yX0_init.desc).map (fun d => d.parameters.length) = some 0 := by decide +kernel
set_option maxHeartbeats 4000000 in
set_option maxRecDepth 100000 in
theorem kX0_init (l : Launch) : mn_C l yX0_init wsX0_init ({ frames := 2, cells := 175, slots := 4002, locals := 34 }) 13 188 175 4002 (fun z => [.ref (z + mm_ad 6 0)]) (fun μ ρ Po => zm_ μ ∧ ∀ μ1 ρ1, i3_ μ1 ρ1 ρ → Po μ1 ρ1) := by
  refine jq_entry (cc := cX0_init) (nL := 2) (own := RX0) (plainFor_of_name (by decide)) rfl rfl rfl (fun _ => Nat.le_of_ble_eq_true rfl) ?_
  intro p e s m args below meth c D cy z μ ρ Po C hK h0 hX hr hlk hini h
  change jG p l e ({ frames := 2, cells := 175, slots := 4002, locals := 34 }) s m args below meth c (mm_B z) (MQ below (va_Qv (fun u : mm_T × mm_R => Po u.1 u.2) (fun u t => mn_P D cy z 188 u.1 u.2 t.heap) (mm_B z)) args s 175 4002 (mm_B z)) 2 0 0 (mn_P D cy z 13 μ ρ) 0 [(0, .ref (z + mm_ad 6 0))] []
  obtain ⟨hz0, h⟩ := h
  have endC : ∀ μ9 ρ9, i2_ 49 μ9 ρ9 ρ → jG p l e ({ frames := 2, cells := 175, slots := 4002, locals := 34 }) s m args below meth c (mm_B z) (MQ below (va_Qv (fun u : mm_T × mm_R => Po u.1 u.2) (fun u t => mn_P D cy z 188 u.1 u.2 t.heap) (mm_B z)) args s 175 4002 (mm_B z)) 2 164 994 (mn_P D cy z 177 μ9 ρ9) 101 [(0, .ref (z + mm_ad 6 0)), (1, .int (nI 49))] [] := by
    intro μ9 ρ9 hI
    refine jg_aload_n (q := 102) C 0 dX0_init_101 rfl rfl rfl ?_
    refine jq_new (q := 105) (f := 15) (i := 0) (ci := 3) (Cn := RX3) (T := TX3) (N := 9) C hK h0 (by decide +kernel) rfl rfl rfl nX0_init_3 tyX3 tyX3_ok dv_3 mX0_init_23 mX0_init_24 mX0_init_25 (by decide) (by decide) dX0_init_102 rfl ?_
    refine jg_dup (q := 106) C dX0_init_105 rfl rfl ?_
    refine jq_call (q := 109) (As := []) (rest := [.ref (z + mm_ad 15 0), .ref (z + mm_ad 6 0)]) C hK h0 hX (kX3_init l) rfl gX0_init_X3_init rfl rfl mX0_init_27 mX0_init_28 mX0_init_25 dsc_X3_init ⟨rfl, rfl⟩ ⟨by decide, by decide⟩ rfl rfl (Nat.le_of_ble_eq_true rfl) dX0_init_106 rfl ⟨by decide, by decide⟩ (Ko := fun u9 r9 => u9 = (mm_Z (mm_Z μ9 15 0) 16 0) ∧ r9 = (mr_W (mr_Z (mr_Z ρ9 15 0) 16 0) 15 0 8 (mm_ad 16 0))) ⟨rfl, rfl⟩ (fun u r hu => ?_)
    obtain ⟨rfl, rfl⟩ := hu
    refine jq_putF (q := 112) (ci := 0) (Cn := RX0) (T := TX0) (N := 11) (j := 5) C hK h0 mf_6 (by decide) rfl rfl (by decide) rfl rfl hini rfl tyX0 tyX0_ok nmX0 rfl (tyX0_ok 5 (by decide)) rfl rfl nX0_init_0 mX0_init_29 dX0_init_109 rfl rfl ?_
    refine jg_aload_n (q := 113) C 0 dX0_init_112 rfl rfl rfl ?_
    refine jq_new (q := 116) (f := 17) (i := 0) (ci := 9) (Cn := RX9) (T := TX9) (N := 1) C hK h0 (by decide +kernel) rfl rfl rfl nX0_init_9 tyX9 tyX9_ok dv_9 mX0_init_30 mX0_init_31 mX0_init_32 (by decide) (by decide) dX0_init_113 rfl ?_
    refine jg_dup (q := 117) C dX0_init_116 rfl rfl ?_
    refine jq_call (q := 120) (As := []) (rest := [.ref (z + mm_ad 17 0), .ref (z + mm_ad 6 0)]) C hK h0 hX (kX9_init l) rfl gX0_init_X9_init rfl rfl mX0_init_34 mX0_init_35 mX0_init_32 dsc_X9_init ⟨rfl, rfl⟩ ⟨by decide, by decide⟩ rfl rfl (Nat.le_of_ble_eq_true rfl) dX0_init_117 rfl ⟨by decide, by decide⟩ (Ko := fun u9 r9 => u9 = (mm_Z (mm_Z (mm_Z (mm_Z μ9 15 0) 16 0) 17 0) 18 0) ∧ r9 = (mr_W (mr_Z (mr_Z (mr_W (mr_W (mr_Z (mr_Z ρ9 15 0) 16 0) 15 0 8 (mm_ad 16 0)) 6 0 5 (mm_ad 15 0)) 17 0) 18 0) 17 0 0 (mm_ad 18 0))) ⟨rfl, rfl⟩ (fun u r hu => ?_)
    obtain ⟨rfl, rfl⟩ := hu
    refine jq_putF (q := 123) (ci := 0) (Cn := RX0) (T := TX0) (N := 11) (j := 6) C hK h0 mf_6 (by decide) rfl rfl (by decide) rfl rfl hini rfl tyX0 tyX0_ok nmX0 rfl (tyX0_ok 6 (by decide)) rfl rfl nX0_init_0 mX0_init_36 dX0_init_120 rfl rfl ?_
    refine jg_aload_n (q := 124) C 0 dX0_init_123 rfl rfl rfl ?_
    refine jq_new (q := 127) (f := 19) (i := 0) (ci := 2) (Cn := RX2) (T := TX2) (N := 1) C hK h0 (by decide +kernel) rfl rfl rfl nX0_init_2 tyX2 tyX2_ok dv_2 mX0_init_37 mX0_init_38 mX0_init_39 (by decide) (by decide) dX0_init_124 rfl ?_
    refine jg_dup (q := 128) C dX0_init_127 rfl rfl ?_
    refine jq_call (q := 131) (As := []) (rest := [.ref (z + mm_ad 19 0), .ref (z + mm_ad 6 0)]) C hK h0 hX (kX2_init l) rfl gX0_init_X2_init rfl rfl mX0_init_41 mX0_init_42 mX0_init_39 dsc_X2_init ⟨rfl, rfl⟩ ⟨by decide, by decide⟩ rfl rfl (Nat.le_of_ble_eq_true rfl) dX0_init_128 rfl ⟨by decide, by decide⟩ (Ko := fun u9 r9 => fq_ (mm_Z (mm_Z (mm_Z (mm_Z (mm_Z (mm_Z μ9 15 0) 16 0) 17 0) 18 0) 19 0) 20 0) u9 1923 ∧ r9 = (mr_W (mr_Z (mr_Z (mr_W (mr_W (mr_Z (mr_Z (mr_W (mr_W (mr_Z (mr_Z ρ9 15 0) 16 0) 15 0 8 (mm_ad 16 0)) 6 0 5 (mm_ad 15 0)) 17 0) 18 0) 17 0 0 (mm_ad 18 0)) 6 0 6 (mm_ad 17 0)) 19 0) 20 0) 19 0 0 (mm_ad 20 0))) (fun μ1 h9 => ⟨h9, rfl⟩) (fun uF r hu => ?_)
    obtain ⟨hfq, rfl⟩ := hu
    refine jq_putF (q := 134) (ci := 0) (Cn := RX0) (T := TX0) (N := 11) (j := 9) C hK h0 mf_6 (by decide) rfl rfl (by decide) rfl rfl hini rfl tyX0 tyX0_ok nmX0 rfl (tyX0_ok 9 (by decide)) rfl rfl nX0_init_0 mX0_init_43 dX0_init_131 rfl rfl ?_
    refine jg_aload_n (q := 135) C 0 dX0_init_134 rfl rfl rfl ?_
    refine jq_new (q := 138) (f := 21) (i := 0) (ci := 1) (Cn := RX1) (T := TX1) (N := 6) C hK h0 (by decide +kernel) rfl rfl rfl nX0_init_1 tyX1 tyX1_ok dv_1 mX0_init_44 mX0_init_45 mX0_init_46 (by decide) (by decide) dX0_init_135 rfl ?_
    refine jg_dup (q := 139) C dX0_init_138 rfl rfl ?_
    refine jg_aload_n (q := 140) C 0 dX0_init_139 rfl rfl rfl ?_
    refine jq_getR (q := 143) (ci := 0) (Cn := RX0) (T := TX0) (N := 11) (j := 9) (k := mm_ad 19 0) C hK h0 mf_6 (by decide) rfl rfl (by decide) rfl rfl rfl nX0_init_0 mX0_init_43 dX0_init_140 rfl rfl ?_
    refine jq_call (q := 146) (As := [.ref (z + mm_ad 19 0)]) (rest := [.ref (z + mm_ad 21 0), .ref (z + mm_ad 6 0)]) C hK h0 hX (kX1_init l) rfl gX0_init_X1_init rfl rfl mX0_init_48 mX0_init_49 mX0_init_46 dsc_X1_init ⟨rfl, rfl⟩ ⟨by decide, by decide⟩ rfl rfl (Nat.le_of_ble_eq_true rfl) dX0_init_143 rfl ⟨by decide, by decide⟩ (Ko := fun u9 r9 => u9 = (mm_Z (mm_Z (mm_Z (mm_Z (mm_Z uF 21 0) 22 0) 23 0) 24 0) 25 0) ∧ r9 = (mr_W (mr_Z (mr_W (mr_Z (mr_W (mr_Z (mr_W (mr_Z (mr_W (mr_Z (mr_W (mr_W (mr_Z (mr_Z (mr_W (mr_W (mr_Z (mr_Z (mr_W (mr_W (mr_Z (mr_Z ρ9 15 0) 16 0) 15 0 8 (mm_ad 16 0)) 6 0 5 (mm_ad 15 0)) 17 0) 18 0) 17 0 0 (mm_ad 18 0)) 6 0 6 (mm_ad 17 0)) 19 0) 20 0) 19 0 0 (mm_ad 20 0)) 6 0 9 (mm_ad 19 0)) 21 0) 21 0 0 (mm_ad 19 0)) 22 0) 21 0 1 (mm_ad 22 0)) 23 0) 21 0 2 (mm_ad 23 0)) 24 0) 21 0 3 (mm_ad 24 0)) 25 0) 21 0 5 (mm_ad 25 0))) ⟨rfl, rfl⟩ (fun u r hu => ?_)
    obtain ⟨rfl, rfl⟩ := hu
    refine jq_putF (q := 149) (ci := 0) (Cn := RX0) (T := TX0) (N := 11) (j := 10) C hK h0 mf_6 (by decide) rfl rfl (by decide) rfl rfl hini rfl tyX0 tyX0_ok nmX0 rfl (tyX0_ok 10 (by decide)) rfl rfl nX0_init_0 mX0_init_50 dX0_init_146 rfl rfl ?_
    refine jq_vret C hK h0 hr hlk rfl dX0_init_149 (h _ _ ?_)
    obtain ⟨⟨h1, h2, h3, h4, h5, h6⟩, h7, h8, h9⟩ := hI
    refine ⟨zq_Z (zq_Z (zq_Z (zq_Z (zq_Z (zq_of (zm_Z (zm_Z (zm_Z (zm_Z (zm_Z (zm_Z h1 15 0) 16 0) 17 0) 18 0) 19 0) 20 0) hfq) 21 0 (by decide)) 22 0 (by decide)) 23 0 (by decide)) 24 0 (by decide)) 25 0 (by decide), fun a b c ha => ?_, ⟨?_, ?_, ?_, ?_, ?_, ?_, ?_⟩, fun k hk => ?_, fun k hk => ?_, fun k hk => ?_, fun k hk => ?_, ?_, ?_, ?_, ?_, ?_, ?_, ?_, ?_⟩
    · simp only [mr_Wr, mr_Zr]
      repeat rw [if_neg (by omega)]
      exact h2 a b c ha
    all_goals first | (simp [mr_Wr, mr_Zr, h3, h4, h7]; done) | (simp [mr_Wr, mr_Zr, h5 k hk]; done) | (simp [mr_Wr, mr_Zr, h6 k hk]; done) | (simp [mr_Wr, mr_Zr, h8 k hk]; done) | (simp [mr_Wr, mr_Zr, (h9 k hk).1, (h9 k hk).2]; done)
  have loop2 : ∀ (d i : Nat) (μ9 : mm_T) (ρ9 : mm_R), d = 49 - i → i ≤ 49 → i2_ i μ9 ρ9 ρ → jG p l e ({ frames := 2, cells := 175, slots := 4002, locals := 34 }) s m args below meth c (mm_B z) (MQ below (va_Qv (fun u : mm_T × mm_R => Po u.1 u.2) (fun u t => mn_P D cy z 188 u.1 u.2 t.heap) (mm_B z)) args s 175 4002 (mm_B z)) 2 (17 + 3 * i) (161 + 17 * i) (mn_P D cy z (30 + 3 * i) μ9 ρ9) 73 [(0, .ref (z + mm_ad 6 0)), (1, .int (nI i))] [] := by
    intro d
    induction d with
    | zero =>
      intro i μ9 ρ9 h1 h2 hI
      have hk : i = 49 := by omega
      subst hk
      refine jg_iload_n (q := 74) C 1 dX0_init_73 rfl rfl rfl ?_
      refine jg_aload_n (q := 75) C 0 dX0_init_74 rfl rfl rfl ?_
      refine jq_getR (q := 78) (ci := 0) (Cn := RX0) (T := TX0) (N := 11) (j := 7) (k := mm_ad 11 0) C hK h0 mf_6 (Nat.lt_of_lt_of_le (show mm_ad 6 0 < 13 by decide) (by omega)) rfl rfl (by decide) rfl rfl hI.2.1 nX0_init_0 mX0_init_17 dX0_init_75 rfl rfl ?_
      refine jq_alen (q := 79) (t := 0) (v := (49 : Int32)) C hK h0 mf_11 (Nat.lt_of_lt_of_le (show mm_ad 11 0 < 30 by decide) (by omega)) rfl rfl (by decide) dX0_init_78 rfl ?_
      refine jg_icmp_ge (q := 82) (tgt := 101) C dX0_init_79 (by decide) rfl (fun c1 => ?_) (fun c1 => ?_)
      · exact endC μ9 ρ9 hI
      · exact absurd (by decide) c1
    | succ d ih =>
      intro i μ9 ρ9 h1 h2 hI
      have hi : i < 49 := by omega
      refine jg_iload_n (q := 74) C 1 dX0_init_73 rfl rfl rfl ?_
      refine jg_aload_n (q := 75) C 0 dX0_init_74 rfl rfl rfl ?_
      refine jq_getR (q := 78) (ci := 0) (Cn := RX0) (T := TX0) (N := 11) (j := 7) (k := mm_ad 11 0) C hK h0 mf_6 (Nat.lt_of_lt_of_le (show mm_ad 6 0 < 13 by decide) (by omega)) rfl rfl (by decide) rfl rfl hI.2.1 nX0_init_0 mX0_init_17 dX0_init_75 rfl rfl ?_
      refine jq_alen (q := 79) (t := 0) (v := (49 : Int32)) C hK h0 mf_11 (Nat.lt_of_lt_of_le (show mm_ad 11 0 < 30 by decide) (by omega)) rfl rfl (by decide) dX0_init_78 rfl ?_
      refine jg_icmp_ge (q := 82) (tgt := 101) C dX0_init_79 (by decide) rfl (fun c1 => ?_) (fun c1 => ?_)
      · exact absurd c1 (show ¬ (49 : Int32) ≤ nI i from nI_ge (b := 49) hi (by decide))
      · refine jg_aload_n (q := 83) C 0 dX0_init_82 rfl rfl rfl ?_
        refine jq_getR (q := 86) (ci := 0) (Cn := RX0) (T := TX0) (N := 11) (j := 7) (k := mm_ad 11 0) C hK h0 mf_6 (Nat.lt_of_lt_of_le (show mm_ad 6 0 < 13 by decide) (by omega)) rfl rfl (by decide) rfl rfl hI.2.1 nX0_init_0 mX0_init_17 dX0_init_83 rfl rfl ?_
        refine jg_iload_n (q := 87) C 1 dX0_init_86 rfl rfl rfl ?_
        refine jq_new (q := 90) (f := 12) (i := i) (ci := 4) (Cn := RX4) (T := TX4) (N := 5) C hK h0 (mi_12 i hi) rfl rfl rfl nX0_init_4 tyX4 tyX4_ok dv_4 mX0_init_16 mX0_init_18 mX0_init_19 (by show _ ≤ 175; omega) (by show _ ≤ 4002; omega) dX0_init_87 rfl ?_
        refine jg_dup (q := 91) C dX0_init_90 rfl rfl ?_
        rw [show 30 + 3 * i + 1 = 31 + 3 * i by omega]
        refine jq_call (q := 94) (As := []) (rest := [.ref (z + mm_ad 12 i), .int (nI i), .ref (z + mm_ad 11 0)]) C hK h0 hX (kX4_init l i hi) rfl gX0_init_X4_init rfl rfl mX0_init_21 mX0_init_22 mX0_init_19 dsc_X4_init ⟨rfl, rfl⟩ ⟨by decide, by decide⟩ rfl rfl (Nat.le_of_ble_eq_true rfl) dX0_init_91 rfl ⟨by show _ ≤ 175; omega, by show _ ≤ 4002; omega⟩ (Ko := fun u r => u = (mm_Z (mm_Z (mm_Z μ9 12 i) 13 i) 14 i) ∧ r = (mr_W (mr_Z (mr_W (mr_Z (mr_Z ρ9 12 i) 13 i) 12 i 0 (mm_ad 13 i)) 14 i) 12 i 1 (mm_ad 14 i))) ⟨rfl, rfl⟩ (fun u r hu => ?_)
        obtain ⟨rfl, rfl⟩ := hu
        refine jq_aast (q := 95) (t := 0) (ci := 4) (F := 12) (I := i) C hK h0 mf_11 (Nat.lt_of_lt_of_le (show mm_ad 11 0 < 30 by decide) (by omega)) rfl rfl hi (mi_a12 i hi) rfl rfl (vp_in_nI hi (by omega)) dX0_init_94 rfl ?_
        rw [nI_clamp (by omega)]
        refine jg_iinc (q := 98) (v := nI (i + 1)) (lv' := [(1, .int (nI (i + 1))), (0, .ref (z + mm_ad 6 0))]) C 1 dX0_init_95 rfl (nI_1 i) (by decide) rfl rfl ?_
        refine jg_goto (tgt := 73) C dX0_init_98 (by decide) ?_
        refine jg_sub [1, 0] rfl ?_
        have hn := ih (i + 1) _ _ (by omega) (by omega) (i2_s hI)
        rw [show 30 + 3 * (i + 1) = 31 + 3 * i + 2 by omega, show 17 + 3 * (i + 1) = 17 + 3 * i + 1 + 2 by omega, show 161 + 17 * (i + 1) = 161 + 17 * i + 5 + 12 by omega] at hn
        exact hn
  have endB : ∀ μ9 ρ9, i1_ 7 μ9 ρ9 ρ → jG p l e ({ frames := 2, cells := 175, slots := 4002, locals := 34 }) s m args below meth c (mm_B z) (MQ below (va_Qv (fun u : mm_T × mm_R => Po u.1 u.2) (fun u t => mn_P D cy z 188 u.1 u.2 t.heap) (mm_B z)) args s 175 4002 (mm_B z)) 2 16 112 (mn_P D cy z 29 μ9 ρ9) 62 [(0, .ref (z + mm_ad 6 0)), (1, .int (nI 7))] [] := by
    intro μ9 ρ9 hI
    refine jg_aload_n (q := 63) C 0 dX0_init_62 rfl rfl rfl ?_
    refine jg_bipush (q := 65) (v := (49 : Int32)) C dX0_init_63 (by decide) rfl ?_
    refine jq_newR (q := 68) (f := 11) (i := 0) (N := 49) (t := 0) C hK h0 (by decide +kernel) rfl rfl hX.2.2.2.1 mX0_init_16 (by decide) (by decide) (by decide) (by decide) (by decide) dX0_init_65 rfl ?_
    refine jq_putF (q := 71) (ci := 0) (Cn := RX0) (T := TX0) (N := 11) (j := 7) C hK h0 mf_6 (by decide) rfl rfl (by decide) rfl rfl hini rfl tyX0 tyX0_ok nmX0 rfl (tyX0_ok 7 (by decide)) rfl rfl nX0_init_0 mX0_init_17 dX0_init_68 rfl rfl ?_
    refine jg_iconst (q := 72) (v := (0 : Int32)) C dX0_init_71 (by decide) rfl ?_
    refine jg_istore_n (q := 73) (lv' := [(1, .int (0 : Int32)), (0, .ref (z + mm_ad 6 0))]) C dX0_init_72 rfl (by decide) rfl rfl ?_
    refine jg_sub [1, 0] rfl ?_
    refine loop2 49 0 _ _ rfl (by decide) ?_
    obtain ⟨h1, h2, h3, h4, h5, h6⟩ := hI
    refine ⟨⟨zm_Z h1 _ _, fun a b c ha => ?_, ?_, ?_, fun k hk => ?_, fun k hk => ?_⟩, ?_, fun k hk => absurd hk (Nat.not_lt_zero k), fun k hk => absurd hk (Nat.not_lt_zero k)⟩
    · simp only [mr_Wr, mr_Zr]
      rw [if_neg (by omega), if_neg (by omega)]
      exact h2 a b c ha
    · simp [mr_Wr, mr_Zr, h3]
    · simp [mr_Wr, mr_Zr, h4]
    · simp [mr_Wr, mr_Zr, h5 k hk]
    · simp [mr_Wr, mr_Zr, h6 k hk]
    · simp [mr_Wr, mr_Zr]
  have loop1 : ∀ (d i : Nat) (μ9 : mm_T) (ρ9 : mm_R), d = 7 - i → i ≤ 7 → i1_ i μ9 ρ9 ρ → jG p l e ({ frames := 2, cells := 175, slots := 4002, locals := 34 }) s m args below meth c (mm_B z) (MQ below (va_Qv (fun u : mm_T × mm_R => Po u.1 u.2) (fun u t => mn_P D cy z 188 u.1 u.2 t.heap) (mm_B z)) args s 175 4002 (mm_B z)) 2 (2 + 2 * i) (14 + 14 * i) (mn_P D cy z (15 + 2 * i) μ9 ρ9) 24 [(0, .ref (z + mm_ad 6 0)), (1, .int (nI i))] [] := by
    intro d
    induction d with
    | zero =>
      intro i μ9 ρ9 h1 h2 hI
      have hk : i = 7 := by omega
      subst hk
      refine jg_iload_n (q := 25) C 1 dX0_init_24 rfl rfl rfl ?_
      refine jg_bipush (q := 27) (v := (7 : Int32)) C dX0_init_25 (by decide) rfl ?_
      refine jg_icmp_ge (q := 30) (tgt := 62) C dX0_init_27 (by decide) rfl (fun c1 => ?_) (fun c1 => ?_)
      · exact endB μ9 ρ9 hI
      · exact absurd (by decide) c1
    | succ d ih =>
      intro i μ9 ρ9 h1 h2 hI
      have hi : i < 7 := by omega
      refine jg_iload_n (q := 25) C 1 dX0_init_24 rfl rfl rfl ?_
      refine jg_bipush (q := 27) (v := (7 : Int32)) C dX0_init_25 (by decide) rfl ?_
      refine jg_icmp_ge (q := 30) (tgt := 62) C dX0_init_27 (by decide) rfl (fun c1 => ?_) (fun c1 => ?_)
      · exact absurd c1 (show ¬ (7 : Int32) ≤ nI i from nI_ge (b := 7) hi (by decide))
      · refine jg_aload_n (q := 31) C 0 dX0_init_30 rfl rfl rfl ?_
        refine jq_getR (q := 34) (ci := 0) (Cn := RX0) (T := TX0) (N := 11) (j := 0) (k := mm_ad 7 0) C hK h0 mf_6 (Nat.lt_of_lt_of_le (show mm_ad 6 0 < 13 by decide) (by omega)) rfl rfl (by decide) rfl rfl hI.2.2.1 nX0_init_0 mX0_init_5 dX0_init_31 rfl rfl ?_
        refine jg_iload_n (q := 35) C 1 dX0_init_34 rfl rfl rfl ?_
        refine jq_new (q := 38) (f := 9) (i := i) (ci := 5) (Cn := RX5) (T := TX5) (N := 8) C hK h0 (mi_9 i hi) rfl rfl rfl nX0_init_5 tyX5 tyX5_ok dv_5 mX0_init_3 mX0_init_8 mX0_init_9 (by show _ ≤ 175; omega) (by show _ ≤ 4002; omega) dX0_init_35 rfl ?_
        refine jg_dup (q := 39) C dX0_init_38 rfl rfl ?_
        refine jq_callN (q := 42) (As := []) (rest := [.ref (z + mm_ad 9 i), .int (nI i), .ref (z + mm_ad 7 0)]) C hK h0 hX (kX5_init l i (15 + 2 * i + 1)) rfl gX0_init_X5_init_n23 rfl rfl hX.1 mX0_init_11 mX0_init_9 dsc_X5_init ⟨rfl, rfl⟩ ⟨by decide, by decide⟩ rfl rfl (Nat.le_of_ble_eq_true rfl) dX0_init_39 rfl ⟨by show _ ≤ 175; omega, by show _ ≤ 4002; omega⟩ (Ko := fun u r => u = (mm_Z μ9 9 i) ∧ r = (mr_Z ρ9 9 i)) ⟨rfl, rfl⟩ (fun u r hu => ?_)
        obtain ⟨rfl, rfl⟩ := hu
        refine jq_aast (q := 43) (t := 1) (ci := 5) (F := 9) (I := i) C hK h0 mf_7 (Nat.lt_of_lt_of_le (show mm_ad 7 0 < 15 by decide) (by omega)) rfl rfl hi (mi_a9 i hi) rfl rfl (vp_in_nI hi (by omega)) dX0_init_42 rfl ?_
        rw [nI_clamp (by omega)]
        refine jg_aload_n (q := 44) C 0 dX0_init_43 rfl rfl rfl ?_
        refine jq_getR (q := 47) (ci := 0) (Cn := RX0) (T := TX0) (N := 11) (j := 8) (k := mm_ad 8 0) C hK h0 mf_6 (Nat.lt_of_lt_of_le (show mm_ad 6 0 < 13 by decide) (by omega)) rfl rfl (by decide) rfl rfl (by simp [mr_Wr, mr_Zr, hI.2.2.2.1]) nX0_init_0 mX0_init_7 dX0_init_44 rfl rfl ?_
        refine jg_iload_n (q := 48) C 1 dX0_init_47 rfl rfl rfl ?_
        refine jq_new (q := 51) (f := 10) (i := i) (ci := 7) (Cn := RX7) (T := TX7) (N := 6) C hK h0 (mi_10 i hi) rfl rfl rfl nX0_init_7 tyX7 tyX7_ok dv_7 mX0_init_6 mX0_init_12 mX0_init_13 (by show _ ≤ 175; omega) (by show _ ≤ 4002; omega) dX0_init_48 rfl ?_
        refine jg_dup (q := 52) C dX0_init_51 rfl rfl ?_
        refine jq_callN (q := 55) (As := []) (rest := [.ref (z + mm_ad 10 i), .int (nI i), .ref (z + mm_ad 8 0)]) C hK h0 hX (kX7_init l i (15 + 2 * i + 1 + 1)) rfl gX0_init_X7_init_n24 rfl rfl hX.2.1 mX0_init_15 mX0_init_13 dsc_X7_init ⟨rfl, rfl⟩ ⟨by decide, by decide⟩ rfl rfl (Nat.le_of_ble_eq_true rfl) dX0_init_52 rfl ⟨by show _ ≤ 175; omega, by show _ ≤ 4002; omega⟩ (Ko := fun u r => u = (mm_Z (mm_Z μ9 9 i) 10 i) ∧ r = (mr_Z (mr_W (mr_Z ρ9 9 i) 7 0 i (mm_ad 9 i)) 10 i)) ⟨rfl, rfl⟩ (fun u r hu => ?_)
        obtain ⟨rfl, rfl⟩ := hu
        refine jq_aast (q := 56) (t := 2) (ci := 7) (F := 10) (I := i) C hK h0 mf_8 (Nat.lt_of_lt_of_le (show mm_ad 8 0 < 15 by decide) (by omega)) rfl rfl hi (mi_a10 i hi) rfl rfl (vp_in_nI hi (by omega)) dX0_init_55 rfl ?_
        rw [nI_clamp (by omega)]
        refine jg_iinc (q := 59) (v := nI (i + 1)) (lv' := [(1, .int (nI (i + 1))), (0, .ref (z + mm_ad 6 0))]) C 1 dX0_init_56 rfl (nI_1 i) (by decide) rfl rfl ?_
        refine jg_goto (tgt := 24) C dX0_init_59 (by decide) ?_
        refine jg_sub [1, 0] rfl ?_
        have hn := ih (i + 1) _ _ (by omega) (by omega) (i1_s hI)
        rw [show 15 + 2 * (i + 1) = 15 + 2 * i + 1 + 1 by omega, show 2 + 2 * (i + 1) = 2 + 2 * i + 1 + 0 + 1 + 0 by omega, show 14 + 14 * (i + 1) = 14 + 14 * i + 8 + 0 + 6 + 0 by omega] at hn
        exact hn
  refine jg_aload_n (q := 1) C 0 dX0_init_0 rfl rfl rfl ?_
  refine jg_obj (q := 4) C mX0_init_0 mX0_init_1 mX0_init_2 (by decide) (Nat.le_of_ble_eq_true rfl) dX0_init_1 rfl ?_
  refine jg_aload_n (q := 5) C 0 dX0_init_4 rfl rfl rfl ?_
  refine jg_bipush (q := 7) (v := (7 : Int32)) C dX0_init_5 (by decide) rfl ?_
  refine jq_newR (q := 10) (f := 7) (i := 0) (N := 7) (t := 1) C hK h0 (by decide +kernel) rfl rfl hX.2.2.2.2.1 mX0_init_3 (by decide) (by decide) (by decide) (by decide) (by decide) dX0_init_7 rfl ?_
  refine jq_putF (q := 13) (ci := 0) (Cn := RX0) (T := TX0) (N := 11) (j := 0) C hK h0 mf_6 (by decide) rfl rfl (by decide) rfl rfl hini rfl tyX0 tyX0_ok nmX0 rfl (tyX0_ok 0 (by decide)) rfl rfl nX0_init_0 mX0_init_5 dX0_init_10 rfl rfl ?_
  refine jg_aload_n (q := 14) C 0 dX0_init_13 rfl rfl rfl ?_
  refine jg_bipush (q := 16) (v := (7 : Int32)) C dX0_init_14 (by decide) rfl ?_
  refine jq_newR (q := 19) (f := 8) (i := 0) (N := 7) (t := 2) C hK h0 (by decide +kernel) rfl rfl hX.2.2.2.2.2 mX0_init_6 (by decide) (by decide) (by decide) (by decide) (by decide) dX0_init_16 rfl ?_
  refine jq_putF (q := 22) (ci := 0) (Cn := RX0) (T := TX0) (N := 11) (j := 8) C hK h0 mf_6 (by decide) rfl rfl (by decide) rfl rfl hini rfl tyX0 tyX0_ok nmX0 rfl (tyX0_ok 8 (by decide)) rfl rfl nX0_init_0 mX0_init_7 dX0_init_19 rfl rfl ?_
  refine jg_iconst (q := 23) (v := (0 : Int32)) C dX0_init_22 (by decide) rfl ?_
  refine jg_istore_n (q := 24) (lv' := [(1, .int (0 : Int32)), (0, .ref (z + mm_ad 6 0))]) C dX0_init_23 rfl (by decide) rfl rfl ?_
  refine jg_sub [1, 0] rfl ?_
  refine loop1 7 0 _ _ rfl (by decide) ?_
  refine ⟨zm_Z (zm_Z hz0 _ _) _ _, fun a b c ha => ?_, ?_, ?_, fun k hk => absurd hk (Nat.not_lt_zero k), fun k hk => absurd hk (Nat.not_lt_zero k)⟩
  · simp only [mr_Wr, mr_Zr]
    rw [if_neg (by omega), if_neg (by omega), if_neg (by omega), if_neg (by omega)]
  · simp [mr_Wr, mr_Zr]
  · simp [mr_Wr, mr_Zr]
