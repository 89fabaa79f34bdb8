theorem zm_g {μ : mm_T} (h : zm_ μ) : zm_ (mg_μ μ) := by
  refine ⟨fun a b c => ?_, fun a b c => ?_⟩
  · show (if a = 4 ∨ a = 5 then (fun _ => (0 : Int32)) else μ.1 a b) c = 0
    by_cases e : a = 4 ∨ a = 5
    · rw [if_pos e]
    · rw [if_neg e]; exact h.1 a b c
  · show (if a = 4 ∨ a = 5 then (fun _ => (0 : Int64)) else μ.2 a b) c = 0
    by_cases e : a = 4 ∨ a = 5
    · rw [if_pos e]
    · rw [if_neg e]; exact h.2 a b c
/-- all that the object of the class holds -/
def j3_ (μ : mm_T) (ρ : mm_R) : Prop := (∃ ρ0, i3_ μ ρ ρ0) ∧ ρ 0 0 0 = some (mm_ad 1 0) ∧ ρ 0 0 1 = some (mm_ad 3 0) ∧ ρ 0 0 2 = some (mm_ad 6 0) ∧ ρ 1 0 0 = some (mm_ad 2 0) ∧ ρ 3 0 0 = some (mm_ad 4 0) ∧ ∀ k, k < 7 → ρ 4 0 k = some (mm_ad 5 k)
theorem mX10_init_0 : Cond.methodLink RX10 3 Lib.objectInit ∈ wsX10_init := List.mem_of_getElem? (i := 1) (by decide +kernel)
theorem mX10_init_1 : Cond.instanceMethod Lib.objectInit ∈ wsX10_init := List.mem_of_getElem? (i := 2) (by decide +kernel)
theorem mX10_init_2 : Cond.code Lib.objectInit ⟨#[0xb1]⟩ 1 none ∈ wsX10_init := List.mem_of_getElem? (i := 3) (by decide +kernel)
theorem mX10_init_3 : Cond.classLink RX10 9 RX6 ∈ wsX10_init := List.mem_of_getElem? (i := 4) (by decide +kernel)
theorem mX10_init_4 : Cond.instantiable RX6 2 ∈ wsX10_init := List.mem_of_getElem? (i := 5) (by decide +kernel)
theorem mX10_init_5 : Cond.initialized RX6 ∈ wsX10_init := List.mem_of_getElem? (i := 6) (by decide +kernel)
theorem nX10_init_6 : ∀ w ∈ wsX60, w ∈ wsX10_init := fun _ h => List.mem_cons_of_mem _ (List.mem_append_left _ (List.mem_append_left _ (List.mem_append_left _ (List.mem_append_left _ (List.mem_append_left _ (List.mem_append_left _ (List.mem_append_left _ (List.mem_append_left _ (List.mem_append_left _ (List.mem_append_left _ (List.mem_append_right _ h)))))))))))
theorem mX10_init_7 : Cond.methodLink RX10 11 yX6_init ∈ wsX10_init := List.mem_of_getElem? (i := 16) (by decide +kernel)
theorem mX10_init_8 : Cond.instanceMethod yX6_init ∈ wsX10_init := List.mem_of_getElem? (i := 17) (by decide +kernel)
theorem nX10_init_10 : ∀ w ∈ wsX100, w ∈ wsX10_init := fun _ h => List.mem_cons_of_mem _ (List.mem_append_left _ (List.mem_append_left _ (List.mem_append_left _ (List.mem_append_left _ (List.mem_append_left _ (List.mem_append_left _ (List.mem_append_left _ (List.mem_append_left _ (List.mem_append_left _ (List.mem_append_right _ h))))))))))
theorem mX10_init_10 : Cond.fieldLink RX10 12 RX10 (TX10 0).2.1 (TX10 0).2.2.1 ∈ wsX10_init := List.mem_of_getElem? (i := 7) (by decide +kernel)
theorem mX10_init_11 : Cond.classLink RX10 16 RX8 ∈ wsX10_init := List.mem_of_getElem? (i := 8) (by decide +kernel)
theorem mX10_init_12 : Cond.instantiable RX8 6 ∈ wsX10_init := List.mem_of_getElem? (i := 9) (by decide +kernel)
theorem mX10_init_13 : Cond.initialized RX8 ∈ wsX10_init := List.mem_of_getElem? (i := 10) (by decide +kernel)
theorem nX10_init_8 : ∀ w ∈ wsX80, w ∈ wsX10_init := fun _ h => List.mem_cons_of_mem _ (List.mem_append_left _ (List.mem_append_left _ (List.mem_append_left _ (List.mem_append_left _ (List.mem_append_left _ (List.mem_append_left _ (List.mem_append_left _ (List.mem_append_left _ (List.mem_append_right _ h)))))))))
theorem mX10_init_15 : Cond.methodLink RX10 18 yX8_init ∈ wsX10_init := List.mem_of_getElem? (i := 22) (by decide +kernel)
theorem mX10_init_16 : Cond.instanceMethod yX8_init ∈ wsX10_init := List.mem_of_getElem? (i := 23) (by decide +kernel)
theorem mX10_init_17 : Cond.fieldLink RX10 19 RX10 (TX10 1).2.1 (TX10 1).2.2.1 ∈ wsX10_init := List.mem_of_getElem? (i := 11) (by decide +kernel)
theorem mX10_init_18 : Cond.classLink RX10 23 RX0 ∈ wsX10_init := List.mem_of_getElem? (i := 12) (by decide +kernel)
theorem mX10_init_19 : Cond.instantiable RX0 11 ∈ wsX10_init := List.mem_of_getElem? (i := 13) (by decide +kernel)
theorem mX10_init_20 : Cond.initialized RX0 ∈ wsX10_init := List.mem_of_getElem? (i := 14) (by decide +kernel)
theorem nX10_init_0 : ∀ w ∈ wsX00, w ∈ wsX10_init := fun _ h => List.mem_cons_of_mem _ (List.mem_append_left _ (List.mem_append_left _ (List.mem_append_left _ (List.mem_append_left _ (List.mem_append_left _ (List.mem_append_left _ (List.mem_append_left _ (List.mem_append_right _ h))))))))
theorem mX10_init_22 : Cond.methodLink RX10 25 yX0_init ∈ wsX10_init := List.mem_of_getElem? (i := 28) (by decide +kernel)
theorem mX10_init_23 : Cond.instanceMethod yX0_init ∈ wsX10_init := List.mem_of_getElem? (i := 29) (by decide +kernel)
theorem mX10_init_24 : Cond.fieldLink RX10 26 RX10 (TX10 2).2.1 (TX10 2).2.2.1 ∈ wsX10_init := List.mem_of_getElem? (i := 15) (by decide +kernel)
theorem dsc_X10_init : yX10_init.cls ≠ "java/lang/invoke/MethodHandle" ∧ yX10_init.cls ≠ "java/lang/invoke/VarHandle" ∧ (parseMethodDescriptor yX10_init.desc).map (fun d => d.parameters.length) = some 0 := by decide +kernel
set_option maxHeartbeats 4000000 in
set_option maxRecDepth 100000 in
theorem kX10_init (l : Launch) : mn_C l yX10_init wsX10_init ({ frames := 3, cells := 187, slots := 4173, locals := 55 }) 1 188 187 4173 (fun z => [.ref (z + mm_ad 0 0)]) (fun μ ρ Po => zm_ μ ∧ ∀ μ1 ρ1, j3_ μ1 ρ1 → Po μ1 ρ1) := by
  refine jq_entry (cc := cX10_init) (nL := 1) (own := RX10) (plainFor_of_name (by decide)) rfl rfl rfl (fun _ => Nat.le_of_ble_eq_true rfl) ?_
  intro p e s m args below meth c D cy z μ ρ Po C hK h0 hX hr hlk hini h
  change jG p l e ({ frames := 3, cells := 187, slots := 4173, locals := 55 }) s m args below meth c (mm_B z) (MQ below (va_Qv (fun u : mm_T × mm_R => Po u.1 u.2) (fun u t => mn_P D cy z 188 u.1 u.2 t.heap) (mm_B z)) args s 187 4173 (mm_B z)) 1 0 0 (mn_P D cy z 1 μ ρ) 0 [(0, .ref (z + mm_ad 0 0))] []
  obtain ⟨hz0, h⟩ := h
  refine jg_aload_n (q := 1) C 0 dX10_init_0 rfl rfl rfl ?_
  refine jg_obj (q := 4) C mX10_init_0 mX10_init_1 mX10_init_2 (by decide) (Nat.le_of_ble_eq_true rfl) dX10_init_1 rfl ?_
  refine jg_aload_n (q := 5) C 0 dX10_init_4 rfl rfl rfl ?_
  refine jq_new (q := 8) (f := 1) (i := 0) (ci := 6) (Cn := RX6) (T := TX6) (N := 2) C hK h0 (by decide +kernel) rfl rfl rfl nX10_init_6 tyX6 tyX6_ok dv_6 mX10_init_3 mX10_init_4 mX10_init_5 (by decide) (by decide) dX10_init_5 rfl ?_
  refine jg_dup (q := 9) C dX10_init_8 rfl rfl ?_
  refine jq_call (q := 12) (As := []) (rest := [.ref (z + mm_ad 1 0), .ref (z + mm_ad 0 0)]) C hK h0 hX (kX6_init l) rfl gX10_init_X6_init rfl rfl mX10_init_7 mX10_init_8 mX10_init_5 dsc_X6_init ⟨rfl, rfl⟩ ⟨by decide, by decide⟩ rfl rfl (Nat.le_of_ble_eq_true rfl) dX10_init_9 rfl ⟨by decide, by decide⟩ (Ko := fun u9 r9 => u9 = (mm_Z (mm_Z μ 1 0) 2 0) ∧ r9 = (mr_W (mr_Z (mr_Z ρ 1 0) 2 0) 1 0 0 (mm_ad 2 0))) ⟨rfl, rfl⟩ (fun u r hu => ?_)
  obtain ⟨rfl, rfl⟩ := hu
  refine jq_putF (q := 15) (ci := 10) (Cn := RX10) (T := TX10) (N := 7) (j := 0) C hK h0 mf_0 (by decide) rfl rfl (by decide) rfl rfl hini rfl tyX10 tyX10_ok nmX10 rfl (tyX10_ok 0 (by decide)) rfl rfl nX10_init_10 mX10_init_10 dX10_init_12 rfl rfl ?_
  refine jg_aload_n (q := 16) C 0 dX10_init_15 rfl rfl rfl ?_
  refine jq_new (q := 19) (f := 3) (i := 0) (ci := 8) (Cn := RX8) (T := TX8) (N := 6) C hK h0 (by decide +kernel) rfl rfl rfl nX10_init_8 tyX8 tyX8_ok dv_8 mX10_init_11 mX10_init_12 mX10_init_13 (by decide) (by decide) dX10_init_16 rfl ?_
  refine jg_dup (q := 20) C dX10_init_19 rfl rfl ?_
  refine jq_call (q := 23) (As := []) (rest := [.ref (z + mm_ad 3 0), .ref (z + mm_ad 0 0)]) C hK h0 hX (kX8_init l) rfl gX10_init_X8_init rfl rfl mX10_init_15 mX10_init_16 mX10_init_13 dsc_X8_init ⟨rfl, rfl⟩ ⟨by decide, by decide⟩ rfl rfl (Nat.le_of_ble_eq_true rfl) dX10_init_20 rfl ⟨by decide, by decide⟩ (Ko := fun u9 r9 => u9 = (mg_μ (mm_Z (mm_Z (mm_Z μ 1 0) 2 0) 3 0)) ∧ r9 = (mr_W (mg_ρ (mr_Z (mr_W (mr_W (mr_Z (mr_Z ρ 1 0) 2 0) 1 0 0 (mm_ad 2 0)) 0 0 0 (mm_ad 1 0)) 3 0)) 3 0 0 (mm_ad 4 0))) ⟨rfl, rfl⟩ (fun u r hu => ?_)
  obtain ⟨rfl, rfl⟩ := hu
  refine jq_putF (q := 26) (ci := 10) (Cn := RX10) (T := TX10) (N := 7) (j := 1) C hK h0 mf_0 (by decide) rfl rfl (by decide) rfl rfl hini rfl tyX10 tyX10_ok nmX10 rfl (tyX10_ok 1 (by decide)) rfl rfl nX10_init_10 mX10_init_17 dX10_init_23 rfl rfl ?_
  refine jg_aload_n (q := 27) C 0 dX10_init_26 rfl rfl rfl ?_
  refine jq_new (q := 30) (f := 6) (i := 0) (ci := 0) (Cn := RX0) (T := TX0) (N := 11) C hK h0 (by decide +kernel) rfl rfl rfl nX10_init_0 tyX0 tyX0_ok dv_0 mX10_init_18 mX10_init_19 mX10_init_20 (by decide) (by decide) dX10_init_27 rfl ?_
  refine jg_dup (q := 31) C dX10_init_30 rfl rfl ?_
  refine jq_call (q := 34) (As := []) (rest := [.ref (z + mm_ad 6 0), .ref (z + mm_ad 0 0)]) C hK h0 hX (kX0_init l) rfl gX10_init_X0_init rfl rfl mX10_init_22 mX10_init_23 mX10_init_20 dsc_X0_init ⟨rfl, rfl⟩ ⟨by decide, by decide⟩ rfl rfl (Nat.le_of_ble_eq_true rfl) dX10_init_31 rfl ⟨by decide, by decide⟩ (Ko := fun u9 r9 => i3_ u9 r9 (mr_Z (mr_W (mr_W (mg_ρ (mr_Z (mr_W (mr_W (mr_Z (mr_Z ρ 1 0) 2 0) 1 0 0 (mm_ad 2 0)) 0 0 0 (mm_ad 1 0)) 3 0)) 3 0 0 (mm_ad 4 0)) 0 0 1 (mm_ad 3 0)) 6 0)) ⟨(zm_Z (zm_g (zm_Z (zm_Z (zm_Z hz0 1 0) 2 0) 3 0)) 6 0), fun μ1 ρ1 h9 => h9⟩ (fun uG rG hu => ?_)
  refine jq_putF (q := 37) (ci := 10) (Cn := RX10) (T := TX10) (N := 7) (j := 2) C hK h0 mf_0 (by decide) rfl rfl (by decide) rfl rfl hini rfl tyX10 tyX10_ok nmX10 rfl (tyX10_ok 2 (by decide)) rfl rfl nX10_init_10 mX10_init_24 dX10_init_34 rfl rfl ?_
  refine jq_vret C hK h0 hr hlk rfl dX10_init_37 (h _ _ ?_)
  obtain ⟨h1, h2, ⟨f0, f8, f7, f5, f6, f9, f10⟩, h4, h5, h6, h7, h8, h9, h10, h11, h12, h13, h14, h15⟩ := hu
  have i5 : ∀ a b c, a < 6 → (mr_W rG 0 0 2 (mm_ad 6 0)) a b c = (mr_W rG 0 0 2 (mm_ad 6 0)) a b c := fun _ _ _ _ => rfl
  refine ⟨⟨_, h1, i5, ?_, ?_, ?_, ?_, ?_, ?_, ?_, ?_, ?_, ?_, ?_, ?_, ?_⟩, ?_, ?_, ?_, ?_, ?_, ?_⟩
  · exact ⟨by simp [mr_Wr, f0], by simp [mr_Wr, f8], by simp [mr_Wr, f7], by simp [mr_Wr, f5], by simp [mr_Wr, f6], by simp [mr_Wr, f9], by simp [mr_Wr, f10]⟩
  · intro k hk; simp [mr_Wr, h4 k hk]
  · intro k hk; simp [mr_Wr, h5 k hk]
  · intro k hk; simp [mr_Wr, h6 k hk]
  · intro k hk; simp [mr_Wr, (h7 k hk).1, (h7 k hk).2]
  · simp [mr_Wr, h8]
  · simp [mr_Wr, h9]
  · simp [mr_Wr, h10]
  · simp [mr_Wr, h11]
  · simp [mr_Wr, h12]
  · simp [mr_Wr, h13]
  · simp [mr_Wr, h14]
  · simp [mr_Wr, h15]
  · rw [mr_Wr, if_neg (by decide), h2 0 0 0 (by decide)]; simp [mr_Wr, mr_Zr, mg_ρ]
  · rw [mr_Wr, if_neg (by decide), h2 0 0 1 (by decide)]; simp [mr_Wr, mr_Zr, mg_ρ]
  · simp [mr_Wr]
  · rw [mr_Wr, if_neg (by decide), h2 1 0 0 (by decide)]; simp [mr_Wr, mr_Zr, mg_ρ]
  · rw [mr_Wr, if_neg (by decide), h2 3 0 0 (by decide)]; simp [mr_Wr, mr_Zr, mg_ρ]
  · intro k hk; rw [mr_Wr, if_neg (by simp), h2 4 0 k (by decide)]; simp [mr_Wr, mr_Zr, mg_ρ, hk]
