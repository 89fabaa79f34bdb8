theorem mX10_letter_0 : Cond.constant RX10 30 (-1000002) ∈ wsX10_letter := List.mem_of_getElem? (i := 1) (by decide +kernel)
theorem nX10_letter_10 : ∀ w ∈ wsX100, w ∈ wsX10_letter := fun _ h => List.mem_cons_of_mem _ (List.mem_append_left _ (List.mem_append_right _ h))
theorem mX10_letter_2 : Cond.fieldLink RX10 12 RX10 (TX10 0).2.1 (TX10 0).2.2.1 ∈ wsX10_letter := List.mem_of_getElem? (i := 2) (by decide +kernel)
theorem nX10_letter_6 : ∀ w ∈ wsX60, w ∈ wsX10_letter := fun _ h => List.mem_cons_of_mem _ (List.mem_append_right _ h)
theorem mX10_letter_4 : Cond.fieldLink RX10 31 RX6 (TX6 1).2.1 (TX6 1).2.2.1 ∈ wsX10_letter := List.mem_of_getElem? (i := 3) (by decide +kernel)
theorem mX10_letter_5 : Cond.constant RX10 35 (-1000004) ∈ wsX10_letter := List.mem_of_getElem? (i := 4) (by decide +kernel)
theorem dsc_X10_letter : yX10_letter.cls ≠ "java/lang/invoke/MethodHandle" ∧ yX10_letter.cls ≠ "java/lang/invoke/VarHandle" ∧ (parseMethodDescriptor yX10_letter.desc).map (fun d => d.parameters.length) = some 1 := by decide +kernel
def pX10_letter (Po : Int32 → mm_T → Prop) (μ : mm_T) (p1 : Int32) : Prop := (p1 < (32 : Int32) → Po (-1000002 : Int32) μ) ∧ (¬ (p1 < (32 : Int32)) → (p1 ≤ (126 : Int32) → ((μ.1 1 0 1) < (110 : Int32) → pX6_add (fun μ1 => Po (μ1.1 1 0 1) μ1) μ p1) ∧ (¬ ((μ.1 1 0 1) < (110 : Int32)) → Po (-1000004 : Int32) μ)) ∧ (¬ (p1 ≤ (126 : Int32)) → Po (-1000002 : Int32) μ))
set_option maxHeartbeats 4000000 in
set_option maxRecDepth 100000 in
theorem kX10_letter (l : Launch) (p1 : Int32) : mm_CI l yX10_letter wsX10_letter ({ frames := 1, cells := 0, slots := 0, locals := 21 }) (fun z => [.ref (z + mm_ad 0 0), .int p1]) (fun μ Po => pX10_letter Po μ p1) := by
  refine je_I (cc := cX10_letter) (nL := 2) (own := RX10) (plainFor_of_name (by decide)) rfl rfl (fun _ => Nat.le_of_ble_eq_true rfl) ?_
  intro p e s m args below meth c D cy z μ Po C hr hk h
  change jJ p l e ({ frames := 1, cells := 0, slots := 0, locals := 21 }) s m args below meth c D cy z (MQ below (va_Qi Po (mm_Po D cy z) (mm_A z)) args s 0 0 (mm_A z)) 2 μ 0 [(0, .ref (z + mm_ad 0 0)), (1, .int p1)] []
  replace h : pX10_letter Po μ p1 := h
  unfold pX10_letter at h
  refine jr_iload_n (q := 1) C 1 dX10_letter_0 rfl rfl rfl ?_
  refine jr_bipush (q := 3) (v := (32 : Int32)) C dX10_letter_1 (by decide) rfl ?_
  refine jr_icmp_lt (q := 6) (tgt := 12) C dX10_letter_3 (by decide) rfl (fun c4 => ?_) (fun c4 => ?_)
  · replace h := h.1 c4
    refine jr_ldc (q := 14) (v := (-1000002 : Int32)) C dX10_letter_12 mX10_letter_0 rfl ?_
    exact jr_iret C hr hk dX10_letter_14 h
  · replace h := h.2 c4
    refine jr_iload_n (q := 7) C 1 dX10_letter_6 rfl rfl rfl ?_
    refine jr_bipush (q := 9) (v := (126 : Int32)) C dX10_letter_7 (by decide) rfl ?_
    refine jr_icmp_le (q := 12) (tgt := 15) C dX10_letter_9 (by decide) rfl (fun c3 => ?_) (fun c3 => ?_)
    · replace h := h.1 c3
      refine jr_aload_n (q := 16) C 0 dX10_letter_15 rfl rfl rfl ?_
      refine jr_getR (q := 19) (ci := 10) (Cn := RX10) (T := TX10) (N := 7) (j := 0) C mf_0 rfl rfl (by decide) rfl 1 0 rfl rfl rfl nX10_letter_10 mX10_letter_2 dX10_letter_16 rfl rfl ?_
      refine jr_getI (q := 22) (ci := 6) (Cn := RX6) (T := TX6) (N := 2) (j := 1) C mf_1 rfl rfl (by decide) rfl rfl nX10_letter_6 mX10_letter_4 dX10_letter_19 rfl rfl ?_
      refine jr_bipush (q := 24) (v := (110 : Int32)) C dX10_letter_22 (by decide) rfl ?_
      refine jr_icmp_lt (q := 27) (tgt := 30) C dX10_letter_24 (by decide) rfl (fun c2 => ?_) (fun c2 => ?_)
      · replace h := h.1 c2
        refine jr_aload_n (q := 31) C 0 dX10_letter_30 rfl rfl rfl ?_
        refine jr_getR (q := 34) (ci := 10) (Cn := RX10) (T := TX10) (N := 7) (j := 0) C mf_0 rfl rfl (by decide) rfl 1 0 rfl rfl rfl nX10_letter_10 mX10_letter_2 dX10_letter_31 rfl rfl ?_
        refine jr_iload_n (q := 35) C 1 dX10_letter_34 rfl rfl rfl ?_
        refine jr_cvV (q := 38) (As := [.int p1]) (rest := []) C (f := 1) (i := 0) (ci := 6) mf_1 rfl rfl rfl (kX6_add l p1) rfl gX10_letter_X6_add rfl dsc_X6_add ⟨rfl, rfl⟩ ⟨by decide, by decide⟩ rfl rfl (Nat.le_of_ble_eq_true rfl) dX10_letter_35 rfl h (fun μ1 h => ?_)
        refine jr_aload_n (q := 39) C 0 dX10_letter_38 rfl rfl rfl ?_
        refine jr_getR (q := 42) (ci := 10) (Cn := RX10) (T := TX10) (N := 7) (j := 0) C mf_0 rfl rfl (by decide) rfl 1 0 rfl rfl rfl nX10_letter_10 mX10_letter_2 dX10_letter_39 rfl rfl ?_
        refine jr_getI (q := 45) (ci := 6) (Cn := RX6) (T := TX6) (N := 2) (j := 1) C mf_1 rfl rfl (by decide) rfl rfl nX10_letter_6 mX10_letter_4 dX10_letter_42 rfl rfl ?_
        exact jr_iret C hr hk dX10_letter_45 h
      · replace h := h.2 c2
        refine jr_ldc (q := 29) (v := (-1000004 : Int32)) C dX10_letter_27 mX10_letter_5 rfl ?_
        exact jr_iret C hr hk dX10_letter_29 h
    · replace h := h.2 c3
      refine jr_ldc (q := 14) (v := (-1000002 : Int32)) C dX10_letter_12 mX10_letter_0 rfl ?_
      exact jr_iret C hr hk dX10_letter_14 h
theorem nX10_blank_10 : ∀ w ∈ wsX100, w ∈ wsX10_blank := fun _ h => List.mem_cons_of_mem _ (List.mem_append_left _ (List.mem_append_right _ h))
theorem mX10_blank_1 : Cond.fieldLink RX10 12 RX10 (TX10 0).2.1 (TX10 0).2.2.1 ∈ wsX10_blank := List.mem_of_getElem? (i := 1) (by decide +kernel)
theorem nX10_blank_6 : ∀ w ∈ wsX60, w ∈ wsX10_blank := fun _ h => List.mem_cons_of_mem _ (List.mem_append_right _ h)
theorem mX10_blank_3 : Cond.fieldLink RX10 31 RX6 (TX6 1).2.1 (TX6 1).2.2.1 ∈ wsX10_blank := List.mem_of_getElem? (i := 2) (by decide +kernel)
theorem dsc_X10_blank : yX10_blank.cls ≠ "java/lang/invoke/MethodHandle" ∧ yX10_blank.cls ≠ "java/lang/invoke/VarHandle" ∧ (parseMethodDescriptor yX10_blank.desc).map (fun d => d.parameters.length) = some 0 := by decide +kernel
def pX10_blank (Po : Int32 → mm_T → Prop) (μ : mm_T) : Prop := ∀ x1 : Int32, x1 = μ.1 1 0 1 → (pX6_clear (fun μ2 => Po x1 μ2) μ )
set_option maxHeartbeats 4000000 in
set_option maxRecDepth 100000 in
theorem kX10_blank (l : Launch) : mm_CI l yX10_blank wsX10_blank ({ frames := 1, cells := 0, slots := 0, locals := 20 }) (fun z => [.ref (z + mm_ad 0 0)]) (fun μ Po => pX10_blank Po μ) := by
  refine je_I (cc := cX10_blank) (nL := 2) (own := RX10) (plainFor_of_name (by decide)) rfl rfl (fun _ => Nat.le_of_ble_eq_true rfl) ?_
  intro p e s m args below meth c D cy z μ Po C hr hk h
  change jJ p l e ({ frames := 1, cells := 0, slots := 0, locals := 20 }) s m args below meth c D cy z (MQ below (va_Qi Po (mm_Po D cy z) (mm_A z)) args s 0 0 (mm_A z)) 2 μ 0 [(0, .ref (z + mm_ad 0 0))] []
  replace h : pX10_blank Po μ := h
  unfold pX10_blank at h
  refine jr_aload_n (q := 1) C 0 dX10_blank_0 rfl rfl rfl ?_
  refine jr_getR (q := 4) (ci := 10) (Cn := RX10) (T := TX10) (N := 7) (j := 0) C mf_0 rfl rfl (by decide) rfl 1 0 rfl rfl rfl nX10_blank_10 mX10_blank_1 dX10_blank_1 rfl rfl ?_
  refine jr_getI (q := 7) (ci := 6) (Cn := RX6) (T := TX6) (N := 2) (j := 1) C mf_1 rfl rfl (by decide) rfl rfl nX10_blank_6 mX10_blank_3 dX10_blank_4 rfl rfl ?_
  refine jn_int (fun x1 ex1 => ?_)
  replace h := h x1 ex1
  refine jr_istore_n (q := 8) (lv' := [(1, .int x1), (0, .ref (z + mm_ad 0 0))]) C dX10_blank_7 rfl (by decide) rfl rfl ?_
  refine jr_aload_n (q := 9) C 1 dX10_blank_8 rfl rfl rfl ?_
  refine jr_getR (q := 12) (ci := 10) (Cn := RX10) (T := TX10) (N := 7) (j := 0) C mf_0 rfl rfl (by decide) rfl 1 0 rfl rfl rfl nX10_blank_10 mX10_blank_1 dX10_blank_9 rfl rfl ?_
  refine jr_cvV (q := 15) (As := []) (rest := []) C (f := 1) (i := 0) (ci := 6) mf_1 rfl rfl rfl (kX6_clear l) rfl gX10_blank_X6_clear rfl dsc_X6_clear ⟨rfl, rfl⟩ ⟨by decide, by decide⟩ rfl rfl (Nat.le_of_ble_eq_true rfl) dX10_blank_12 rfl h (fun μ2 h => ?_)
  refine jr_iload_n (q := 16) C 0 dX10_blank_15 rfl rfl rfl ?_
  exact jr_iret C hr hk dX10_blank_16 h
theorem nX10_fault_10 : ∀ w ∈ wsX100, w ∈ wsX10_fault := fun _ h => List.mem_cons_of_mem _ (List.mem_append_left _ (List.mem_append_left _ (List.mem_append_right _ h)))
theorem mX10_fault_1 : Cond.fieldLink RX10 19 RX10 (TX10 1).2.1 (TX10 1).2.2.1 ∈ wsX10_fault := List.mem_of_getElem? (i := 1) (by decide +kernel)
theorem mX10_fault_2 : Cond.fieldLink RX10 12 RX10 (TX10 0).2.1 (TX10 0).2.2.1 ∈ wsX10_fault := List.mem_of_getElem? (i := 2) (by decide +kernel)
theorem dsc_X10_fault : yX10_fault.cls ≠ "java/lang/invoke/MethodHandle" ∧ yX10_fault.cls ≠ "java/lang/invoke/VarHandle" ∧ (parseMethodDescriptor yX10_fault.desc).map (fun d => d.parameters.length) = some 0 := by decide +kernel
def pX10_fault (Po : Int32 → mm_T → Prop) (μ : mm_T) : Prop := pX8_read (fun r2 μ1 => Po r2 μ1) μ 
set_option maxHeartbeats 4000000 in
set_option maxRecDepth 100000 in
theorem kX10_fault (l : Launch) : mm_CI l yX10_fault wsX10_fault ({ frames := 4, cells := 0, slots := 0, locals := 85 }) (fun z => [.ref (z + mm_ad 0 0)]) (fun μ Po => pX10_fault Po μ) := by
  refine je_I (cc := cX10_fault) (nL := 1) (own := RX10) (plainFor_of_name (by decide)) rfl rfl (fun _ => Nat.le_of_ble_eq_true rfl) ?_
  intro p e s m args below meth c D cy z μ Po C hr hk h
  change jJ p l e ({ frames := 4, cells := 0, slots := 0, locals := 85 }) s m args below meth c D cy z (MQ below (va_Qi Po (mm_Po D cy z) (mm_A z)) args s 0 0 (mm_A z)) 1 μ 0 [(0, .ref (z + mm_ad 0 0))] []
  replace h : pX10_fault Po μ := h
  unfold pX10_fault at h
  refine jr_aload_n (q := 1) C 0 dX10_fault_0 rfl rfl rfl ?_
  refine jr_getR (q := 4) (ci := 10) (Cn := RX10) (T := TX10) (N := 7) (j := 1) C mf_0 rfl rfl (by decide) rfl 3 0 rfl rfl rfl nX10_fault_10 mX10_fault_1 dX10_fault_1 rfl rfl ?_
  refine jr_aload_n (q := 5) C 0 dX10_fault_4 rfl rfl rfl ?_
  refine jr_getR (q := 8) (ci := 10) (Cn := RX10) (T := TX10) (N := 7) (j := 0) C mf_0 rfl rfl (by decide) rfl 1 0 rfl rfl rfl nX10_fault_10 mX10_fault_2 dX10_fault_5 rfl rfl ?_
  refine jr_cvI (q := 11) (As := [.ref (z + mm_ad 1 0)]) (rest := []) C (f := 3) (i := 0) (ci := 8) mf_3 rfl rfl rfl (kX8_read l) rfl gX10_fault_X8_read rfl dsc_X8_read ⟨rfl, rfl⟩ ⟨by decide, by decide⟩ rfl rfl (Nat.le_of_ble_eq_true rfl) dX10_fault_8 rfl h (fun r2 μ1 h => ?_)
  exact jr_iret C hr hk dX10_fault_11 h
theorem nX10_field_10 : ∀ w ∈ wsX100, w ∈ wsX10_field := fun _ h => List.mem_cons_of_mem _ (List.mem_append_left _ (List.mem_append_left _ (List.mem_append_left _ (List.mem_append_left _ (List.mem_append_left _ (List.mem_append_left _ (List.mem_append_left _ (List.mem_append_left _ (List.mem_append_right _ h)))))))))
theorem mX10_field_1 : Cond.fieldLink RX10 19 RX10 (TX10 1).2.1 (TX10 1).2.2.1 ∈ wsX10_field := List.mem_of_getElem? (i := 1) (by decide +kernel)
theorem mX10_field_2 : Cond.fieldLink RX10 12 RX10 (TX10 0).2.1 (TX10 0).2.2.1 ∈ wsX10_field := List.mem_of_getElem? (i := 2) (by decide +kernel)
theorem nX10_field_6 : ∀ w ∈ wsX60, w ∈ wsX10_field := fun _ h => List.mem_cons_of_mem _ (List.mem_append_left _ (List.mem_append_left _ (List.mem_append_left _ (List.mem_append_left _ (List.mem_append_left _ (List.mem_append_left _ (List.mem_append_left _ (List.mem_append_right _ h))))))))
theorem mX10_field_4 : Cond.fieldLink RX10 31 RX6 (TX6 1).2.1 (TX6 1).2.2.1 ∈ wsX10_field := List.mem_of_getElem? (i := 3) (by decide +kernel)
theorem mX10_field_5 : Cond.constant RX10 51 (-1000003) ∈ wsX10_field := List.mem_of_getElem? (i := 4) (by decide +kernel)
theorem mX10_field_6 : Cond.fieldLink RX10 26 RX10 (TX10 2).2.1 (TX10 2).2.2.1 ∈ wsX10_field := List.mem_of_getElem? (i := 5) (by decide +kernel)
theorem mX10_field_7 : Cond.fieldLink RX10 56 RX10 (TX10 5).2.1 (TX10 5).2.2.1 ∈ wsX10_field := List.mem_of_getElem? (i := 6) (by decide +kernel)
theorem nX10_field_0 : ∀ w ∈ wsX00, w ∈ wsX10_field := fun _ h => List.mem_cons_of_mem _ (List.mem_append_left _ (List.mem_append_left _ (List.mem_append_left _ (List.mem_append_left _ (List.mem_append_left _ (List.mem_append_left _ (List.mem_append_right _ h)))))))
theorem mX10_field_9 : Cond.fieldLink RX10 59 RX0 (TX0 1).2.1 (TX0 1).2.2.1 ∈ wsX10_field := List.mem_of_getElem? (i := 7) (by decide +kernel)
theorem dsc_X10_field : yX10_field.cls ≠ "java/lang/invoke/MethodHandle" ∧ yX10_field.cls ≠ "java/lang/invoke/VarHandle" ∧ (parseMethodDescriptor yX10_field.desc).map (fun d => d.parameters.length) = some 0 := by decide +kernel
def pX10_field_b26 (Po : Int32 → mm_T → Prop) (μ : mm_T) (as0 : Int32) : Prop := (as0 = 0 → Po (-1000003 : Int32) μ) ∧ (¬ (as0 = 0) → pX8_hasWholeField (fun r4 μ3 => (¬ r4 = 0 → pX0_takeOver (fun μ5 => pX6_clear (fun μ6 => ∀ μ7 : mm_T, μ7 = mm_I μ6 0 0 5 ((μ6.1 0 0 5) + (1 : Int32)) → (Po (μ7.1 6 0 1) μ7)) μ5 ) μ3 ) ∧ (r4 = 0 → Po (-1000003 : Int32) μ3)) μ )
def pX10_field (Po : Int32 → mm_T → Prop) (μ : mm_T) : Prop := pX8_read (fun r2 μ1 => (¬ r2 = (μ1.1 1 0 1) → pX10_field_b26 Po μ1 (0 : Int32)) ∧ (r2 = (μ1.1 1 0 1) → pX10_field_b26 Po μ1 (1 : Int32))) μ 
set_option maxHeartbeats 4000000 in
set_option maxRecDepth 100000 in
theorem kX10_field (l : Launch) : mm_CI l yX10_field wsX10_field ({ frames := 4, cells := 0, slots := 0, locals := 86 }) (fun z => [.ref (z + mm_ad 0 0)]) (fun μ Po => pX10_field Po μ) := by
  refine je_I (cc := cX10_field) (nL := 2) (own := RX10) (plainFor_of_name (by decide)) rfl rfl (fun _ => Nat.le_of_ble_eq_true rfl) ?_
  intro p e s m args below meth c D cy z μ Po C hr hk h
  change jJ p l e ({ frames := 4, cells := 0, slots := 0, locals := 86 }) s m args below meth c D cy z (MQ below (va_Qi Po (mm_Po D cy z) (mm_A z)) args s 0 0 (mm_A z)) 2 μ 0 [(0, .ref (z + mm_ad 0 0))] []
  replace h : pX10_field Po μ := h
  unfold pX10_field at h
  refine jr_aload_n (q := 1) C 0 dX10_field_0 rfl rfl rfl ?_
  refine jr_getR (q := 4) (ci := 10) (Cn := RX10) (T := TX10) (N := 7) (j := 1) C mf_0 rfl rfl (by decide) rfl 3 0 rfl rfl rfl nX10_field_10 mX10_field_1 dX10_field_1 rfl rfl ?_
  refine jr_aload_n (q := 5) C 0 dX10_field_4 rfl rfl rfl ?_
  refine jr_getR (q := 8) (ci := 10) (Cn := RX10) (T := TX10) (N := 7) (j := 0) C mf_0 rfl rfl (by decide) rfl 1 0 rfl rfl rfl nX10_field_10 mX10_field_2 dX10_field_5 rfl rfl ?_
  refine jr_cvI (q := 11) (As := [.ref (z + mm_ad 1 0)]) (rest := []) C (f := 3) (i := 0) (ci := 8) mf_3 rfl rfl rfl (kX8_read l) rfl gX10_field_X8_read rfl dsc_X8_read ⟨rfl, rfl⟩ ⟨by decide, by decide⟩ rfl rfl (Nat.le_of_ble_eq_true rfl) dX10_field_8 rfl h (fun r2 μ1 h => ?_)
  refine jr_aload_n (q := 12) C 0 dX10_field_11 rfl rfl rfl ?_
  refine jr_getR (q := 15) (ci := 10) (Cn := RX10) (T := TX10) (N := 7) (j := 0) C mf_0 rfl rfl (by decide) rfl 1 0 rfl rfl rfl nX10_field_10 mX10_field_2 dX10_field_12 rfl rfl ?_
  refine jr_getI (q := 18) (ci := 6) (Cn := RX6) (T := TX6) (N := 2) (j := 1) C mf_1 rfl rfl (by decide) rfl rfl nX10_field_6 mX10_field_4 dX10_field_15 rfl rfl ?_
  have b26 : ∀ (μ : mm_T) (as0 : Int32), pX10_field_b26 Po μ as0 → jJ p l e ({ frames := 4, cells := 0, slots := 0, locals := 86 }) s m args below meth c D cy z (MQ below (va_Qi Po (mm_Po D cy z) (mm_A z)) args s 0 0 (mm_A z)) 2 μ 26 [(0, .ref (z + mm_ad 0 0))] [.int as0] := by
    intro μ as0 h
    unfold pX10_field_b26 at h
    refine jr_istore_n (q := 27) (lv' := [(1, .int as0), (0, .ref (z + mm_ad 0 0))]) C dX10_field_26 rfl (by decide) rfl rfl ?_
    refine jr_iload_n (q := 28) C 0 dX10_field_27 rfl rfl rfl ?_
    refine jr_if_eq (q := 31) (tgt := 41) C dX10_field_28 (by decide) rfl (fun c9 => ?_) (fun c9 => ?_)
    · replace h := h.1 c9
      refine jr_ldc (q := 43) (v := (-1000003 : Int32)) C dX10_field_41 mX10_field_5 rfl ?_
      exact jr_iret C hr hk dX10_field_43 h
    · replace h := h.2 c9
      refine jr_aload_n (q := 32) C 1 dX10_field_31 rfl rfl rfl ?_
      refine jr_getR (q := 35) (ci := 10) (Cn := RX10) (T := TX10) (N := 7) (j := 1) C mf_0 rfl rfl (by decide) rfl 3 0 rfl rfl rfl nX10_field_10 mX10_field_1 dX10_field_32 rfl rfl ?_
      refine jr_cvI (q := 38) (As := []) (rest := []) C (f := 3) (i := 0) (ci := 8) mf_3 rfl rfl rfl (kX8_hasWholeField l) rfl gX10_field_X8_hasWholeField rfl dsc_X8_hasWholeField ⟨rfl, rfl⟩ ⟨by decide, by decide⟩ rfl rfl (Nat.le_of_ble_eq_true rfl) dX10_field_35 rfl h (fun r4 μ3 h => ?_)
      refine jr_if_ne (q := 41) (tgt := 44) C dX10_field_38 (by decide) rfl (fun c8 => ?_) (fun c8 => ?_)
      · replace h := h.1 c8
        refine jr_aload_n (q := 45) C 1 dX10_field_44 rfl rfl rfl ?_
        refine jr_getR (q := 48) (ci := 10) (Cn := RX10) (T := TX10) (N := 7) (j := 2) C mf_0 rfl rfl (by decide) rfl 6 0 rfl rfl rfl nX10_field_10 mX10_field_6 dX10_field_45 rfl rfl ?_
        refine jr_aload_n (q := 49) C 1 dX10_field_48 rfl rfl rfl ?_
        refine jr_getR (q := 52) (ci := 10) (Cn := RX10) (T := TX10) (N := 7) (j := 1) C mf_0 rfl rfl (by decide) rfl 3 0 rfl rfl rfl nX10_field_10 mX10_field_1 dX10_field_49 rfl rfl ?_
        refine jr_cvV (q := 55) (As := [.ref (z + mm_ad 3 0)]) (rest := []) C (f := 6) (i := 0) (ci := 0) mf_6 rfl rfl rfl (kX0_takeOver l) rfl gX10_field_X0_takeOver rfl dsc_X0_takeOver ⟨rfl, rfl⟩ ⟨by decide, by decide⟩ rfl rfl (Nat.le_of_ble_eq_true rfl) dX10_field_52 rfl h (fun μ5 h => ?_)
        refine jr_aload_n (q := 56) C 1 dX10_field_55 rfl rfl rfl ?_
        refine jr_getR (q := 59) (ci := 10) (Cn := RX10) (T := TX10) (N := 7) (j := 0) C mf_0 rfl rfl (by decide) rfl 1 0 rfl rfl rfl nX10_field_10 mX10_field_2 dX10_field_56 rfl rfl ?_
        refine jr_cvV (q := 62) (As := []) (rest := []) C (f := 1) (i := 0) (ci := 6) mf_1 rfl rfl rfl (kX6_clear l) rfl gX10_field_X6_clear rfl dsc_X6_clear ⟨rfl, rfl⟩ ⟨by decide, by decide⟩ rfl rfl (Nat.le_of_ble_eq_true rfl) dX10_field_59 rfl h (fun μ6 h => ?_)
        refine jr_aload_n (q := 63) C 1 dX10_field_62 rfl rfl rfl ?_
        refine jr_dup (q := 64) C dX10_field_63 rfl rfl ?_
        refine jr_getI (q := 67) (ci := 10) (Cn := RX10) (T := TX10) (N := 7) (j := 5) C mf_0 rfl rfl (by decide) rfl rfl nX10_field_10 mX10_field_7 dX10_field_64 rfl rfl ?_
        refine jr_iconst (q := 68) (v := (1 : Int32)) C dX10_field_67 (by decide) rfl ?_
        refine jr_iadd (q := 69) C dX10_field_68 rfl ?_
        refine jr_putI (q := 72) (ci := 10) (Cn := RX10) (T := TX10) (N := 7) (j := 5) C mf_0 rfl rfl (by decide) rfl rfl tyX10 tyX10_ok nmX10 rfl (by decide +kernel) nX10_field_10 mX10_field_7 dX10_field_69 rfl rfl ?_
        refine jn_mem (fun μ7 eμ7 => ?_)
        replace h := h μ7 eμ7
        refine jr_aload_n (q := 73) C 1 dX10_field_72 rfl rfl rfl ?_
        refine jr_getR (q := 76) (ci := 10) (Cn := RX10) (T := TX10) (N := 7) (j := 2) C mf_0 rfl rfl (by decide) rfl 6 0 rfl rfl rfl nX10_field_10 mX10_field_6 dX10_field_73 rfl rfl ?_
        refine jr_getI (q := 79) (ci := 0) (Cn := RX0) (T := TX0) (N := 11) (j := 1) C mf_6 rfl rfl (by decide) rfl rfl nX10_field_0 mX10_field_9 dX10_field_76 rfl rfl ?_
        exact jr_iret C hr hk dX10_field_79 h
      · replace h := h.2 c8
        refine jr_ldc (q := 43) (v := (-1000003 : Int32)) C dX10_field_41 mX10_field_5 rfl ?_
        exact jr_iret C hr hk dX10_field_43 h
  refine jr_icmp_ne (q := 21) (tgt := 25) C dX10_field_18 (by decide) rfl (fun c10 => ?_) (fun c10 => ?_)
  · replace h := h.1 c10
    refine jr_iconst (q := 26) (v := (0 : Int32)) C dX10_field_25 (by decide) rfl ?_
    refine jr_sub [0] rfl ?_
    exact b26 _ _ h
  · replace h := h.2 c10
    refine jr_iconst (q := 22) (v := (1 : Int32)) C dX10_field_21 (by decide) rfl ?_
    refine jr_goto (tgt := 26) C dX10_field_22 (by decide) ?_
    refine jr_sub [0] rfl ?_
    exact b26 _ _ h
theorem nX10_node_10 : ∀ w ∈ wsX100, w ∈ wsX10_node := fun _ h => List.mem_cons_of_mem _ (List.mem_append_left _ (List.mem_append_left _ (List.mem_append_right _ h)))
theorem mX10_node_1 : Cond.fieldLink RX10 26 RX10 (TX10 2).2.1 (TX10 2).2.2.1 ∈ wsX10_node := List.mem_of_getElem? (i := 1) (by decide +kernel)
theorem nX10_node_0 : ∀ w ∈ wsX00, w ∈ wsX10_node := fun _ h => List.mem_cons_of_mem _ (List.mem_append_left _ (List.mem_append_right _ h))
theorem mX10_node_3 : Cond.fieldLink RX10 65 RX0 (TX0 0).2.1 (TX0 0).2.2.1 ∈ wsX10_node := List.mem_of_getElem? (i := 3) (by decide +kernel)
theorem mX10_node_4 : Cond.fieldLink RX10 69 RX0 (TX0 2).2.1 (TX0 2).2.2.1 ∈ wsX10_node := List.mem_of_getElem? (i := 4) (by decide +kernel)
theorem mX10_node_5 : Cond.constant RX10 64 (-1000001) ∈ wsX10_node := List.mem_of_getElem? (i := 2) (by decide +kernel)
theorem dsc_X10_node : yX10_node.cls ≠ "java/lang/invoke/MethodHandle" ∧ yX10_node.cls ≠ "java/lang/invoke/VarHandle" ∧ (parseMethodDescriptor yX10_node.desc).map (fun d => d.parameters.length) = some 2 := by decide +kernel
def pX10_node (Po : Int32 → mm_T → Prop) (μ : mm_T) (p1 : Int32) (p2 : Int32) : Prop := pX0_has (fun r2 μ1 => (¬ r2 = 0 → (vp_in p1 7) ∧ (pX5_tell (fun r5 μ4 => Po r5 μ4) μ1 p1.toNatClampNeg p2 (μ1.2 6 0 2))) ∧ (r2 = 0 → Po (-1000001 : Int32) μ1)) μ p1
set_option maxHeartbeats 4000000 in
set_option maxRecDepth 100000 in
theorem kX10_node (l : Launch) (p1 : Int32) (p2 : Int32) : mm_CI l yX10_node wsX10_node ({ frames := 3, cells := 0, slots := 0, locals := 70 }) (fun z => [.ref (z + mm_ad 0 0), .int p1, .int p2]) (fun μ Po => pX10_node Po μ p1 p2) := by
  refine je_I (cc := cX10_node) (nL := 3) (own := RX10) (plainFor_of_name (by decide)) rfl rfl (fun _ => Nat.le_of_ble_eq_true rfl) ?_
  intro p e s m args below meth c D cy z μ Po C hr hk h
  change jJ p l e ({ frames := 3, cells := 0, slots := 0, locals := 70 }) s m args below meth c D cy z (MQ below (va_Qi Po (mm_Po D cy z) (mm_A z)) args s 0 0 (mm_A z)) 3 μ 0 [(0, .ref (z + mm_ad 0 0)), (1, .int p1), (2, .int p2)] []
  replace h : pX10_node Po μ p1 p2 := h
  unfold pX10_node at h
  refine jr_aload_n (q := 1) C 0 dX10_node_0 rfl rfl rfl ?_
  refine jr_getR (q := 4) (ci := 10) (Cn := RX10) (T := TX10) (N := 7) (j := 2) C mf_0 rfl rfl (by decide) rfl 6 0 rfl rfl rfl nX10_node_10 mX10_node_1 dX10_node_1 rfl rfl ?_
  refine jr_iload_n (q := 5) C 1 dX10_node_4 rfl rfl rfl ?_
  refine jr_cvI (q := 8) (As := [.int p1]) (rest := []) C (f := 6) (i := 0) (ci := 0) mf_6 rfl rfl rfl (kX0_has l p1) rfl gX10_node_X0_has rfl dsc_X0_has ⟨rfl, rfl⟩ ⟨by decide, by decide⟩ rfl rfl (Nat.le_of_ble_eq_true rfl) dX10_node_5 rfl h (fun r2 μ1 h => ?_)
  refine jr_if_ne (q := 11) (tgt := 14) C dX10_node_8 (by decide) rfl (fun c6 => ?_) (fun c6 => ?_)
  · replace h := h.1 c6
    refine jr_aload_n (q := 15) C 0 dX10_node_14 rfl rfl rfl ?_
    refine jr_getR (q := 18) (ci := 10) (Cn := RX10) (T := TX10) (N := 7) (j := 2) C mf_0 rfl rfl (by decide) rfl 6 0 rfl rfl rfl nX10_node_10 mX10_node_1 dX10_node_15 rfl rfl ?_
    refine jr_getR (q := 21) (ci := 0) (Cn := RX0) (T := TX0) (N := 11) (j := 0) C mf_6 rfl rfl (by decide) rfl 7 0 rfl rfl rfl nX10_node_0 mX10_node_3 dX10_node_18 rfl rfl ?_
    refine jr_iload_n (q := 22) C 1 dX10_node_21 rfl rfl rfl ?_
    obtain ⟨g3, h⟩ := h
    refine jr_aald (q := 23) (t := 1) C mf_7 9 (fun _ => rfl) (fun _ _ => rfl) rfl (by decide) g3 dX10_node_22 rfl ?_
    refine jr_iload_n (q := 24) C 2 dX10_node_23 rfl rfl rfl ?_
    refine jr_aload_n (q := 25) C 0 dX10_node_24 rfl rfl rfl ?_
    refine jr_getR (q := 28) (ci := 10) (Cn := RX10) (T := TX10) (N := 7) (j := 2) C mf_0 rfl rfl (by decide) rfl 6 0 rfl rfl rfl nX10_node_10 mX10_node_1 dX10_node_25 rfl rfl ?_
    refine jr_getL (q := 31) (ci := 0) (Cn := RX0) (T := TX0) (N := 11) (j := 2) C mf_6 rfl rfl (by decide) rfl rfl nX10_node_0 mX10_node_4 dX10_node_28 rfl rfl ?_
    refine jr_cvI (q := 34) (As := [.int p2, .long (μ1.2 6 0 2)]) (rest := []) C (f := 9) (i := p1.toNatClampNeg) (ci := 5) (mm_lt g3) rfl rfl rfl (kX5_tell l p1.toNatClampNeg p2 (μ1.2 6 0 2)) rfl gX10_node_X5_tell rfl dsc_X5_tell ⟨rfl, rfl⟩ ⟨by decide, by decide⟩ rfl rfl (Nat.le_of_ble_eq_true rfl) dX10_node_31 rfl h (fun r5 μ4 h => ?_)
    exact jr_iret C hr hk dX10_node_34 h
  · replace h := h.2 c6
    refine jr_ldc (q := 13) (v := (-1000001 : Int32)) C dX10_node_11 mX10_node_5 rfl ?_
    exact jr_iret C hr hk dX10_node_13 h
theorem nX10_flight_10 : ∀ w ∈ wsX100, w ∈ wsX10_flight := fun _ h => List.mem_cons_of_mem _ (List.mem_append_left _ (List.mem_append_left _ (List.mem_append_left _ (List.mem_append_right _ h))))
theorem mX10_flight_1 : Cond.fieldLink RX10 26 RX10 (TX10 2).2.1 (TX10 2).2.2.1 ∈ wsX10_flight := List.mem_of_getElem? (i := 1) (by decide +kernel)
theorem mX10_flight_2 : Cond.constant RX10 64 (-1000001) ∈ wsX10_flight := List.mem_of_getElem? (i := 2) (by decide +kernel)
theorem dsc_X10_flight : yX10_flight.cls ≠ "java/lang/invoke/MethodHandle" ∧ yX10_flight.cls ≠ "java/lang/invoke/VarHandle" ∧ (parseMethodDescriptor yX10_flight.desc).map (fun d => d.parameters.length) = some 2 := by decide +kernel
def pX10_flight (Po : Int32 → mm_T → Prop) (μ : mm_T) (p1 : Int32) (p2 : Int32) : Prop := pX0_has (fun r2 μ1 => (r2 = 0 → Po (-1000001 : Int32) μ1) ∧ (¬ (r2 = 0) → pX0_has (fun r4 μ3 => (¬ r4 = 0 → pX0_flightBetween (fun r6 μ5 => Po r6 μ5) μ3 p1 p2) ∧ (r4 = 0 → Po (-1000001 : Int32) μ3)) μ1 p2)) μ p1
set_option maxHeartbeats 4000000 in
set_option maxRecDepth 100000 in
theorem kX10_flight (l : Launch) (p1 : Int32) (p2 : Int32) : mm_CI l yX10_flight wsX10_flight ({ frames := 2, cells := 0, slots := 0, locals := 45 }) (fun z => [.ref (z + mm_ad 0 0), .int p1, .int p2]) (fun μ Po => pX10_flight Po μ p1 p2) := by
  refine je_I (cc := cX10_flight) (nL := 3) (own := RX10) (plainFor_of_name (by decide)) rfl rfl (fun _ => Nat.le_of_ble_eq_true rfl) ?_
  intro p e s m args below meth c D cy z μ Po C hr hk h
  change jJ p l e ({ frames := 2, cells := 0, slots := 0, locals := 45 }) s m args below meth c D cy z (MQ below (va_Qi Po (mm_Po D cy z) (mm_A z)) args s 0 0 (mm_A z)) 3 μ 0 [(0, .ref (z + mm_ad 0 0)), (1, .int p1), (2, .int p2)] []
  replace h : pX10_flight Po μ p1 p2 := h
  unfold pX10_flight at h
  refine jr_aload_n (q := 1) C 0 dX10_flight_0 rfl rfl rfl ?_
  refine jr_getR (q := 4) (ci := 10) (Cn := RX10) (T := TX10) (N := 7) (j := 2) C mf_0 rfl rfl (by decide) rfl 6 0 rfl rfl rfl nX10_flight_10 mX10_flight_1 dX10_flight_1 rfl rfl ?_
  refine jr_iload_n (q := 5) C 1 dX10_flight_4 rfl rfl rfl ?_
  refine jr_cvI (q := 8) (As := [.int p1]) (rest := []) C (f := 6) (i := 0) (ci := 0) mf_6 rfl rfl rfl (kX0_has l p1) rfl gX10_flight_X0_has rfl dsc_X0_has ⟨rfl, rfl⟩ ⟨by decide, by decide⟩ rfl rfl (Nat.le_of_ble_eq_true rfl) dX10_flight_5 rfl h (fun r2 μ1 h => ?_)
  refine jr_if_eq (q := 11) (tgt := 22) C dX10_flight_8 (by decide) rfl (fun c8 => ?_) (fun c8 => ?_)
  · replace h := h.1 c8
    refine jr_ldc (q := 24) (v := (-1000001 : Int32)) C dX10_flight_22 mX10_flight_2 rfl ?_
    exact jr_iret C hr hk dX10_flight_24 h
  · replace h := h.2 c8
    refine jr_aload_n (q := 12) C 0 dX10_flight_11 rfl rfl rfl ?_
    refine jr_getR (q := 15) (ci := 10) (Cn := RX10) (T := TX10) (N := 7) (j := 2) C mf_0 rfl rfl (by decide) rfl 6 0 rfl rfl rfl nX10_flight_10 mX10_flight_1 dX10_flight_12 rfl rfl ?_
    refine jr_iload_n (q := 16) C 2 dX10_flight_15 rfl rfl rfl ?_
    refine jr_cvI (q := 19) (As := [.int p2]) (rest := []) C (f := 6) (i := 0) (ci := 0) mf_6 rfl rfl rfl (kX0_has l p2) rfl gX10_flight_X0_has rfl dsc_X0_has ⟨rfl, rfl⟩ ⟨by decide, by decide⟩ rfl rfl (Nat.le_of_ble_eq_true rfl) dX10_flight_16 rfl h (fun r4 μ3 h => ?_)
    refine jr_if_ne (q := 22) (tgt := 25) C dX10_flight_19 (by decide) rfl (fun c7 => ?_) (fun c7 => ?_)
    · replace h := h.1 c7
      refine jr_aload_n (q := 26) C 0 dX10_flight_25 rfl rfl rfl ?_
      refine jr_getR (q := 29) (ci := 10) (Cn := RX10) (T := TX10) (N := 7) (j := 2) C mf_0 rfl rfl (by decide) rfl 6 0 rfl rfl rfl nX10_flight_10 mX10_flight_1 dX10_flight_26 rfl rfl ?_
      refine jr_iload_n (q := 30) C 1 dX10_flight_29 rfl rfl rfl ?_
      refine jr_iload_n (q := 31) C 2 dX10_flight_30 rfl rfl rfl ?_
      refine jr_cvI (q := 34) (As := [.int p1, .int p2]) (rest := []) C (f := 6) (i := 0) (ci := 0) mf_6 rfl rfl rfl (kX0_flightBetween l p1 p2) rfl gX10_flight_X0_flightBetween rfl dsc_X0_flightBetween ⟨rfl, rfl⟩ ⟨by decide, by decide⟩ rfl rfl (Nat.le_of_ble_eq_true rfl) dX10_flight_31 rfl h (fun r6 μ5 h => ?_)
      exact jr_iret C hr hk dX10_flight_34 h
    · replace h := h.2 c7
      refine jr_ldc (q := 24) (v := (-1000001 : Int32)) C dX10_flight_22 mX10_flight_2 rfl ?_
      exact jr_iret C hr hk dX10_flight_24 h
theorem nX10_clock_10 : ∀ w ∈ wsX100, w ∈ wsX10_clock := fun _ h => List.mem_cons_of_mem _ (List.mem_append_left _ (List.mem_append_left _ (List.mem_append_right _ h)))
theorem mX10_clock_1 : Cond.fieldLink RX10 26 RX10 (TX10 2).2.1 (TX10 2).2.2.1 ∈ wsX10_clock := List.mem_of_getElem? (i := 1) (by decide +kernel)
theorem mX10_clock_2 : Cond.constant RX10 30 (-1000002) ∈ wsX10_clock := List.mem_of_getElem? (i := 4) (by decide +kernel)
theorem mX10_clock_3 : Cond.constant RX10 83 (1000000) ∈ wsX10_clock := List.mem_of_getElem? (i := 3) (by decide +kernel)
theorem nX10_clock_0 : ∀ w ∈ wsX00, w ∈ wsX10_clock := fun _ h => List.mem_cons_of_mem _ (List.mem_append_left _ (List.mem_append_right _ h))
theorem mX10_clock_5 : Cond.fieldLink RX10 65 RX0 (TX0 0).2.1 (TX0 0).2.2.1 ∈ wsX10_clock := List.mem_of_getElem? (i := 5) (by decide +kernel)
theorem mX10_clock_6 : Cond.constant RX10 64 (-1000001) ∈ wsX10_clock := List.mem_of_getElem? (i := 2) (by decide +kernel)
theorem dsc_X10_clock : yX10_clock.cls ≠ "java/lang/invoke/MethodHandle" ∧ yX10_clock.cls ≠ "java/lang/invoke/VarHandle" ∧ (parseMethodDescriptor yX10_clock.desc).map (fun d => d.parameters.length) = some 2 := by decide +kernel
def pX10_clock (Po : Int32 → mm_T → Prop) (μ : mm_T) (p1 : Int32) (p2 : Int32) : Prop := pX0_has (fun r2 μ1 => (¬ r2 = 0 → (p2 < 0 → Po (-1000002 : Int32) μ1) ∧ (¬ (p2 < 0) → (p2 ≤ (1000000 : Int32) → (vp_in p1 7) ∧ (pX5_clockAt (fun r5 μ4 => Po r5.toInt32 μ4) μ1 p1.toNatClampNeg p2.toInt64)) ∧ (¬ (p2 ≤ (1000000 : Int32)) → Po (-1000002 : Int32) μ1))) ∧ (r2 = 0 → Po (-1000001 : Int32) μ1)) μ p1
set_option maxHeartbeats 4000000 in
set_option maxRecDepth 100000 in
theorem kX10_clock (l : Launch) (p1 : Int32) (p2 : Int32) : mm_CI l yX10_clock wsX10_clock ({ frames := 2, cells := 0, slots := 0, locals := 47 }) (fun z => [.ref (z + mm_ad 0 0), .int p1, .int p2]) (fun μ Po => pX10_clock Po μ p1 p2) := by
  refine je_I (cc := cX10_clock) (nL := 3) (own := RX10) (plainFor_of_name (by decide)) rfl rfl (fun _ => Nat.le_of_ble_eq_true rfl) ?_
  intro p e s m args below meth c D cy z μ Po C hr hk h
  change jJ p l e ({ frames := 2, cells := 0, slots := 0, locals := 47 }) s m args below meth c D cy z (MQ below (va_Qi Po (mm_Po D cy z) (mm_A z)) args s 0 0 (mm_A z)) 3 μ 0 [(0, .ref (z + mm_ad 0 0)), (1, .int p1), (2, .int p2)] []
  replace h : pX10_clock Po μ p1 p2 := h
  unfold pX10_clock at h
  refine jr_aload_n (q := 1) C 0 dX10_clock_0 rfl rfl rfl ?_
  refine jr_getR (q := 4) (ci := 10) (Cn := RX10) (T := TX10) (N := 7) (j := 2) C mf_0 rfl rfl (by decide) rfl 6 0 rfl rfl rfl nX10_clock_10 mX10_clock_1 dX10_clock_1 rfl rfl ?_
  refine jr_iload_n (q := 5) C 1 dX10_clock_4 rfl rfl rfl ?_
  refine jr_cvI (q := 8) (As := [.int p1]) (rest := []) C (f := 6) (i := 0) (ci := 0) mf_6 rfl rfl rfl (kX0_has l p1) rfl gX10_clock_X0_has rfl dsc_X0_has ⟨rfl, rfl⟩ ⟨by decide, by decide⟩ rfl rfl (Nat.le_of_ble_eq_true rfl) dX10_clock_5 rfl h (fun r2 μ1 h => ?_)
  refine jr_if_ne (q := 11) (tgt := 14) C dX10_clock_8 (by decide) rfl (fun c8 => ?_) (fun c8 => ?_)
  · replace h := h.1 c8
    refine jr_iload_n (q := 15) C 2 dX10_clock_14 rfl rfl rfl ?_
    refine jr_if_lt (q := 18) (tgt := 24) C dX10_clock_15 (by decide) rfl (fun c7 => ?_) (fun c7 => ?_)
    · replace h := h.1 c7
      refine jr_ldc (q := 26) (v := (-1000002 : Int32)) C dX10_clock_24 mX10_clock_2 rfl ?_
      exact jr_iret C hr hk dX10_clock_26 h
    · replace h := h.2 c7
      refine jr_iload_n (q := 19) C 2 dX10_clock_18 rfl rfl rfl ?_
      refine jr_ldc (q := 21) (v := (1000000 : Int32)) C dX10_clock_19 mX10_clock_3 rfl ?_
      refine jr_icmp_le (q := 24) (tgt := 27) C dX10_clock_21 (by decide) rfl (fun c6 => ?_) (fun c6 => ?_)
      · replace h := h.1 c6
        refine jr_aload_n (q := 28) C 0 dX10_clock_27 rfl rfl rfl ?_
        refine jr_getR (q := 31) (ci := 10) (Cn := RX10) (T := TX10) (N := 7) (j := 2) C mf_0 rfl rfl (by decide) rfl 6 0 rfl rfl rfl nX10_clock_10 mX10_clock_1 dX10_clock_28 rfl rfl ?_
        refine jr_getR (q := 34) (ci := 0) (Cn := RX0) (T := TX0) (N := 11) (j := 0) C mf_6 rfl rfl (by decide) rfl 7 0 rfl rfl rfl nX10_clock_0 mX10_clock_5 dX10_clock_31 rfl rfl ?_
        refine jr_iload_n (q := 35) C 1 dX10_clock_34 rfl rfl rfl ?_
        obtain ⟨g3, h⟩ := h
        refine jr_aald (q := 36) (t := 1) C mf_7 9 (fun _ => rfl) (fun _ _ => rfl) rfl (by decide) g3 dX10_clock_35 rfl ?_
        refine jr_iload_n (q := 37) C 2 dX10_clock_36 rfl rfl rfl ?_
        refine jr_i2l (q := 38) C dX10_clock_37 rfl ?_
        refine jr_cvL (q := 41) (As := [.long p2.toInt64]) (rest := []) C (f := 9) (i := p1.toNatClampNeg) (ci := 5) (mm_lt g3) rfl rfl rfl (kX5_clockAt l p1.toNatClampNeg p2.toInt64) rfl gX10_clock_X5_clockAt rfl dsc_X5_clockAt ⟨rfl, rfl⟩ ⟨by decide, by decide⟩ rfl rfl (Nat.le_of_ble_eq_true rfl) dX10_clock_38 rfl h (fun r5 μ4 h => ?_)
        refine jr_l2i (q := 42) C dX10_clock_41 rfl ?_
        exact jr_iret C hr hk dX10_clock_42 h
      · replace h := h.2 c6
        refine jr_ldc (q := 26) (v := (-1000002 : Int32)) C dX10_clock_24 mX10_clock_2 rfl ?_
        exact jr_iret C hr hk dX10_clock_26 h
  · replace h := h.2 c8
    refine jr_ldc (q := 13) (v := (-1000001 : Int32)) C dX10_clock_11 mX10_clock_6 rfl ?_
    exact jr_iret C hr hk dX10_clock_13 h
theorem nX10_delay_10 : ∀ w ∈ wsX100, w ∈ wsX10_delay := fun _ h => List.mem_cons_of_mem _ (List.mem_append_left _ (List.mem_append_left _ (List.mem_append_right _ h)))
theorem mX10_delay_1 : Cond.fieldLink RX10 26 RX10 (TX10 2).2.1 (TX10 2).2.2.1 ∈ wsX10_delay := List.mem_of_getElem? (i := 1) (by decide +kernel)
theorem mX10_delay_2 : Cond.constant RX10 30 (-1000002) ∈ wsX10_delay := List.mem_of_getElem? (i := 3) (by decide +kernel)
theorem nX10_delay_0 : ∀ w ∈ wsX00, w ∈ wsX10_delay := fun _ h => List.mem_cons_of_mem _ (List.mem_append_left _ (List.mem_append_right _ h))
theorem mX10_delay_4 : Cond.fieldLink RX10 65 RX0 (TX0 0).2.1 (TX0 0).2.2.1 ∈ wsX10_delay := List.mem_of_getElem? (i := 4) (by decide +kernel)
theorem nX10_delay_5 : ∀ w ∈ wsX50, w ∈ wsX10_delay := fun _ h => List.mem_cons_of_mem _ (List.mem_append_right _ h)
theorem mX10_delay_6 : Cond.fieldLink RX10 88 RX5 (TX5 5).2.1 (TX5 5).2.2.1 ∈ wsX10_delay := List.mem_of_getElem? (i := 5) (by decide +kernel)
theorem mX10_delay_7 : Cond.constant RX10 64 (-1000001) ∈ wsX10_delay := List.mem_of_getElem? (i := 2) (by decide +kernel)
theorem dsc_X10_delay : yX10_delay.cls ≠ "java/lang/invoke/MethodHandle" ∧ yX10_delay.cls ≠ "java/lang/invoke/VarHandle" ∧ (parseMethodDescriptor yX10_delay.desc).map (fun d => d.parameters.length) = some 2 := by decide +kernel
def pX10_delay (Po : Int32 → mm_T → Prop) (μ : mm_T) (p1 : Int32) (p2 : Int32) : Prop := pX0_has (fun r2 μ1 => (¬ r2 = 0 → (p2 < (10 : Int32) → Po (-1000002 : Int32) μ1) ∧ (¬ (p2 < (10 : Int32)) → (p2 ≤ (300 : Int32) → (vp_in p1 7) ∧ (∀ x4 : Int32, x4 = μ1.1 9 p1.toNatClampNeg 5 → ((vp_in p1 7) ∧ (∀ μ6 : mm_T, μ6 = mm_I μ1 9 p1.toNatClampNeg 5 p2 → (Po x4 μ6))))) ∧ (¬ (p2 ≤ (300 : Int32)) → Po (-1000002 : Int32) μ1))) ∧ (r2 = 0 → Po (-1000001 : Int32) μ1)) μ p1
set_option maxHeartbeats 4000000 in
set_option maxRecDepth 100000 in
theorem kX10_delay (l : Launch) (p1 : Int32) (p2 : Int32) : mm_CI l yX10_delay wsX10_delay ({ frames := 1, cells := 0, slots := 0, locals := 21 }) (fun z => [.ref (z + mm_ad 0 0), .int p1, .int p2]) (fun μ Po => pX10_delay Po μ p1 p2) := by
  refine je_I (cc := cX10_delay) (nL := 4) (own := RX10) (plainFor_of_name (by decide)) rfl rfl (fun _ => Nat.le_of_ble_eq_true rfl) ?_
  intro p e s m args below meth c D cy z μ Po C hr hk h
  change jJ p l e ({ frames := 1, cells := 0, slots := 0, locals := 21 }) s m args below meth c D cy z (MQ below (va_Qi Po (mm_Po D cy z) (mm_A z)) args s 0 0 (mm_A z)) 4 μ 0 [(0, .ref (z + mm_ad 0 0)), (1, .int p1), (2, .int p2)] []
  replace h : pX10_delay Po μ p1 p2 := h
  unfold pX10_delay at h
  refine jr_aload_n (q := 1) C 0 dX10_delay_0 rfl rfl rfl ?_
  refine jr_getR (q := 4) (ci := 10) (Cn := RX10) (T := TX10) (N := 7) (j := 2) C mf_0 rfl rfl (by decide) rfl 6 0 rfl rfl rfl nX10_delay_10 mX10_delay_1 dX10_delay_1 rfl rfl ?_
  refine jr_iload_n (q := 5) C 1 dX10_delay_4 rfl rfl rfl ?_
  refine jr_cvI (q := 8) (As := [.int p1]) (rest := []) C (f := 6) (i := 0) (ci := 0) mf_6 rfl rfl rfl (kX0_has l p1) rfl gX10_delay_X0_has rfl dsc_X0_has ⟨rfl, rfl⟩ ⟨by decide, by decide⟩ rfl rfl (Nat.le_of_ble_eq_true rfl) dX10_delay_5 rfl h (fun r2 μ1 h => ?_)
  refine jr_if_ne (q := 11) (tgt := 14) C dX10_delay_8 (by decide) rfl (fun c9 => ?_) (fun c9 => ?_)
  · replace h := h.1 c9
    refine jr_iload_n (q := 15) C 2 dX10_delay_14 rfl rfl rfl ?_
    refine jr_bipush (q := 17) (v := (10 : Int32)) C dX10_delay_15 (by decide) rfl ?_
    refine jr_icmp_lt (q := 20) (tgt := 27) C dX10_delay_17 (by decide) rfl (fun c8 => ?_) (fun c8 => ?_)
    · replace h := h.1 c8
      refine jr_ldc (q := 29) (v := (-1000002 : Int32)) C dX10_delay_27 mX10_delay_2 rfl ?_
      exact jr_iret C hr hk dX10_delay_29 h
    · replace h := h.2 c8
      refine jr_iload_n (q := 21) C 2 dX10_delay_20 rfl rfl rfl ?_
      refine jr_sipush (q := 24) (v := (300 : Int32)) C dX10_delay_21 (by decide) rfl ?_
      refine jr_icmp_le (q := 27) (tgt := 30) C dX10_delay_24 (by decide) rfl (fun c7 => ?_) (fun c7 => ?_)
      · replace h := h.1 c7
        refine jr_aload_n (q := 31) C 0 dX10_delay_30 rfl rfl rfl ?_
        refine jr_getR (q := 34) (ci := 10) (Cn := RX10) (T := TX10) (N := 7) (j := 2) C mf_0 rfl rfl (by decide) rfl 6 0 rfl rfl rfl nX10_delay_10 mX10_delay_1 dX10_delay_31 rfl rfl ?_
        refine jr_getR (q := 37) (ci := 0) (Cn := RX0) (T := TX0) (N := 11) (j := 0) C mf_6 rfl rfl (by decide) rfl 7 0 rfl rfl rfl nX10_delay_0 mX10_delay_4 dX10_delay_34 rfl rfl ?_
        refine jr_iload_n (q := 38) C 1 dX10_delay_37 rfl rfl rfl ?_
        obtain ⟨g3, h⟩ := h
        refine jr_aald (q := 39) (t := 1) C mf_7 9 (fun _ => rfl) (fun _ _ => rfl) rfl (by decide) g3 dX10_delay_38 rfl ?_
        refine jr_getI (q := 42) (ci := 5) (Cn := RX5) (T := TX5) (N := 8) (j := 5) C (mm_lt g3) rfl rfl (by decide) rfl rfl nX10_delay_5 mX10_delay_6 dX10_delay_39 rfl rfl ?_
        refine jn_int (fun x4 ex4 => ?_)
        replace h := h x4 ex4
        refine jr_istore_n (q := 43) (lv' := [(3, .int x4), (0, .ref (z + mm_ad 0 0)), (1, .int p1), (2, .int p2)]) C dX10_delay_42 rfl (by decide) rfl rfl ?_
        refine jr_aload_n (q := 44) C 1 dX10_delay_43 rfl rfl rfl ?_
        refine jr_getR (q := 47) (ci := 10) (Cn := RX10) (T := TX10) (N := 7) (j := 2) C mf_0 rfl rfl (by decide) rfl 6 0 rfl rfl rfl nX10_delay_10 mX10_delay_1 dX10_delay_44 rfl rfl ?_
        refine jr_getR (q := 50) (ci := 0) (Cn := RX0) (T := TX0) (N := 11) (j := 0) C mf_6 rfl rfl (by decide) rfl 7 0 rfl rfl rfl nX10_delay_0 mX10_delay_4 dX10_delay_47 rfl rfl ?_
        refine jr_iload_n (q := 51) C 2 dX10_delay_50 rfl rfl rfl ?_
        obtain ⟨g5, h⟩ := h
        refine jr_aald (q := 52) (t := 1) C mf_7 9 (fun _ => rfl) (fun _ _ => rfl) rfl (by decide) g5 dX10_delay_51 rfl ?_
        refine jr_iload_n (q := 53) C 3 dX10_delay_52 rfl rfl rfl ?_
        refine jr_putI (q := 56) (ci := 5) (Cn := RX5) (T := TX5) (N := 8) (j := 5) C (mm_lt g5) rfl rfl (by decide) rfl rfl tyX5 tyX5_ok nmX5 rfl (by decide +kernel) nX10_delay_5 mX10_delay_6 dX10_delay_53 rfl rfl ?_
        refine jn_mem (fun μ6 eμ6 => ?_)
        replace h := h μ6 eμ6
        refine jr_iload_n (q := 57) C 0 dX10_delay_56 rfl rfl rfl ?_
        exact jr_iret C hr hk dX10_delay_57 h
      · replace h := h.2 c7
        refine jr_ldc (q := 29) (v := (-1000002 : Int32)) C dX10_delay_27 mX10_delay_2 rfl ?_
        exact jr_iret C hr hk dX10_delay_29 h
  · replace h := h.2 c9
    refine jr_ldc (q := 13) (v := (-1000001 : Int32)) C dX10_delay_11 mX10_delay_7 rfl ?_
    exact jr_iret C hr hk dX10_delay_13 h
theorem nX10_path_10 : ∀ w ∈ wsX100, w ∈ wsX10_path := fun _ h => List.mem_cons_of_mem _ (List.mem_append_left _ (List.mem_append_left _ (List.mem_append_left _ (List.mem_append_right _ h))))
theorem mX10_path_1 : Cond.fieldLink RX10 26 RX10 (TX10 2).2.1 (TX10 2).2.2.1 ∈ wsX10_path := List.mem_of_getElem? (i := 1) (by decide +kernel)
theorem mX10_path_2 : Cond.constant RX10 30 (-1000002) ∈ wsX10_path := List.mem_of_getElem? (i := 3) (by decide +kernel)
theorem nX10_path_4 : ∀ w ∈ wsX40, w ∈ wsX10_path := fun _ h => List.mem_cons_of_mem _ (List.mem_append_left _ (List.mem_append_left _ (List.mem_append_right _ h)))
theorem mX10_path_4 : Cond.fieldLink RX10 99 RX4 (TX4 2).2.1 (TX4 2).2.2.1 ∈ wsX10_path := List.mem_of_getElem? (i := 4) (by decide +kernel)
theorem mX10_path_5 : Cond.constant RX10 35 (-1000004) ∈ wsX10_path := List.mem_of_getElem? (i := 5) (by decide +kernel)
theorem mX10_path_6 : Cond.constant RX10 64 (-1000001) ∈ wsX10_path := List.mem_of_getElem? (i := 2) (by decide +kernel)
theorem dsc_X10_path : yX10_path.cls ≠ "java/lang/invoke/MethodHandle" ∧ yX10_path.cls ≠ "java/lang/invoke/VarHandle" ∧ (parseMethodDescriptor yX10_path.desc).map (fun d => d.parameters.length) = some 4 := by decide +kernel
def pX10_path (Po : Int32 → mm_T → Prop) (μ : mm_T) (p1 : Int32) (p2 : Int32) (p3 : Int32) (p4 : Int32) : Prop := pX0_hasPair (fun r2 μ1 => (¬ r2 = 0 → (p3 < 0 → Po (-1000002 : Int32) μ1) ∧ (¬ (p3 < 0) → ((150 : Int32) < p3 → Po (-1000002 : Int32) μ1) ∧ (¬ ((150 : Int32) < p3) → (p4 < (1 : Int32) → Po (-1000002 : Int32) μ1) ∧ (¬ (p4 < (1 : Int32)) → (p4 ≤ (9 : Int32) → pX0_linkOf (fun r4 μ3 => (r4 < 49) ∧ (((μ3.1 12 r4 2) < (6 : Int32) → pX4_add (fun μ6 => Po (μ6.1 12 r4 2) μ6) μ3 r4 p3 p4) ∧ (¬ ((μ3.1 12 r4 2) < (6 : Int32)) → Po (-1000004 : Int32) μ3))) μ1 p1 p2) ∧ (¬ (p4 ≤ (9 : Int32)) → Po (-1000002 : Int32) μ1))))) ∧ (r2 = 0 → Po (-1000001 : Int32) μ1)) μ p1 p2
set_option maxHeartbeats 4000000 in
set_option maxRecDepth 100000 in
theorem kX10_path (l : Launch) (p1 : Int32) (p2 : Int32) (p3 : Int32) (p4 : Int32) : mm_CI l yX10_path wsX10_path ({ frames := 3, cells := 0, slots := 0, locals := 64 }) (fun z => [.ref (z + mm_ad 0 0), .int p1, .int p2, .int p3, .int p4]) (fun μ Po => pX10_path Po μ p1 p2 p3 p4) := by
  refine je_I (cc := cX10_path) (nL := 6) (own := RX10) (plainFor_of_name (by decide)) rfl rfl (fun _ => Nat.le_of_ble_eq_true rfl) ?_
  intro p e s m args below meth c D cy z μ Po C hr hk h
  change jJ p l e ({ frames := 3, cells := 0, slots := 0, locals := 64 }) s m args below meth c D cy z (MQ below (va_Qi Po (mm_Po D cy z) (mm_A z)) args s 0 0 (mm_A z)) 6 μ 0 [(0, .ref (z + mm_ad 0 0)), (1, .int p1), (2, .int p2), (3, .int p3), (4, .int p4)] []
  replace h : pX10_path Po μ p1 p2 p3 p4 := h
  unfold pX10_path at h
  refine jr_aload_n (q := 1) C 0 dX10_path_0 rfl rfl rfl ?_
  refine jr_getR (q := 4) (ci := 10) (Cn := RX10) (T := TX10) (N := 7) (j := 2) C mf_0 rfl rfl (by decide) rfl 6 0 rfl rfl rfl nX10_path_10 mX10_path_1 dX10_path_1 rfl rfl ?_
  refine jr_iload_n (q := 5) C 1 dX10_path_4 rfl rfl rfl ?_
  refine jr_iload_n (q := 6) C 2 dX10_path_5 rfl rfl rfl ?_
  refine jr_cvI (q := 9) (As := [.int p1, .int p2]) (rest := []) C (f := 6) (i := 0) (ci := 0) mf_6 rfl rfl rfl (kX0_hasPair l p1 p2) rfl gX10_path_X0_hasPair rfl dsc_X0_hasPair ⟨rfl, rfl⟩ ⟨by decide, by decide⟩ rfl rfl (Nat.le_of_ble_eq_true rfl) dX10_path_6 rfl h (fun r2 μ1 h => ?_)
  refine jr_if_ne (q := 12) (tgt := 15) C dX10_path_9 (by decide) rfl (fun c12 => ?_) (fun c12 => ?_)
  · replace h := h.1 c12
    refine jr_iload_n (q := 16) C 3 dX10_path_15 rfl rfl rfl ?_
    refine jr_if_lt (q := 19) (tgt := 39) C dX10_path_16 (by decide) rfl (fun c11 => ?_) (fun c11 => ?_)
    · replace h := h.1 c11
      refine jr_ldc (q := 41) (v := (-1000002 : Int32)) C dX10_path_39 mX10_path_2 rfl ?_
      exact jr_iret C hr hk dX10_path_41 h
    · replace h := h.2 c11
      refine jr_iload_n (q := 20) C 3 dX10_path_19 rfl rfl rfl ?_
      refine jr_sipush (q := 23) (v := (150 : Int32)) C dX10_path_20 (by decide) rfl ?_
      refine jr_icmp_gt (q := 26) (tgt := 39) C dX10_path_23 (by decide) rfl (fun c10 => ?_) (fun c10 => ?_)
      · replace h := h.1 c10
        refine jr_ldc (q := 41) (v := (-1000002 : Int32)) C dX10_path_39 mX10_path_2 rfl ?_
        exact jr_iret C hr hk dX10_path_41 h
      · replace h := h.2 c10
        refine jr_iload (q := 28) C 4 dX10_path_26 rfl rfl ?_
        refine jr_iconst (q := 29) (v := (1 : Int32)) C dX10_path_28 (by decide) rfl ?_
        refine jr_icmp_lt (q := 32) (tgt := 39) C dX10_path_29 (by decide) rfl (fun c9 => ?_) (fun c9 => ?_)
        · replace h := h.1 c9
          refine jr_ldc (q := 41) (v := (-1000002 : Int32)) C dX10_path_39 mX10_path_2 rfl ?_
          exact jr_iret C hr hk dX10_path_41 h
        · replace h := h.2 c9
          refine jr_iload (q := 34) C 4 dX10_path_32 rfl rfl ?_
          refine jr_bipush (q := 36) (v := (9 : Int32)) C dX10_path_34 (by decide) rfl ?_
          refine jr_icmp_le (q := 39) (tgt := 42) C dX10_path_36 (by decide) rfl (fun c8 => ?_) (fun c8 => ?_)
          · replace h := h.1 c8
            refine jr_aload_n (q := 43) C 0 dX10_path_42 rfl rfl rfl ?_
            refine jr_getR (q := 46) (ci := 10) (Cn := RX10) (T := TX10) (N := 7) (j := 2) C mf_0 rfl rfl (by decide) rfl 6 0 rfl rfl rfl nX10_path_10 mX10_path_1 dX10_path_43 rfl rfl ?_
            refine jr_iload_n (q := 47) C 1 dX10_path_46 rfl rfl rfl ?_
            refine jr_iload_n (q := 48) C 2 dX10_path_47 rfl rfl rfl ?_
            refine jr_cvR (q := 51) (f0 := 12) (As := [.int p1, .int p2]) (rest := []) C (f := 6) (i := 0) (ci := 0) mf_6 rfl rfl rfl (kX0_linkOf l p1 p2) rfl gX10_path_X0_linkOf rfl dsc_X0_linkOf ⟨rfl, rfl⟩ ⟨by decide, by decide⟩ rfl rfl (Nat.le_of_ble_eq_true rfl) dX10_path_48 rfl h (fun r4 μ3 h => ?_)
            refine jr_astore (q := 53) (lv' := [(5, .ref (z + mm_ad 12 r4)), (0, .ref (z + mm_ad 0 0)), (1, .int p1), (2, .int p2), (3, .int p3), (4, .int p4)]) C dX10_path_51 (by decide) rfl rfl ?_
            refine jr_aload (q := 55) C 0 dX10_path_53 rfl rfl ?_
            obtain ⟨g5, h⟩ := h
            refine jr_getI (q := 58) (ci := 4) (Cn := RX4) (T := TX4) (N := 5) (j := 2) C g5 rfl rfl (by decide) rfl rfl nX10_path_4 mX10_path_4 dX10_path_55 rfl rfl ?_
            refine jr_bipush (q := 60) (v := (6 : Int32)) C dX10_path_58 (by decide) rfl ?_
            refine jr_icmp_lt (q := 63) (tgt := 66) C dX10_path_60 (by decide) rfl (fun c7 => ?_) (fun c7 => ?_)
            · replace h := h.1 c7
              refine jr_aload (q := 68) C 0 dX10_path_66 rfl rfl ?_
              refine jr_iload_n (q := 69) C 4 dX10_path_68 rfl rfl rfl ?_
              refine jr_iload (q := 71) C 5 dX10_path_69 rfl rfl ?_
              refine jr_cvV (q := 74) (As := [.int p3, .int p4]) (rest := []) C (f := 12) (i := r4) (ci := 4) g5 rfl rfl rfl (kX4_add l r4 p3 p4) rfl gX10_path_X4_add rfl dsc_X4_add ⟨rfl, rfl⟩ ⟨by decide, by decide⟩ rfl rfl (Nat.le_of_ble_eq_true rfl) dX10_path_71 rfl h (fun μ6 h => ?_)
              refine jr_aload (q := 76) C 0 dX10_path_74 rfl rfl ?_
              refine jr_getI (q := 79) (ci := 4) (Cn := RX4) (T := TX4) (N := 5) (j := 2) C g5 rfl rfl (by decide) rfl rfl nX10_path_4 mX10_path_4 dX10_path_76 rfl rfl ?_
              exact jr_iret C hr hk dX10_path_79 h
            · replace h := h.2 c7
              refine jr_ldc (q := 65) (v := (-1000004 : Int32)) C dX10_path_63 mX10_path_5 rfl ?_
              exact jr_iret C hr hk dX10_path_65 h
          · replace h := h.2 c8
            refine jr_ldc (q := 41) (v := (-1000002 : Int32)) C dX10_path_39 mX10_path_2 rfl ?_
            exact jr_iret C hr hk dX10_path_41 h
  · replace h := h.2 c12
    refine jr_ldc (q := 14) (v := (-1000001 : Int32)) C dX10_path_12 mX10_path_6 rfl ?_
    exact jr_iret C hr hk dX10_path_14 h
theorem nX10_block_10 : ∀ w ∈ wsX100, w ∈ wsX10_block := fun _ h => List.mem_cons_of_mem _ (List.mem_append_left _ (List.mem_append_left _ (List.mem_append_left _ (List.mem_append_right _ h))))
theorem mX10_block_1 : Cond.fieldLink RX10 26 RX10 (TX10 2).2.1 (TX10 2).2.2.1 ∈ wsX10_block := List.mem_of_getElem? (i := 1) (by decide +kernel)
theorem nX10_block_4 : ∀ w ∈ wsX40, w ∈ wsX10_block := fun _ h => List.mem_cons_of_mem _ (List.mem_append_left _ (List.mem_append_left _ (List.mem_append_right _ h)))
theorem mX10_block_3 : Cond.fieldLink RX10 99 RX4 (TX4 2).2.1 (TX4 2).2.2.1 ∈ wsX10_block := List.mem_of_getElem? (i := 3) (by decide +kernel)
theorem mX10_block_4 : Cond.constant RX10 64 (-1000001) ∈ wsX10_block := List.mem_of_getElem? (i := 2) (by decide +kernel)
theorem dsc_X10_block : yX10_block.cls ≠ "java/lang/invoke/MethodHandle" ∧ yX10_block.cls ≠ "java/lang/invoke/VarHandle" ∧ (parseMethodDescriptor yX10_block.desc).map (fun d => d.parameters.length) = some 2 := by decide +kernel
def pX10_block (Po : Int32 → mm_T → Prop) (μ : mm_T) (p1 : Int32) (p2 : Int32) : Prop := pX0_hasPair (fun r2 μ1 => (¬ r2 = 0 → pX0_linkOf (fun r4 μ3 => (r4 < 49) ∧ (∀ x6 : Int32, x6 = μ3.1 12 r4 2 → (∀ μ7 : mm_T, μ7 = mm_I μ3 12 r4 2 (0 : Int32) → (Po x6 μ7)))) μ1 p1 p2) ∧ (r2 = 0 → Po (-1000001 : Int32) μ1)) μ p1 p2
set_option maxHeartbeats 4000000 in
set_option maxRecDepth 100000 in
theorem kX10_block (l : Launch) (p1 : Int32) (p2 : Int32) : mm_CI l yX10_block wsX10_block ({ frames := 3, cells := 0, slots := 0, locals := 64 }) (fun z => [.ref (z + mm_ad 0 0), .int p1, .int p2]) (fun μ Po => pX10_block Po μ p1 p2) := by
  refine je_I (cc := cX10_block) (nL := 5) (own := RX10) (plainFor_of_name (by decide)) rfl rfl (fun _ => Nat.le_of_ble_eq_true rfl) ?_
  intro p e s m args below meth c D cy z μ Po C hr hk h
  change jJ p l e ({ frames := 3, cells := 0, slots := 0, locals := 64 }) s m args below meth c D cy z (MQ below (va_Qi Po (mm_Po D cy z) (mm_A z)) args s 0 0 (mm_A z)) 5 μ 0 [(0, .ref (z + mm_ad 0 0)), (1, .int p1), (2, .int p2)] []
  replace h : pX10_block Po μ p1 p2 := h
  unfold pX10_block at h
  refine jr_aload_n (q := 1) C 0 dX10_block_0 rfl rfl rfl ?_
  refine jr_getR (q := 4) (ci := 10) (Cn := RX10) (T := TX10) (N := 7) (j := 2) C mf_0 rfl rfl (by decide) rfl 6 0 rfl rfl rfl nX10_block_10 mX10_block_1 dX10_block_1 rfl rfl ?_
  refine jr_iload_n (q := 5) C 1 dX10_block_4 rfl rfl rfl ?_
  refine jr_iload_n (q := 6) C 2 dX10_block_5 rfl rfl rfl ?_
  refine jr_cvI (q := 9) (As := [.int p1, .int p2]) (rest := []) C (f := 6) (i := 0) (ci := 0) mf_6 rfl rfl rfl (kX0_hasPair l p1 p2) rfl gX10_block_X0_hasPair rfl dsc_X0_hasPair ⟨rfl, rfl⟩ ⟨by decide, by decide⟩ rfl rfl (Nat.le_of_ble_eq_true rfl) dX10_block_6 rfl h (fun r2 μ1 h => ?_)
  refine jr_if_ne (q := 12) (tgt := 15) C dX10_block_9 (by decide) rfl (fun c8 => ?_) (fun c8 => ?_)
  · replace h := h.1 c8
    refine jr_aload_n (q := 16) C 0 dX10_block_15 rfl rfl rfl ?_
    refine jr_getR (q := 19) (ci := 10) (Cn := RX10) (T := TX10) (N := 7) (j := 2) C mf_0 rfl rfl (by decide) rfl 6 0 rfl rfl rfl nX10_block_10 mX10_block_1 dX10_block_16 rfl rfl ?_
    refine jr_iload_n (q := 20) C 1 dX10_block_19 rfl rfl rfl ?_
    refine jr_iload_n (q := 21) C 2 dX10_block_20 rfl rfl rfl ?_
    refine jr_cvR (q := 24) (f0 := 12) (As := [.int p1, .int p2]) (rest := []) C (f := 6) (i := 0) (ci := 0) mf_6 rfl rfl rfl (kX0_linkOf l p1 p2) rfl gX10_block_X0_linkOf rfl dsc_X0_linkOf ⟨rfl, rfl⟩ ⟨by decide, by decide⟩ rfl rfl (Nat.le_of_ble_eq_true rfl) dX10_block_21 rfl h (fun r4 μ3 h => ?_)
    refine jr_astore_n (q := 25) (lv' := [(3, .ref (z + mm_ad 12 r4)), (0, .ref (z + mm_ad 0 0)), (1, .int p1), (2, .int p2)]) C dX10_block_24 rfl (by decide) rfl rfl ?_
    refine jr_aload_n (q := 26) C 0 dX10_block_25 rfl rfl rfl ?_
    obtain ⟨g5, h⟩ := h
    refine jr_getI (q := 29) (ci := 4) (Cn := RX4) (T := TX4) (N := 5) (j := 2) C g5 rfl rfl (by decide) rfl rfl nX10_block_4 mX10_block_3 dX10_block_26 rfl rfl ?_
    refine jn_int (fun x6 ex6 => ?_)
    replace h := h x6 ex6
    refine jr_istore (q := 31) (lv' := [(4, .int x6), (3, .ref (z + mm_ad 12 r4)), (0, .ref (z + mm_ad 0 0)), (1, .int p1), (2, .int p2)]) C dX10_block_29 (by decide) rfl rfl ?_
    refine jr_aload_n (q := 32) C 1 dX10_block_31 rfl rfl rfl ?_
    refine jr_iconst (q := 33) (v := (0 : Int32)) C dX10_block_32 (by decide) rfl ?_
    refine jr_putI (q := 36) (ci := 4) (Cn := RX4) (T := TX4) (N := 5) (j := 2) C g5 rfl rfl (by decide) rfl rfl tyX4 tyX4_ok nmX4 rfl (by decide +kernel) nX10_block_4 mX10_block_3 dX10_block_33 rfl rfl ?_
    refine jn_mem (fun μ7 eμ7 => ?_)
    replace h := h μ7 eμ7
    refine jr_iload (q := 38) C 0 dX10_block_36 rfl rfl ?_
    exact jr_iret C hr hk dX10_block_38 h
  · replace h := h.2 c8
    refine jr_ldc (q := 14) (v := (-1000001 : Int32)) C dX10_block_12 mX10_block_4 rfl ?_
    exact jr_iret C hr hk dX10_block_14 h
theorem nX10_firstPath_10 : ∀ w ∈ wsX100, w ∈ wsX10_firstPath := fun _ h => List.mem_cons_of_mem _ (List.mem_append_left _ (List.mem_append_left _ (List.mem_append_left _ (List.mem_append_right _ h))))
theorem mX10_firstPath_1 : Cond.fieldLink RX10 26 RX10 (TX10 2).2.1 (TX10 2).2.2.1 ∈ wsX10_firstPath := List.mem_of_getElem? (i := 1) (by decide +kernel)
theorem nX10_firstPath_0 : ∀ w ∈ wsX00, w ∈ wsX10_firstPath := fun _ h => List.mem_cons_of_mem _ (List.mem_append_left _ (List.mem_append_left _ (List.mem_append_right _ h)))
theorem mX10_firstPath_3 : Cond.fieldLink RX10 107 RX0 (TX0 3).2.1 (TX0 3).2.2.1 ∈ wsX10_firstPath := List.mem_of_getElem? (i := 3) (by decide +kernel)
theorem mX10_firstPath_4 : Cond.constant RX10 64 (-1000001) ∈ wsX10_firstPath := List.mem_of_getElem? (i := 2) (by decide +kernel)
theorem dsc_X10_firstPath : yX10_firstPath.cls ≠ "java/lang/invoke/MethodHandle" ∧ yX10_firstPath.cls ≠ "java/lang/invoke/VarHandle" ∧ (parseMethodDescriptor yX10_firstPath.desc).map (fun d => d.parameters.length) = some 2 := by decide +kernel
def pX10_firstPath (Po : Int32 → mm_T → Prop) (μ : mm_T) (p1 : Int32) (p2 : Int32) : Prop := pX0_hasPair (fun r2 μ1 => (¬ r2 = 0 → pX0_linkOf (fun r4 μ3 => (r4 < 49) ∧ (pX4_leastExtra (fun r7 μ6 => Po r7 μ6) μ3 r4 (μ3.1 6 0 3))) μ1 p1 p2) ∧ (r2 = 0 → Po (-1000001 : Int32) μ1)) μ p1 p2
set_option maxHeartbeats 4000000 in
set_option maxRecDepth 100000 in
theorem kX10_firstPath (l : Launch) (p1 : Int32) (p2 : Int32) : mm_CI l yX10_firstPath wsX10_firstPath ({ frames := 3, cells := 0, slots := 0, locals := 64 }) (fun z => [.ref (z + mm_ad 0 0), .int p1, .int p2]) (fun μ Po => pX10_firstPath Po μ p1 p2) := by
  refine je_I (cc := cX10_firstPath) (nL := 3) (own := RX10) (plainFor_of_name (by decide)) rfl rfl (fun _ => Nat.le_of_ble_eq_true rfl) ?_
  intro p e s m args below meth c D cy z μ Po C hr hk h
  change jJ p l e ({ frames := 3, cells := 0, slots := 0, locals := 64 }) s m args below meth c D cy z (MQ below (va_Qi Po (mm_Po D cy z) (mm_A z)) args s 0 0 (mm_A z)) 3 μ 0 [(0, .ref (z + mm_ad 0 0)), (1, .int p1), (2, .int p2)] []
  replace h : pX10_firstPath Po μ p1 p2 := h
  unfold pX10_firstPath at h
  refine jr_aload_n (q := 1) C 0 dX10_firstPath_0 rfl rfl rfl ?_
  refine jr_getR (q := 4) (ci := 10) (Cn := RX10) (T := TX10) (N := 7) (j := 2) C mf_0 rfl rfl (by decide) rfl 6 0 rfl rfl rfl nX10_firstPath_10 mX10_firstPath_1 dX10_firstPath_1 rfl rfl ?_
  refine jr_iload_n (q := 5) C 1 dX10_firstPath_4 rfl rfl rfl ?_
  refine jr_iload_n (q := 6) C 2 dX10_firstPath_5 rfl rfl rfl ?_
  refine jr_cvI (q := 9) (As := [.int p1, .int p2]) (rest := []) C (f := 6) (i := 0) (ci := 0) mf_6 rfl rfl rfl (kX0_hasPair l p1 p2) rfl gX10_firstPath_X0_hasPair rfl dsc_X0_hasPair ⟨rfl, rfl⟩ ⟨by decide, by decide⟩ rfl rfl (Nat.le_of_ble_eq_true rfl) dX10_firstPath_6 rfl h (fun r2 μ1 h => ?_)
  refine jr_if_ne (q := 12) (tgt := 15) C dX10_firstPath_9 (by decide) rfl (fun c8 => ?_) (fun c8 => ?_)
  · replace h := h.1 c8
    refine jr_aload_n (q := 16) C 0 dX10_firstPath_15 rfl rfl rfl ?_
    refine jr_getR (q := 19) (ci := 10) (Cn := RX10) (T := TX10) (N := 7) (j := 2) C mf_0 rfl rfl (by decide) rfl 6 0 rfl rfl rfl nX10_firstPath_10 mX10_firstPath_1 dX10_firstPath_16 rfl rfl ?_
    refine jr_iload_n (q := 20) C 1 dX10_firstPath_19 rfl rfl rfl ?_
    refine jr_iload_n (q := 21) C 2 dX10_firstPath_20 rfl rfl rfl ?_
    refine jr_cvR (q := 24) (f0 := 12) (As := [.int p1, .int p2]) (rest := []) C (f := 6) (i := 0) (ci := 0) mf_6 rfl rfl rfl (kX0_linkOf l p1 p2) rfl gX10_firstPath_X0_linkOf rfl dsc_X0_linkOf ⟨rfl, rfl⟩ ⟨by decide, by decide⟩ rfl rfl (Nat.le_of_ble_eq_true rfl) dX10_firstPath_21 rfl h (fun r4 μ3 h => ?_)
    refine jr_aload_n (q := 25) C 0 dX10_firstPath_24 rfl rfl rfl ?_
    refine jr_getR (q := 28) (ci := 10) (Cn := RX10) (T := TX10) (N := 7) (j := 2) C mf_0 rfl rfl (by decide) rfl 6 0 rfl rfl rfl nX10_firstPath_10 mX10_firstPath_1 dX10_firstPath_25 rfl rfl ?_
    refine jr_getI (q := 31) (ci := 0) (Cn := RX0) (T := TX0) (N := 11) (j := 3) C mf_6 rfl rfl (by decide) rfl rfl nX10_firstPath_0 mX10_firstPath_3 dX10_firstPath_28 rfl rfl ?_
    obtain ⟨g5, h⟩ := h
    refine jr_cvI (q := 34) (As := [.int (μ3.1 6 0 3)]) (rest := []) C (f := 12) (i := r4) (ci := 4) g5 rfl rfl rfl (kX4_leastExtra l r4 (μ3.1 6 0 3)) rfl gX10_firstPath_X4_leastExtra rfl dsc_X4_leastExtra ⟨rfl, rfl⟩ ⟨by decide, by decide⟩ rfl rfl (Nat.le_of_ble_eq_true rfl) dX10_firstPath_31 rfl h (fun r7 μ6 h => ?_)
    exact jr_iret C hr hk dX10_firstPath_34 h
  · replace h := h.2 c8
    refine jr_ldc (q := 14) (v := (-1000001 : Int32)) C dX10_firstPath_12 mX10_firstPath_4 rfl ?_
    exact jr_iret C hr hk dX10_firstPath_14 h
theorem nX10_level_10 : ∀ w ∈ wsX100, w ∈ wsX10_level := fun _ h => List.mem_cons_of_mem _ (List.mem_append_left _ (List.mem_append_right _ h))
theorem mX10_level_1 : Cond.fieldLink RX10 26 RX10 (TX10 2).2.1 (TX10 2).2.2.1 ∈ wsX10_level := List.mem_of_getElem? (i := 1) (by decide +kernel)
theorem mX10_level_2 : Cond.constant RX10 30 (-1000002) ∈ wsX10_level := List.mem_of_getElem? (i := 3) (by decide +kernel)
theorem nX10_level_0 : ∀ w ∈ wsX00, w ∈ wsX10_level := fun _ h => List.mem_cons_of_mem _ (List.mem_append_right _ h)
theorem mX10_level_4 : Cond.fieldLink RX10 107 RX0 (TX0 3).2.1 (TX0 3).2.2.1 ∈ wsX10_level := List.mem_of_getElem? (i := 4) (by decide +kernel)
theorem mX10_level_5 : Cond.constant RX10 51 (-1000003) ∈ wsX10_level := List.mem_of_getElem? (i := 2) (by decide +kernel)
theorem dsc_X10_level : yX10_level.cls ≠ "java/lang/invoke/MethodHandle" ∧ yX10_level.cls ≠ "java/lang/invoke/VarHandle" ∧ (parseMethodDescriptor yX10_level.desc).map (fun d => d.parameters.length) = some 1 := by decide +kernel
def pX10_level (Po : Int32 → mm_T → Prop) (μ : mm_T) (p1 : Int32) : Prop := pX0_isRead (fun r2 μ1 => (¬ r2 = 0 → (p1 < (1 : Int32) → Po (-1000002 : Int32) μ1) ∧ (¬ (p1 < (1 : Int32)) → (p1 ≤ (9 : Int32) → ∀ x3 : Int32, x3 = μ1.1 6 0 3 → (∀ μ4 : mm_T, μ4 = mm_I μ1 6 0 3 p1 → (Po x3 μ4))) ∧ (¬ (p1 ≤ (9 : Int32)) → Po (-1000002 : Int32) μ1))) ∧ (r2 = 0 → Po (-1000003 : Int32) μ1)) μ 
set_option maxHeartbeats 4000000 in
set_option maxRecDepth 100000 in
theorem kX10_level (l : Launch) (p1 : Int32) : mm_CI l yX10_level wsX10_level ({ frames := 1, cells := 0, slots := 0, locals := 20 }) (fun z => [.ref (z + mm_ad 0 0), .int p1]) (fun μ Po => pX10_level Po μ p1) := by
  refine je_I (cc := cX10_level) (nL := 3) (own := RX10) (plainFor_of_name (by decide)) rfl rfl (fun _ => Nat.le_of_ble_eq_true rfl) ?_
  intro p e s m args below meth c D cy z μ Po C hr hk h
  change jJ p l e ({ frames := 1, cells := 0, slots := 0, locals := 20 }) s m args below meth c D cy z (MQ below (va_Qi Po (mm_Po D cy z) (mm_A z)) args s 0 0 (mm_A z)) 3 μ 0 [(0, .ref (z + mm_ad 0 0)), (1, .int p1)] []
  replace h : pX10_level Po μ p1 := h
  unfold pX10_level at h
  refine jr_aload_n (q := 1) C 0 dX10_level_0 rfl rfl rfl ?_
  refine jr_getR (q := 4) (ci := 10) (Cn := RX10) (T := TX10) (N := 7) (j := 2) C mf_0 rfl rfl (by decide) rfl 6 0 rfl rfl rfl nX10_level_10 mX10_level_1 dX10_level_1 rfl rfl ?_
  refine jr_cvI (q := 7) (As := []) (rest := []) C (f := 6) (i := 0) (ci := 0) mf_6 rfl rfl rfl (kX0_isRead l) rfl gX10_level_X0_isRead rfl dsc_X0_isRead ⟨rfl, rfl⟩ ⟨by decide, by decide⟩ rfl rfl (Nat.le_of_ble_eq_true rfl) dX10_level_4 rfl h (fun r2 μ1 h => ?_)
  refine jr_if_ne (q := 10) (tgt := 13) C dX10_level_7 (by decide) rfl (fun c7 => ?_) (fun c7 => ?_)
  · replace h := h.1 c7
    refine jr_iload_n (q := 14) C 1 dX10_level_13 rfl rfl rfl ?_
    refine jr_iconst (q := 15) (v := (1 : Int32)) C dX10_level_14 (by decide) rfl ?_
    refine jr_icmp_lt (q := 18) (tgt := 24) C dX10_level_15 (by decide) rfl (fun c6 => ?_) (fun c6 => ?_)
    · replace h := h.1 c6
      refine jr_ldc (q := 26) (v := (-1000002 : Int32)) C dX10_level_24 mX10_level_2 rfl ?_
      exact jr_iret C hr hk dX10_level_26 h
    · replace h := h.2 c6
      refine jr_iload_n (q := 19) C 1 dX10_level_18 rfl rfl rfl ?_
      refine jr_bipush (q := 21) (v := (9 : Int32)) C dX10_level_19 (by decide) rfl ?_
      refine jr_icmp_le (q := 24) (tgt := 27) C dX10_level_21 (by decide) rfl (fun c5 => ?_) (fun c5 => ?_)
      · replace h := h.1 c5
        refine jr_aload_n (q := 28) C 0 dX10_level_27 rfl rfl rfl ?_
        refine jr_getR (q := 31) (ci := 10) (Cn := RX10) (T := TX10) (N := 7) (j := 2) C mf_0 rfl rfl (by decide) rfl 6 0 rfl rfl rfl nX10_level_10 mX10_level_1 dX10_level_28 rfl rfl ?_
        refine jr_getI (q := 34) (ci := 0) (Cn := RX0) (T := TX0) (N := 11) (j := 3) C mf_6 rfl rfl (by decide) rfl rfl nX10_level_0 mX10_level_4 dX10_level_31 rfl rfl ?_
        refine jn_int (fun x3 ex3 => ?_)
        replace h := h x3 ex3
        refine jr_istore_n (q := 35) (lv' := [(2, .int x3), (0, .ref (z + mm_ad 0 0)), (1, .int p1)]) C dX10_level_34 rfl (by decide) rfl rfl ?_
        refine jr_aload_n (q := 36) C 1 dX10_level_35 rfl rfl rfl ?_
        refine jr_getR (q := 39) (ci := 10) (Cn := RX10) (T := TX10) (N := 7) (j := 2) C mf_0 rfl rfl (by decide) rfl 6 0 rfl rfl rfl nX10_level_10 mX10_level_1 dX10_level_36 rfl rfl ?_
        refine jr_iload_n (q := 40) C 2 dX10_level_39 rfl rfl rfl ?_
        refine jr_putI (q := 43) (ci := 0) (Cn := RX0) (T := TX0) (N := 11) (j := 3) C mf_6 rfl rfl (by decide) rfl rfl tyX0 tyX0_ok nmX0 rfl (by decide +kernel) nX10_level_0 mX10_level_4 dX10_level_40 rfl rfl ?_
        refine jn_mem (fun μ4 eμ4 => ?_)
        replace h := h μ4 eμ4
        refine jr_iload_n (q := 44) C 0 dX10_level_43 rfl rfl rfl ?_
        exact jr_iret C hr hk dX10_level_44 h
      · replace h := h.2 c5
        refine jr_ldc (q := 26) (v := (-1000002 : Int32)) C dX10_level_24 mX10_level_2 rfl ?_
        exact jr_iret C hr hk dX10_level_26 h
  · replace h := h.2 c7
    refine jr_ldc (q := 12) (v := (-1000003 : Int32)) C dX10_level_10 mX10_level_5 rfl ?_
    exact jr_iret C hr hk dX10_level_12 h
theorem nX10_countedPulses_10 : ∀ w ∈ wsX100, w ∈ wsX10_countedPulses := fun _ h => List.mem_cons_of_mem _ (List.mem_append_left _ (List.mem_append_left _ (List.mem_append_left _ (List.mem_append_left _ (List.mem_append_left _ (List.mem_append_left _ (List.mem_append_right _ h)))))))
theorem mX10_countedPulses_1 : Cond.fieldLink RX10 26 RX10 (TX10 2).2.1 (TX10 2).2.2.1 ∈ wsX10_countedPulses := List.mem_of_getElem? (i := 1) (by decide +kernel)
theorem mX10_countedPulses_2 : Cond.fieldLink RX10 216 RX10 (TX10 3).2.1 (TX10 3).2.2.1 ∈ wsX10_countedPulses := List.mem_of_getElem? (i := 2) (by decide +kernel)
theorem mX10_countedPulses_3 : Cond.constant RX10 203 (-1000005) ∈ wsX10_countedPulses := List.mem_of_getElem? (i := 3) (by decide +kernel)
theorem mX10_countedPulses_4 : Cond.fieldLink RX10 219 RX10 (TX10 4).2.1 (TX10 4).2.2.1 ∈ wsX10_countedPulses := List.mem_of_getElem? (i := 4) (by decide +kernel)
theorem dsc_X10_countedPulses : yX10_countedPulses.cls ≠ "java/lang/invoke/MethodHandle" ∧ yX10_countedPulses.cls ≠ "java/lang/invoke/VarHandle" ∧ (parseMethodDescriptor yX10_countedPulses.desc).map (fun d => d.parameters.length) = some 2 := by decide +kernel
def pX10_countedPulses (Po : Int32 → mm_T → Prop) (μ : mm_T) (p1 : Int32) (p2 : Int32) : Prop := pX0_sendPulses (fun r2 μ1 => ∀ μ3 : mm_T, μ3 = mm_I μ1 0 0 3 ((μ1.1 0 0 3) + (1 : Int32)) → ((¬ r2 = (-1000005 : Int32) → Po r2 μ3) ∧ (r2 = (-1000005 : Int32) → ∀ μ4 : mm_T, μ4 = mm_I μ3 0 0 4 ((μ3.1 0 0 4) + (1 : Int32)) → (Po r2 μ4)))) μ p1 p2
set_option maxHeartbeats 4000000 in
set_option maxRecDepth 100000 in
theorem kX10_countedPulses (l : Launch) (p1 : Int32) (p2 : Int32) : mm_CI l yX10_countedPulses wsX10_countedPulses ({ frames := 4, cells := 0, slots := 0, locals := 117 }) (fun z => [.ref (z + mm_ad 0 0), .int p1, .int p2]) (fun μ Po => pX10_countedPulses Po μ p1 p2) := by
  refine je_I (cc := cX10_countedPulses) (nL := 4) (own := RX10) (plainFor_of_name (by decide)) rfl rfl (fun _ => Nat.le_of_ble_eq_true rfl) ?_
  intro p e s m args below meth c D cy z μ Po C hr hk h
  change jJ p l e ({ frames := 4, cells := 0, slots := 0, locals := 117 }) s m args below meth c D cy z (MQ below (va_Qi Po (mm_Po D cy z) (mm_A z)) args s 0 0 (mm_A z)) 4 μ 0 [(0, .ref (z + mm_ad 0 0)), (1, .int p1), (2, .int p2)] []
  replace h : pX10_countedPulses Po μ p1 p2 := h
  unfold pX10_countedPulses at h
  refine jr_aload_n (q := 1) C 0 dX10_countedPulses_0 rfl rfl rfl ?_
  refine jr_getR (q := 4) (ci := 10) (Cn := RX10) (T := TX10) (N := 7) (j := 2) C mf_0 rfl rfl (by decide) rfl 6 0 rfl rfl rfl nX10_countedPulses_10 mX10_countedPulses_1 dX10_countedPulses_1 rfl rfl ?_
  refine jr_iload_n (q := 5) C 1 dX10_countedPulses_4 rfl rfl rfl ?_
  refine jr_iload_n (q := 6) C 2 dX10_countedPulses_5 rfl rfl rfl ?_
  refine jr_cvI (q := 9) (As := [.int p1, .int p2]) (rest := []) C (f := 6) (i := 0) (ci := 0) mf_6 rfl rfl rfl (kX0_sendPulses l p1 p2) rfl gX10_countedPulses_X0_sendPulses rfl dsc_X0_sendPulses ⟨rfl, rfl⟩ ⟨by decide, by decide⟩ rfl rfl (Nat.le_of_ble_eq_true rfl) dX10_countedPulses_6 rfl h (fun r2 μ1 h => ?_)
  refine jr_istore_n (q := 10) (lv' := [(3, .int r2), (0, .ref (z + mm_ad 0 0)), (1, .int p1), (2, .int p2)]) C dX10_countedPulses_9 rfl (by decide) rfl rfl ?_
  refine jr_aload_n (q := 11) C 1 dX10_countedPulses_10 rfl rfl rfl ?_
  refine jr_dup (q := 12) C dX10_countedPulses_11 rfl rfl ?_
  refine jr_getI (q := 15) (ci := 10) (Cn := RX10) (T := TX10) (N := 7) (j := 3) C mf_0 rfl rfl (by decide) rfl rfl nX10_countedPulses_10 mX10_countedPulses_2 dX10_countedPulses_12 rfl rfl ?_
  refine jr_iconst (q := 16) (v := (1 : Int32)) C dX10_countedPulses_15 (by decide) rfl ?_
  refine jr_iadd (q := 17) C dX10_countedPulses_16 rfl ?_
  refine jr_putI (q := 20) (ci := 10) (Cn := RX10) (T := TX10) (N := 7) (j := 3) C mf_0 rfl rfl (by decide) rfl rfl tyX10 tyX10_ok nmX10 rfl (by decide +kernel) nX10_countedPulses_10 mX10_countedPulses_2 dX10_countedPulses_17 rfl rfl ?_
  refine jn_mem (fun μ3 eμ3 => ?_)
  replace h := h μ3 eμ3
  refine jr_iload_n (q := 21) C 0 dX10_countedPulses_20 rfl rfl rfl ?_
  refine jr_ldc (q := 23) (v := (-1000005 : Int32)) C dX10_countedPulses_21 mX10_countedPulses_3 rfl ?_
  refine jr_icmp_ne (q := 26) (tgt := 36) C dX10_countedPulses_23 (by decide) rfl (fun c5 => ?_) (fun c5 => ?_)
  · replace h := h.1 c5
    refine jr_iload_n (q := 37) C 0 dX10_countedPulses_36 rfl rfl rfl ?_
    exact jr_iret C hr hk dX10_countedPulses_37 h
  · replace h := h.2 c5
    refine jr_aload_n (q := 27) C 1 dX10_countedPulses_26 rfl rfl rfl ?_
    refine jr_dup (q := 28) C dX10_countedPulses_27 rfl rfl ?_
    refine jr_getI (q := 31) (ci := 10) (Cn := RX10) (T := TX10) (N := 7) (j := 4) C mf_0 rfl rfl (by decide) rfl rfl nX10_countedPulses_10 mX10_countedPulses_4 dX10_countedPulses_28 rfl rfl ?_
    refine jr_iconst (q := 32) (v := (1 : Int32)) C dX10_countedPulses_31 (by decide) rfl ?_
    refine jr_iadd (q := 33) C dX10_countedPulses_32 rfl ?_
    refine jr_putI (q := 36) (ci := 10) (Cn := RX10) (T := TX10) (N := 7) (j := 4) C mf_0 rfl rfl (by decide) rfl rfl tyX10 tyX10_ok nmX10 rfl (by decide +kernel) nX10_countedPulses_10 mX10_countedPulses_4 dX10_countedPulses_33 rfl rfl ?_
    refine jn_mem (fun μ4 eμ4 => ?_)
    replace h := h μ4 eμ4
    refine jr_iload_n (q := 37) C 0 dX10_countedPulses_36 rfl rfl rfl ?_
    exact jr_iret C hr hk dX10_countedPulses_37 h
theorem nX10_exchange_10 : ∀ w ∈ wsX100, w ∈ wsX10_exchange := fun _ h => List.mem_cons_of_mem _ (List.mem_append_left _ (List.mem_append_left _ (List.mem_append_left _ (List.mem_append_left _ (List.mem_append_left _ (List.mem_append_left _ (List.mem_append_right _ h)))))))
theorem mX10_exchange_1 : Cond.fieldLink RX10 26 RX10 (TX10 2).2.1 (TX10 2).2.2.1 ∈ wsX10_exchange := List.mem_of_getElem? (i := 1) (by decide +kernel)
theorem mX10_exchange_2 : Cond.constant RX10 64 (-1000001) ∈ wsX10_exchange := List.mem_of_getElem? (i := 2) (by decide +kernel)
theorem dsc_X10_exchange : yX10_exchange.cls ≠ "java/lang/invoke/MethodHandle" ∧ yX10_exchange.cls ≠ "java/lang/invoke/VarHandle" ∧ (parseMethodDescriptor yX10_exchange.desc).map (fun d => d.parameters.length) = some 2 := by decide +kernel
def pX10_exchange (Po : Int32 → mm_T → Prop) (μ : mm_T) (p1 : Int32) (p2 : Int32) : Prop := pX0_hasPair (fun r2 μ1 => (¬ r2 = 0 → pX10_countedPulses (fun r4 μ3 => Po r4 μ3) μ1 p1 p2) ∧ (r2 = 0 → Po (-1000001 : Int32) μ1)) μ p1 p2
set_option maxHeartbeats 4000000 in
set_option maxRecDepth 100000 in
theorem kX10_exchange (l : Launch) (p1 : Int32) (p2 : Int32) : mm_CI l yX10_exchange wsX10_exchange ({ frames := 5, cells := 0, slots := 0, locals := 140 }) (fun z => [.ref (z + mm_ad 0 0), .int p1, .int p2]) (fun μ Po => pX10_exchange Po μ p1 p2) := by
  refine je_I (cc := cX10_exchange) (nL := 3) (own := RX10) (plainFor_of_name (by decide)) rfl rfl (fun _ => Nat.le_of_ble_eq_true rfl) ?_
  intro p e s m args below meth c D cy z μ Po C hr hk h
  change jJ p l e ({ frames := 5, cells := 0, slots := 0, locals := 140 }) s m args below meth c D cy z (MQ below (va_Qi Po (mm_Po D cy z) (mm_A z)) args s 0 0 (mm_A z)) 3 μ 0 [(0, .ref (z + mm_ad 0 0)), (1, .int p1), (2, .int p2)] []
  replace h : pX10_exchange Po μ p1 p2 := h
  unfold pX10_exchange at h
  refine jr_aload_n (q := 1) C 0 dX10_exchange_0 rfl rfl rfl ?_
  refine jr_getR (q := 4) (ci := 10) (Cn := RX10) (T := TX10) (N := 7) (j := 2) C mf_0 rfl rfl (by decide) rfl 6 0 rfl rfl rfl nX10_exchange_10 mX10_exchange_1 dX10_exchange_1 rfl rfl ?_
  refine jr_iload_n (q := 5) C 1 dX10_exchange_4 rfl rfl rfl ?_
  refine jr_iload_n (q := 6) C 2 dX10_exchange_5 rfl rfl rfl ?_
  refine jr_cvI (q := 9) (As := [.int p1, .int p2]) (rest := []) C (f := 6) (i := 0) (ci := 0) mf_6 rfl rfl rfl (kX0_hasPair l p1 p2) rfl gX10_exchange_X0_hasPair rfl dsc_X0_hasPair ⟨rfl, rfl⟩ ⟨by decide, by decide⟩ rfl rfl (Nat.le_of_ble_eq_true rfl) dX10_exchange_6 rfl h (fun r2 μ1 h => ?_)
  refine jr_if_ne (q := 12) (tgt := 15) C dX10_exchange_9 (by decide) rfl (fun c5 => ?_) (fun c5 => ?_)
  · replace h := h.1 c5
    refine jr_aload_n (q := 16) C 0 dX10_exchange_15 rfl rfl rfl ?_
    refine jr_iload_n (q := 17) C 1 dX10_exchange_16 rfl rfl rfl ?_
    refine jr_iload_n (q := 18) C 2 dX10_exchange_17 rfl rfl rfl ?_
    refine jr_cvI (q := 21) (As := [.int p1, .int p2]) (rest := []) C (f := 0) (i := 0) (ci := 10) mf_0 rfl rfl rfl (kX10_countedPulses l p1 p2) rfl gX10_exchange_X10_countedPulses rfl dsc_X10_countedPulses ⟨rfl, rfl⟩ ⟨by decide, by decide⟩ rfl rfl (Nat.le_of_ble_eq_true rfl) dX10_exchange_18 rfl h (fun r4 μ3 h => ?_)
    exact jr_iret C hr hk dX10_exchange_21 h
  · replace h := h.2 c5
    refine jr_ldc (q := 14) (v := (-1000001 : Int32)) C dX10_exchange_12 mX10_exchange_2 rfl ?_
    exact jr_iret C hr hk dX10_exchange_14 h
theorem nX10_idle_10 : ∀ w ∈ wsX100, w ∈ wsX10_idle := fun _ h => List.mem_cons_of_mem _ (List.mem_append_left _ (List.mem_append_right _ h))
theorem mX10_idle_1 : Cond.fieldLink RX10 26 RX10 (TX10 2).2.1 (TX10 2).2.2.1 ∈ wsX10_idle := List.mem_of_getElem? (i := 1) (by decide +kernel)
theorem mX10_idle_2 : Cond.constant RX10 30 (-1000002) ∈ wsX10_idle := List.mem_of_getElem? (i := 6) (by decide +kernel)
theorem mX10_idle_3 : Cond.constant RX10 120 (99999) ∈ wsX10_idle := List.mem_of_getElem? (i := 3) (by decide +kernel)
theorem nX10_idle_0 : ∀ w ∈ wsX00, w ∈ wsX10_idle := fun _ h => List.mem_cons_of_mem _ (List.mem_append_right _ h)
theorem mX10_idle_5 : Cond.fieldLink RX10 69 RX0 (TX0 2).2.1 (TX0 2).2.2.1 ∈ wsX10_idle := List.mem_of_getElem? (i := 4) (by decide +kernel)
theorem mX10_idle_6 : Cond.constantLong RX10 121 (9999999) ∈ wsX10_idle := List.mem_of_getElem? (i := 5) (by decide +kernel)
theorem mX10_idle_7 : Cond.constant RX10 51 (-1000003) ∈ wsX10_idle := List.mem_of_getElem? (i := 2) (by decide +kernel)
theorem dsc_X10_idle : yX10_idle.cls ≠ "java/lang/invoke/MethodHandle" ∧ yX10_idle.cls ≠ "java/lang/invoke/VarHandle" ∧ (parseMethodDescriptor yX10_idle.desc).map (fun d => d.parameters.length) = some 1 := by decide +kernel
def pX10_idle (Po : Int32 → mm_T → Prop) (μ : mm_T) (p1 : Int32) : Prop := pX0_isRead (fun r2 μ1 => (¬ r2 = 0 → (p1 < 0 → Po (-1000002 : Int32) μ1) ∧ (¬ (p1 < 0) → ((99999 : Int32) < p1 → Po (-1000002 : Int32) μ1) ∧ (¬ ((99999 : Int32) < p1) → ((lg_cmp ((μ1.2 6 0 2) + p1.toInt64) (9999999 : Int64)) ≤ 0 → ∀ μ3 : mm_T, μ3 = mm_L μ1 6 0 2 ((μ1.2 6 0 2) + p1.toInt64) → (Po ((μ3.2 6 0 2).toInt32) μ3)) ∧ (¬ ((lg_cmp ((μ1.2 6 0 2) + p1.toInt64) (9999999 : Int64)) ≤ 0) → Po (-1000002 : Int32) μ1)))) ∧ (r2 = 0 → Po (-1000003 : Int32) μ1)) μ 
set_option maxHeartbeats 4000000 in
set_option maxRecDepth 100000 in
theorem kX10_idle (l : Launch) (p1 : Int32) : mm_CI l yX10_idle wsX10_idle ({ frames := 1, cells := 0, slots := 0, locals := 20 }) (fun z => [.ref (z + mm_ad 0 0), .int p1]) (fun μ Po => pX10_idle Po μ p1) := by
  refine je_I (cc := cX10_idle) (nL := 2) (own := RX10) (plainFor_of_name (by decide)) rfl rfl (fun _ => Nat.le_of_ble_eq_true rfl) ?_
  intro p e s m args below meth c D cy z μ Po C hr hk h
  change jJ p l e ({ frames := 1, cells := 0, slots := 0, locals := 20 }) s m args below meth c D cy z (MQ below (va_Qi Po (mm_Po D cy z) (mm_A z)) args s 0 0 (mm_A z)) 2 μ 0 [(0, .ref (z + mm_ad 0 0)), (1, .int p1)] []
  replace h : pX10_idle Po μ p1 := h
  unfold pX10_idle at h
  refine jr_aload_n (q := 1) C 0 dX10_idle_0 rfl rfl rfl ?_
  refine jr_getR (q := 4) (ci := 10) (Cn := RX10) (T := TX10) (N := 7) (j := 2) C mf_0 rfl rfl (by decide) rfl 6 0 rfl rfl rfl nX10_idle_10 mX10_idle_1 dX10_idle_1 rfl rfl ?_
  refine jr_cvI (q := 7) (As := []) (rest := []) C (f := 6) (i := 0) (ci := 0) mf_6 rfl rfl rfl (kX0_isRead l) rfl gX10_idle_X0_isRead rfl dsc_X0_isRead ⟨rfl, rfl⟩ ⟨by decide, by decide⟩ rfl rfl (Nat.le_of_ble_eq_true rfl) dX10_idle_4 rfl h (fun r2 μ1 h => ?_)
  refine jr_if_ne (q := 10) (tgt := 13) C dX10_idle_7 (by decide) rfl (fun c7 => ?_) (fun c7 => ?_)
  · replace h := h.1 c7
    refine jr_iload_n (q := 14) C 1 dX10_idle_13 rfl rfl rfl ?_
    refine jr_if_lt (q := 17) (tgt := 40) C dX10_idle_14 (by decide) rfl (fun c6 => ?_) (fun c6 => ?_)
    · replace h := h.1 c6
      refine jr_ldc (q := 42) (v := (-1000002 : Int32)) C dX10_idle_40 mX10_idle_2 rfl ?_
      exact jr_iret C hr hk dX10_idle_42 h
    · replace h := h.2 c6
      refine jr_iload_n (q := 18) C 1 dX10_idle_17 rfl rfl rfl ?_
      refine jr_ldc (q := 20) (v := (99999 : Int32)) C dX10_idle_18 mX10_idle_3 rfl ?_
      refine jr_icmp_gt (q := 23) (tgt := 40) C dX10_idle_20 (by decide) rfl (fun c5 => ?_) (fun c5 => ?_)
      · replace h := h.1 c5
        refine jr_ldc (q := 42) (v := (-1000002 : Int32)) C dX10_idle_40 mX10_idle_2 rfl ?_
        exact jr_iret C hr hk dX10_idle_42 h
      · replace h := h.2 c5
        refine jr_aload_n (q := 24) C 0 dX10_idle_23 rfl rfl rfl ?_
        refine jr_getR (q := 27) (ci := 10) (Cn := RX10) (T := TX10) (N := 7) (j := 2) C mf_0 rfl rfl (by decide) rfl 6 0 rfl rfl rfl nX10_idle_10 mX10_idle_1 dX10_idle_24 rfl rfl ?_
        refine jr_getL (q := 30) (ci := 0) (Cn := RX0) (T := TX0) (N := 11) (j := 2) C mf_6 rfl rfl (by decide) rfl rfl nX10_idle_0 mX10_idle_5 dX10_idle_27 rfl rfl ?_
        refine jr_iload_n (q := 31) C 1 dX10_idle_30 rfl rfl rfl ?_
        refine jr_i2l (q := 32) C dX10_idle_31 rfl ?_
        refine jr_ladd (q := 33) C dX10_idle_32 rfl ?_
        refine jr_ldc2 (q := 36) (v := (9999999 : Int64)) C dX10_idle_33 mX10_idle_6 rfl ?_
        refine jr_lcmp (q := 37) C dX10_idle_36 rfl ?_
        refine jr_if_le (q := 40) (tgt := 43) C dX10_idle_37 (by decide) rfl (fun c4 => ?_) (fun c4 => ?_)
        · replace h := h.1 c4
          refine jr_aload_n (q := 44) C 0 dX10_idle_43 rfl rfl rfl ?_
          refine jr_getR (q := 47) (ci := 10) (Cn := RX10) (T := TX10) (N := 7) (j := 2) C mf_0 rfl rfl (by decide) rfl 6 0 rfl rfl rfl nX10_idle_10 mX10_idle_1 dX10_idle_44 rfl rfl ?_
          refine jr_dup (q := 48) C dX10_idle_47 rfl rfl ?_
          refine jr_getL (q := 51) (ci := 0) (Cn := RX0) (T := TX0) (N := 11) (j := 2) C mf_6 rfl rfl (by decide) rfl rfl nX10_idle_0 mX10_idle_5 dX10_idle_48 rfl rfl ?_
          refine jr_iload_n (q := 52) C 1 dX10_idle_51 rfl rfl rfl ?_
          refine jr_i2l (q := 53) C dX10_idle_52 rfl ?_
          refine jr_ladd (q := 54) C dX10_idle_53 rfl ?_
          refine jr_putL (q := 57) (ci := 0) (Cn := RX0) (T := TX0) (N := 11) (j := 2) C mf_6 rfl rfl (by decide) rfl rfl tyX0 tyX0_ok nmX0 rfl (by decide +kernel) nX10_idle_0 mX10_idle_5 dX10_idle_54 rfl rfl ?_
          refine jn_mem (fun μ3 eμ3 => ?_)
          replace h := h μ3 eμ3
          refine jr_aload_n (q := 58) C 0 dX10_idle_57 rfl rfl rfl ?_
          refine jr_getR (q := 61) (ci := 10) (Cn := RX10) (T := TX10) (N := 7) (j := 2) C mf_0 rfl rfl (by decide) rfl 6 0 rfl rfl rfl nX10_idle_10 mX10_idle_1 dX10_idle_58 rfl rfl ?_
          refine jr_getL (q := 64) (ci := 0) (Cn := RX0) (T := TX0) (N := 11) (j := 2) C mf_6 rfl rfl (by decide) rfl rfl nX10_idle_0 mX10_idle_5 dX10_idle_61 rfl rfl ?_
          refine jr_l2i (q := 65) C dX10_idle_64 rfl ?_
          exact jr_iret C hr hk dX10_idle_65 h
        · replace h := h.2 c4
          refine jr_ldc (q := 42) (v := (-1000002 : Int32)) C dX10_idle_40 mX10_idle_2 rfl ?_
          exact jr_iret C hr hk dX10_idle_42 h
  · replace h := h.2 c7
    refine jr_ldc (q := 12) (v := (-1000003 : Int32)) C dX10_idle_10 mX10_idle_7 rfl ?_
    exact jr_iret C hr hk dX10_idle_12 h
theorem mX10_last_0 : Cond.constant RX10 30 (-1000002) ∈ wsX10_last := List.mem_of_getElem? (i := 1) (by decide +kernel)
theorem nX10_last_10 : ∀ w ∈ wsX100, w ∈ wsX10_last := fun _ h => List.mem_cons_of_mem _ (List.mem_append_left _ (List.mem_append_left _ (List.mem_append_right _ h)))
theorem mX10_last_2 : Cond.fieldLink RX10 26 RX10 (TX10 2).2.1 (TX10 2).2.2.1 ∈ wsX10_last := List.mem_of_getElem? (i := 2) (by decide +kernel)
theorem nX10_last_0 : ∀ w ∈ wsX00, w ∈ wsX10_last := fun _ h => List.mem_cons_of_mem _ (List.mem_append_left _ (List.mem_append_right _ h))
theorem mX10_last_4 : Cond.fieldLink RX10 123 RX0 (TX0 5).2.1 (TX0 5).2.2.1 ∈ wsX10_last := List.mem_of_getElem? (i := 3) (by decide +kernel)
theorem nX10_last_3 : ∀ w ∈ wsX30, w ∈ wsX10_last := fun _ h => List.mem_cons_of_mem _ (List.mem_append_right _ h)
theorem mX10_last_6 : Cond.fieldLink RX10 127 RX3 (TX3 0).2.1 (TX3 0).2.2.1 ∈ wsX10_last := List.mem_of_getElem? (i := 4) (by decide +kernel)
theorem mX10_last_7 : Cond.constant RX10 51 (-1000003) ∈ wsX10_last := List.mem_of_getElem? (i := 5) (by decide +kernel)
theorem dsc_X10_last : yX10_last.cls ≠ "java/lang/invoke/MethodHandle" ∧ yX10_last.cls ≠ "java/lang/invoke/VarHandle" ∧ (parseMethodDescriptor yX10_last.desc).map (fun d => d.parameters.length) = some 1 := by decide +kernel
def pX10_last (Po : Int32 → mm_T → Prop) (μ : mm_T) (p1 : Int32) : Prop := (p1 < (1 : Int32) → Po (-1000002 : Int32) μ) ∧ (¬ (p1 < (1 : Int32)) → (p1 ≤ (11 : Int32) → (¬ (μ.1 15 0 0) = 0 → pX3_tell (fun r2 μ1 => Po r2 μ1) μ p1) ∧ ((μ.1 15 0 0) = 0 → Po (-1000003 : Int32) μ)) ∧ (¬ (p1 ≤ (11 : Int32)) → Po (-1000002 : Int32) μ))
set_option maxHeartbeats 4000000 in
set_option maxRecDepth 100000 in
theorem kX10_last (l : Launch) (p1 : Int32) : mm_CI l yX10_last wsX10_last ({ frames := 1, cells := 0, slots := 0, locals := 21 }) (fun z => [.ref (z + mm_ad 0 0), .int p1]) (fun μ Po => pX10_last Po μ p1) := by
  refine je_I (cc := cX10_last) (nL := 2) (own := RX10) (plainFor_of_name (by decide)) rfl rfl (fun _ => Nat.le_of_ble_eq_true rfl) ?_
  intro p e s m args below meth c D cy z μ Po C hr hk h
  change jJ p l e ({ frames := 1, cells := 0, slots := 0, locals := 21 }) s m args below meth c D cy z (MQ below (va_Qi Po (mm_Po D cy z) (mm_A z)) args s 0 0 (mm_A z)) 2 μ 0 [(0, .ref (z + mm_ad 0 0)), (1, .int p1)] []
  replace h : pX10_last Po μ p1 := h
  unfold pX10_last at h
  refine jr_iload_n (q := 1) C 1 dX10_last_0 rfl rfl rfl ?_
  refine jr_iconst (q := 2) (v := (1 : Int32)) C dX10_last_1 (by decide) rfl ?_
  refine jr_icmp_lt (q := 5) (tgt := 11) C dX10_last_2 (by decide) rfl (fun c5 => ?_) (fun c5 => ?_)
  · replace h := h.1 c5
    refine jr_ldc (q := 13) (v := (-1000002 : Int32)) C dX10_last_11 mX10_last_0 rfl ?_
    exact jr_iret C hr hk dX10_last_13 h
  · replace h := h.2 c5
    refine jr_iload_n (q := 6) C 1 dX10_last_5 rfl rfl rfl ?_
    refine jr_bipush (q := 8) (v := (11 : Int32)) C dX10_last_6 (by decide) rfl ?_
    refine jr_icmp_le (q := 11) (tgt := 14) C dX10_last_8 (by decide) rfl (fun c4 => ?_) (fun c4 => ?_)
    · replace h := h.1 c4
      refine jr_aload_n (q := 15) C 0 dX10_last_14 rfl rfl rfl ?_
      refine jr_getR (q := 18) (ci := 10) (Cn := RX10) (T := TX10) (N := 7) (j := 2) C mf_0 rfl rfl (by decide) rfl 6 0 rfl rfl rfl nX10_last_10 mX10_last_2 dX10_last_15 rfl rfl ?_
      refine jr_getR (q := 21) (ci := 0) (Cn := RX0) (T := TX0) (N := 11) (j := 5) C mf_6 rfl rfl (by decide) rfl 15 0 rfl rfl rfl nX10_last_0 mX10_last_4 dX10_last_18 rfl rfl ?_
      refine jr_getI (q := 24) (ci := 3) (Cn := RX3) (T := TX3) (N := 9) (j := 0) C mf_15 rfl rfl (by decide) rfl rfl nX10_last_3 mX10_last_6 dX10_last_21 rfl rfl ?_
      refine jr_if_ne (q := 27) (tgt := 30) C dX10_last_24 (by decide) rfl (fun c3 => ?_) (fun c3 => ?_)
      · replace h := h.1 c3
        refine jr_aload_n (q := 31) C 0 dX10_last_30 rfl rfl rfl ?_
        refine jr_getR (q := 34) (ci := 10) (Cn := RX10) (T := TX10) (N := 7) (j := 2) C mf_0 rfl rfl (by decide) rfl 6 0 rfl rfl rfl nX10_last_10 mX10_last_2 dX10_last_31 rfl rfl ?_
        refine jr_getR (q := 37) (ci := 0) (Cn := RX0) (T := TX0) (N := 11) (j := 5) C mf_6 rfl rfl (by decide) rfl 15 0 rfl rfl rfl nX10_last_0 mX10_last_4 dX10_last_34 rfl rfl ?_
        refine jr_iload_n (q := 38) C 1 dX10_last_37 rfl rfl rfl ?_
        refine jr_cvI (q := 41) (As := [.int p1]) (rest := []) C (f := 15) (i := 0) (ci := 3) mf_15 rfl rfl rfl (kX3_tell l p1) rfl gX10_last_X3_tell rfl dsc_X3_tell ⟨rfl, rfl⟩ ⟨by decide, by decide⟩ rfl rfl (Nat.le_of_ble_eq_true rfl) dX10_last_38 rfl h (fun r2 μ1 h => ?_)
        exact jr_iret C hr hk dX10_last_41 h
      · replace h := h.2 c3
        refine jr_ldc (q := 29) (v := (-1000003 : Int32)) C dX10_last_27 mX10_last_7 rfl ?_
        exact jr_iret C hr hk dX10_last_29 h
    · replace h := h.2 c4
      refine jr_ldc (q := 13) (v := (-1000002 : Int32)) C dX10_last_11 mX10_last_0 rfl ?_
      exact jr_iret C hr hk dX10_last_13 h
theorem nX10_heard_10 : ∀ w ∈ wsX100, w ∈ wsX10_heard := fun _ h => List.mem_cons_of_mem _ (List.mem_append_left _ (List.mem_append_left _ (List.mem_append_left _ (List.mem_append_left _ (List.mem_append_right _ h)))))
theorem mX10_heard_1 : Cond.fieldLink RX10 26 RX10 (TX10 2).2.1 (TX10 2).2.2.1 ∈ wsX10_heard := List.mem_of_getElem? (i := 1) (by decide +kernel)
theorem nX10_heard_0 : ∀ w ∈ wsX00, w ∈ wsX10_heard := fun _ h => List.mem_cons_of_mem _ (List.mem_append_left _ (List.mem_append_left _ (List.mem_append_left _ (List.mem_append_right _ h))))
theorem mX10_heard_3 : Cond.fieldLink RX10 123 RX0 (TX0 5).2.1 (TX0 5).2.2.1 ∈ wsX10_heard := List.mem_of_getElem? (i := 2) (by decide +kernel)
theorem nX10_heard_3 : ∀ w ∈ wsX30, w ∈ wsX10_heard := fun _ h => List.mem_cons_of_mem _ (List.mem_append_left _ (List.mem_append_left _ (List.mem_append_right _ h)))
theorem mX10_heard_5 : Cond.fieldLink RX10 127 RX3 (TX3 0).2.1 (TX3 0).2.2.1 ∈ wsX10_heard := List.mem_of_getElem? (i := 3) (by decide +kernel)
theorem mX10_heard_6 : Cond.constant RX10 64 (-1000001) ∈ wsX10_heard := List.mem_of_getElem? (i := 5) (by decide +kernel)
theorem mX10_heard_7 : Cond.constant RX10 51 (-1000003) ∈ wsX10_heard := List.mem_of_getElem? (i := 4) (by decide +kernel)
theorem dsc_X10_heard : yX10_heard.cls ≠ "java/lang/invoke/MethodHandle" ∧ yX10_heard.cls ≠ "java/lang/invoke/VarHandle" ∧ (parseMethodDescriptor yX10_heard.desc).map (fun d => d.parameters.length) = some 1 := by decide +kernel
def pX10_heard (Po : Int32 → mm_T → Prop) (μ : mm_T) (p1 : Int32) : Prop := (¬ (μ.1 15 0 0) = 0 → pX0_has (fun r2 μ1 => (r2 = 0 → Po (-1000001 : Int32) μ1) ∧ (¬ (r2 = 0) → pX3_isOf (fun r4 μ3 => (r4 = 0 → pX0_heardBy (fun r6 μ5 => Po r6 μ5) μ3 p1) ∧ (¬ (r4 = 0) → Po (-1000001 : Int32) μ3)) μ1 p1)) μ p1) ∧ ((μ.1 15 0 0) = 0 → Po (-1000003 : Int32) μ)
set_option maxHeartbeats 4000000 in
set_option maxRecDepth 100000 in
theorem kX10_heard (l : Launch) (p1 : Int32) : mm_CI l yX10_heard wsX10_heard ({ frames := 3, cells := 0, slots := 0, locals := 74 }) (fun z => [.ref (z + mm_ad 0 0), .int p1]) (fun μ Po => pX10_heard Po μ p1) := by
  refine je_I (cc := cX10_heard) (nL := 2) (own := RX10) (plainFor_of_name (by decide)) rfl rfl (fun _ => Nat.le_of_ble_eq_true rfl) ?_
  intro p e s m args below meth c D cy z μ Po C hr hk h
  change jJ p l e ({ frames := 3, cells := 0, slots := 0, locals := 74 }) s m args below meth c D cy z (MQ below (va_Qi Po (mm_Po D cy z) (mm_A z)) args s 0 0 (mm_A z)) 2 μ 0 [(0, .ref (z + mm_ad 0 0)), (1, .int p1)] []
  replace h : pX10_heard Po μ p1 := h
  unfold pX10_heard at h
  refine jr_aload_n (q := 1) C 0 dX10_heard_0 rfl rfl rfl ?_
  refine jr_getR (q := 4) (ci := 10) (Cn := RX10) (T := TX10) (N := 7) (j := 2) C mf_0 rfl rfl (by decide) rfl 6 0 rfl rfl rfl nX10_heard_10 mX10_heard_1 dX10_heard_1 rfl rfl ?_
  refine jr_getR (q := 7) (ci := 0) (Cn := RX0) (T := TX0) (N := 11) (j := 5) C mf_6 rfl rfl (by decide) rfl 15 0 rfl rfl rfl nX10_heard_0 mX10_heard_3 dX10_heard_4 rfl rfl ?_
  refine jr_getI (q := 10) (ci := 3) (Cn := RX3) (T := TX3) (N := 9) (j := 0) C mf_15 rfl rfl (by decide) rfl rfl nX10_heard_3 mX10_heard_5 dX10_heard_7 rfl rfl ?_
  refine jr_if_ne (q := 13) (tgt := 16) C dX10_heard_10 (by decide) rfl (fun c9 => ?_) (fun c9 => ?_)
  · replace h := h.1 c9
    refine jr_aload_n (q := 17) C 0 dX10_heard_16 rfl rfl rfl ?_
    refine jr_getR (q := 20) (ci := 10) (Cn := RX10) (T := TX10) (N := 7) (j := 2) C mf_0 rfl rfl (by decide) rfl 6 0 rfl rfl rfl nX10_heard_10 mX10_heard_1 dX10_heard_17 rfl rfl ?_
    refine jr_iload_n (q := 21) C 1 dX10_heard_20 rfl rfl rfl ?_
    refine jr_cvI (q := 24) (As := [.int p1]) (rest := []) C (f := 6) (i := 0) (ci := 0) mf_6 rfl rfl rfl (kX0_has l p1) rfl gX10_heard_X0_has rfl dsc_X0_has ⟨rfl, rfl⟩ ⟨by decide, by decide⟩ rfl rfl (Nat.le_of_ble_eq_true rfl) dX10_heard_21 rfl h (fun r2 μ1 h => ?_)
    refine jr_if_eq (q := 27) (tgt := 41) C dX10_heard_24 (by decide) rfl (fun c8 => ?_) (fun c8 => ?_)
    · replace h := h.1 c8
      refine jr_ldc (q := 43) (v := (-1000001 : Int32)) C dX10_heard_41 mX10_heard_6 rfl ?_
      exact jr_iret C hr hk dX10_heard_43 h
    · replace h := h.2 c8
      refine jr_aload_n (q := 28) C 0 dX10_heard_27 rfl rfl rfl ?_
      refine jr_getR (q := 31) (ci := 10) (Cn := RX10) (T := TX10) (N := 7) (j := 2) C mf_0 rfl rfl (by decide) rfl 6 0 rfl rfl rfl nX10_heard_10 mX10_heard_1 dX10_heard_28 rfl rfl ?_
      refine jr_getR (q := 34) (ci := 0) (Cn := RX0) (T := TX0) (N := 11) (j := 5) C mf_6 rfl rfl (by decide) rfl 15 0 rfl rfl rfl nX10_heard_0 mX10_heard_3 dX10_heard_31 rfl rfl ?_
      refine jr_iload_n (q := 35) C 1 dX10_heard_34 rfl rfl rfl ?_
      refine jr_cvI (q := 38) (As := [.int p1]) (rest := []) C (f := 15) (i := 0) (ci := 3) mf_15 rfl rfl rfl (kX3_isOf l p1) rfl gX10_heard_X3_isOf rfl dsc_X3_isOf ⟨rfl, rfl⟩ ⟨by decide, by decide⟩ rfl rfl (Nat.le_of_ble_eq_true rfl) dX10_heard_35 rfl h (fun r4 μ3 h => ?_)
      refine jr_if_eq (q := 41) (tgt := 44) C dX10_heard_38 (by decide) rfl (fun c7 => ?_) (fun c7 => ?_)
      · replace h := h.1 c7
        refine jr_aload_n (q := 45) C 0 dX10_heard_44 rfl rfl rfl ?_
        refine jr_getR (q := 48) (ci := 10) (Cn := RX10) (T := TX10) (N := 7) (j := 2) C mf_0 rfl rfl (by decide) rfl 6 0 rfl rfl rfl nX10_heard_10 mX10_heard_1 dX10_heard_45 rfl rfl ?_
        refine jr_iload_n (q := 49) C 1 dX10_heard_48 rfl rfl rfl ?_
        refine jr_cvI (q := 52) (As := [.int p1]) (rest := []) C (f := 6) (i := 0) (ci := 0) mf_6 rfl rfl rfl (kX0_heardBy l p1) rfl gX10_heard_X0_heardBy rfl dsc_X0_heardBy ⟨rfl, rfl⟩ ⟨by decide, by decide⟩ rfl rfl (Nat.le_of_ble_eq_true rfl) dX10_heard_49 rfl h (fun r6 μ5 h => ?_)
        exact jr_iret C hr hk dX10_heard_52 h
      · replace h := h.2 c7
        refine jr_ldc (q := 43) (v := (-1000001 : Int32)) C dX10_heard_41 mX10_heard_6 rfl ?_
        exact jr_iret C hr hk dX10_heard_43 h
  · replace h := h.2 c9
    refine jr_ldc (q := 15) (v := (-1000003 : Int32)) C dX10_heard_13 mX10_heard_7 rfl ?_
    exact jr_iret C hr hk dX10_heard_15 h
theorem nX10_range_10 : ∀ w ∈ wsX100, w ∈ wsX10_range := fun _ h => List.mem_cons_of_mem _ (List.mem_append_left _ (List.mem_append_left _ (List.mem_append_left _ (List.mem_append_right _ h))))
theorem mX10_range_1 : Cond.fieldLink RX10 26 RX10 (TX10 2).2.1 (TX10 2).2.2.1 ∈ wsX10_range := List.mem_of_getElem? (i := 1) (by decide +kernel)
theorem nX10_range_4 : ∀ w ∈ wsX40, w ∈ wsX10_range := fun _ h => List.mem_cons_of_mem _ (List.mem_append_left _ (List.mem_append_left _ (List.mem_append_right _ h)))
theorem mX10_range_3 : Cond.fieldLink RX10 141 RX4 (TX4 4).2.1 (TX4 4).2.2.1 ∈ wsX10_range := List.mem_of_getElem? (i := 3) (by decide +kernel)
theorem mX10_range_4 : Cond.constant RX10 64 (-1000001) ∈ wsX10_range := List.mem_of_getElem? (i := 2) (by decide +kernel)
theorem dsc_X10_range : yX10_range.cls ≠ "java/lang/invoke/MethodHandle" ∧ yX10_range.cls ≠ "java/lang/invoke/VarHandle" ∧ (parseMethodDescriptor yX10_range.desc).map (fun d => d.parameters.length) = some 2 := by decide +kernel
def pX10_range (Po : Int32 → mm_T → Prop) (μ : mm_T) (p1 : Int32) (p2 : Int32) : Prop := pX0_hasPair (fun r2 μ1 => (¬ r2 = 0 → pX0_linkOf (fun r4 μ3 => (r4 < 49) ∧ (Po (μ3.1 12 r4 4) μ3)) μ1 p1 p2) ∧ (r2 = 0 → Po (-1000001 : Int32) μ1)) μ p1 p2
set_option maxHeartbeats 4000000 in
set_option maxRecDepth 100000 in
theorem kX10_range (l : Launch) (p1 : Int32) (p2 : Int32) : mm_CI l yX10_range wsX10_range ({ frames := 3, cells := 0, slots := 0, locals := 64 }) (fun z => [.ref (z + mm_ad 0 0), .int p1, .int p2]) (fun μ Po => pX10_range Po μ p1 p2) := by
  refine je_I (cc := cX10_range) (nL := 3) (own := RX10) (plainFor_of_name (by decide)) rfl rfl (fun _ => Nat.le_of_ble_eq_true rfl) ?_
  intro p e s m args below meth c D cy z μ Po C hr hk h
  change jJ p l e ({ frames := 3, cells := 0, slots := 0, locals := 64 }) s m args below meth c D cy z (MQ below (va_Qi Po (mm_Po D cy z) (mm_A z)) args s 0 0 (mm_A z)) 3 μ 0 [(0, .ref (z + mm_ad 0 0)), (1, .int p1), (2, .int p2)] []
  replace h : pX10_range Po μ p1 p2 := h
  unfold pX10_range at h
  refine jr_aload_n (q := 1) C 0 dX10_range_0 rfl rfl rfl ?_
  refine jr_getR (q := 4) (ci := 10) (Cn := RX10) (T := TX10) (N := 7) (j := 2) C mf_0 rfl rfl (by decide) rfl 6 0 rfl rfl rfl nX10_range_10 mX10_range_1 dX10_range_1 rfl rfl ?_
  refine jr_iload_n (q := 5) C 1 dX10_range_4 rfl rfl rfl ?_
  refine jr_iload_n (q := 6) C 2 dX10_range_5 rfl rfl rfl ?_
  refine jr_cvI (q := 9) (As := [.int p1, .int p2]) (rest := []) C (f := 6) (i := 0) (ci := 0) mf_6 rfl rfl rfl (kX0_hasPair l p1 p2) rfl gX10_range_X0_hasPair rfl dsc_X0_hasPair ⟨rfl, rfl⟩ ⟨by decide, by decide⟩ rfl rfl (Nat.le_of_ble_eq_true rfl) dX10_range_6 rfl h (fun r2 μ1 h => ?_)
  refine jr_if_ne (q := 12) (tgt := 15) C dX10_range_9 (by decide) rfl (fun c6 => ?_) (fun c6 => ?_)
  · replace h := h.1 c6
    refine jr_aload_n (q := 16) C 0 dX10_range_15 rfl rfl rfl ?_
    refine jr_getR (q := 19) (ci := 10) (Cn := RX10) (T := TX10) (N := 7) (j := 2) C mf_0 rfl rfl (by decide) rfl 6 0 rfl rfl rfl nX10_range_10 mX10_range_1 dX10_range_16 rfl rfl ?_
    refine jr_iload_n (q := 20) C 1 dX10_range_19 rfl rfl rfl ?_
    refine jr_iload_n (q := 21) C 2 dX10_range_20 rfl rfl rfl ?_
    refine jr_cvR (q := 24) (f0 := 12) (As := [.int p1, .int p2]) (rest := []) C (f := 6) (i := 0) (ci := 0) mf_6 rfl rfl rfl (kX0_linkOf l p1 p2) rfl gX10_range_X0_linkOf rfl dsc_X0_linkOf ⟨rfl, rfl⟩ ⟨by decide, by decide⟩ rfl rfl (Nat.le_of_ble_eq_true rfl) dX10_range_21 rfl h (fun r4 μ3 h => ?_)
    obtain ⟨g5, h⟩ := h
    refine jr_getI (q := 27) (ci := 4) (Cn := RX4) (T := TX4) (N := 5) (j := 4) C g5 rfl rfl (by decide) rfl rfl nX10_range_4 mX10_range_3 dX10_range_24 rfl rfl ?_
    exact jr_iret C hr hk dX10_range_27 h
  · replace h := h.2 c6
    refine jr_ldc (q := 14) (v := (-1000001 : Int32)) C dX10_range_12 mX10_range_4 rfl ?_
    exact jr_iret C hr hk dX10_range_14 h
theorem nX10_misfit_10 : ∀ w ∈ wsX100, w ∈ wsX10_misfit := fun _ h => List.mem_cons_of_mem _ (List.mem_append_left _ (List.mem_append_left _ (List.mem_append_left _ (List.mem_append_left _ (List.mem_append_left _ (List.mem_append_right _ h))))))
theorem mX10_misfit_1 : Cond.fieldLink RX10 26 RX10 (TX10 2).2.1 (TX10 2).2.2.1 ∈ wsX10_misfit := List.mem_of_getElem? (i := 1) (by decide +kernel)
theorem mX10_misfit_2 : Cond.constant RX10 30 (-1000002) ∈ wsX10_misfit := List.mem_of_getElem? (i := 3) (by decide +kernel)
theorem mX10_misfit_3 : Cond.constant RX10 64 (-1000001) ∈ wsX10_misfit := List.mem_of_getElem? (i := 2) (by decide +kernel)
theorem dsc_X10_misfit : yX10_misfit.cls ≠ "java/lang/invoke/MethodHandle" ∧ yX10_misfit.cls ≠ "java/lang/invoke/VarHandle" ∧ (parseMethodDescriptor yX10_misfit.desc).map (fun d => d.parameters.length) = some 3 := by decide +kernel
def pX10_misfit (Po : Int32 → mm_T → Prop) (μ : mm_T) (p1 : Int32) (p2 : Int32) (p3 : Int32) : Prop := pX0_isTag (fun r2 μ1 => (¬ r2 = 0 → (p2 < 0 → Po (-1000002 : Int32) μ1) ∧ (¬ (p2 < 0) → ((32 : Int32) ≤ p2 → Po (-1000002 : Int32) μ1) ∧ (¬ ((32 : Int32) ≤ p2) → (p3 < 0 → Po (-1000002 : Int32) μ1) ∧ (¬ (p3 < 0) → (p3 < (32 : Int32) → pX0_fittingOf (fun r4 μ3 => r4 = 0 ∧ (pX1_misfitAt (fun r6 μ5 => Po r6 μ5) μ3 p2 p3)) μ1 p1) ∧ (¬ (p3 < (32 : Int32)) → Po (-1000002 : Int32) μ1))))) ∧ (r2 = 0 → Po (-1000001 : Int32) μ1)) μ p1
set_option maxHeartbeats 4000000 in
set_option maxRecDepth 100000 in
theorem kX10_misfit (l : Launch) (p1 : Int32) (p2 : Int32) (p3 : Int32) : mm_CI l yX10_misfit wsX10_misfit ({ frames := 3, cells := 0, slots := 0, locals := 71 }) (fun z => [.ref (z + mm_ad 0 0), .int p1, .int p2, .int p3]) (fun μ Po => pX10_misfit Po μ p1 p2 p3) := by
  refine je_I (cc := cX10_misfit) (nL := 4) (own := RX10) (plainFor_of_name (by decide)) rfl rfl (fun _ => Nat.le_of_ble_eq_true rfl) ?_
  intro p e s m args below meth c D cy z μ Po C hr hk h
  change jJ p l e ({ frames := 3, cells := 0, slots := 0, locals := 71 }) s m args below meth c D cy z (MQ below (va_Qi Po (mm_Po D cy z) (mm_A z)) args s 0 0 (mm_A z)) 4 μ 0 [(0, .ref (z + mm_ad 0 0)), (1, .int p1), (2, .int p2), (3, .int p3)] []
  replace h : pX10_misfit Po μ p1 p2 p3 := h
  unfold pX10_misfit at h
  refine jr_aload_n (q := 1) C 0 dX10_misfit_0 rfl rfl rfl ?_
  refine jr_getR (q := 4) (ci := 10) (Cn := RX10) (T := TX10) (N := 7) (j := 2) C mf_0 rfl rfl (by decide) rfl 6 0 rfl rfl rfl nX10_misfit_10 mX10_misfit_1 dX10_misfit_1 rfl rfl ?_
  refine jr_iload_n (q := 5) C 1 dX10_misfit_4 rfl rfl rfl ?_
  refine jr_cvI (q := 8) (As := [.int p1]) (rest := []) C (f := 6) (i := 0) (ci := 0) mf_6 rfl rfl rfl (kX0_isTag l p1) rfl gX10_misfit_X0_isTag rfl dsc_X0_isTag ⟨rfl, rfl⟩ ⟨by decide, by decide⟩ rfl rfl (Nat.le_of_ble_eq_true rfl) dX10_misfit_5 rfl h (fun r2 μ1 h => ?_)
  refine jr_if_ne (q := 11) (tgt := 14) C dX10_misfit_8 (by decide) rfl (fun c11 => ?_) (fun c11 => ?_)
  · replace h := h.1 c11
    refine jr_iload_n (q := 15) C 2 dX10_misfit_14 rfl rfl rfl ?_
    refine jr_if_lt (q := 18) (tgt := 34) C dX10_misfit_15 (by decide) rfl (fun c10 => ?_) (fun c10 => ?_)
    · replace h := h.1 c10
      refine jr_ldc (q := 36) (v := (-1000002 : Int32)) C dX10_misfit_34 mX10_misfit_2 rfl ?_
      exact jr_iret C hr hk dX10_misfit_36 h
    · replace h := h.2 c10
      refine jr_iload_n (q := 19) C 2 dX10_misfit_18 rfl rfl rfl ?_
      refine jr_bipush (q := 21) (v := (32 : Int32)) C dX10_misfit_19 (by decide) rfl ?_
      refine jr_icmp_ge (q := 24) (tgt := 34) C dX10_misfit_21 (by decide) rfl (fun c9 => ?_) (fun c9 => ?_)
      · replace h := h.1 c9
        refine jr_ldc (q := 36) (v := (-1000002 : Int32)) C dX10_misfit_34 mX10_misfit_2 rfl ?_
        exact jr_iret C hr hk dX10_misfit_36 h
      · replace h := h.2 c9
        refine jr_iload_n (q := 25) C 3 dX10_misfit_24 rfl rfl rfl ?_
        refine jr_if_lt (q := 28) (tgt := 34) C dX10_misfit_25 (by decide) rfl (fun c8 => ?_) (fun c8 => ?_)
        · replace h := h.1 c8
          refine jr_ldc (q := 36) (v := (-1000002 : Int32)) C dX10_misfit_34 mX10_misfit_2 rfl ?_
          exact jr_iret C hr hk dX10_misfit_36 h
        · replace h := h.2 c8
          refine jr_iload_n (q := 29) C 3 dX10_misfit_28 rfl rfl rfl ?_
          refine jr_bipush (q := 31) (v := (32 : Int32)) C dX10_misfit_29 (by decide) rfl ?_
          refine jr_icmp_lt (q := 34) (tgt := 37) C dX10_misfit_31 (by decide) rfl (fun c7 => ?_) (fun c7 => ?_)
          · replace h := h.1 c7
            refine jr_aload_n (q := 38) C 0 dX10_misfit_37 rfl rfl rfl ?_
            refine jr_getR (q := 41) (ci := 10) (Cn := RX10) (T := TX10) (N := 7) (j := 2) C mf_0 rfl rfl (by decide) rfl 6 0 rfl rfl rfl nX10_misfit_10 mX10_misfit_1 dX10_misfit_38 rfl rfl ?_
            refine jr_iload_n (q := 42) C 1 dX10_misfit_41 rfl rfl rfl ?_
            refine jr_cvR (q := 45) (f0 := 21) (As := [.int p1]) (rest := []) C (f := 6) (i := 0) (ci := 0) mf_6 rfl rfl rfl (kX0_fittingOf l p1) rfl gX10_misfit_X0_fittingOf rfl dsc_X0_fittingOf ⟨rfl, rfl⟩ ⟨by decide, by decide⟩ rfl rfl (Nat.le_of_ble_eq_true rfl) dX10_misfit_42 rfl h (fun r4 μ3 h => ?_)
            obtain ⟨e9, h⟩ := h
            subst e9
            refine jr_iload_n (q := 46) C 2 dX10_misfit_45 rfl rfl rfl ?_
            refine jr_iload_n (q := 47) C 3 dX10_misfit_46 rfl rfl rfl ?_
            refine jr_cvI (q := 50) (As := [.int p2, .int p3]) (rest := []) C (f := 21) (i := 0) (ci := 1) mf_21 rfl rfl rfl (kX1_misfitAt l p2 p3) rfl gX10_misfit_X1_misfitAt rfl dsc_X1_misfitAt ⟨rfl, rfl⟩ ⟨by decide, by decide⟩ rfl rfl (Nat.le_of_ble_eq_true rfl) dX10_misfit_47 rfl h (fun r6 μ5 h => ?_)
            exact jr_iret C hr hk dX10_misfit_50 h
          · replace h := h.2 c7
            refine jr_ldc (q := 36) (v := (-1000002 : Int32)) C dX10_misfit_34 mX10_misfit_2 rfl ?_
            exact jr_iret C hr hk dX10_misfit_36 h
  · replace h := h.2 c11
    refine jr_ldc (q := 13) (v := (-1000001 : Int32)) C dX10_misfit_11 mX10_misfit_3 rfl ?_
    exact jr_iret C hr hk dX10_misfit_13 h
theorem nX10_placed_10 : ∀ w ∈ wsX100, w ∈ wsX10_placed := fun _ h => List.mem_cons_of_mem _ (List.mem_append_left _ (List.mem_append_left _ (List.mem_append_left _ (List.mem_append_left _ (List.mem_append_left _ (List.mem_append_left _ (List.mem_append_right _ h)))))))
theorem mX10_placed_1 : Cond.fieldLink RX10 26 RX10 (TX10 2).2.1 (TX10 2).2.2.1 ∈ wsX10_placed := List.mem_of_getElem? (i := 1) (by decide +kernel)
theorem mX10_placed_2 : Cond.constant RX10 30 (-1000002) ∈ wsX10_placed := List.mem_of_getElem? (i := 3) (by decide +kernel)
theorem mX10_placed_3 : Cond.constant RX10 51 (-1000003) ∈ wsX10_placed := List.mem_of_getElem? (i := 4) (by decide +kernel)
theorem mX10_placed_4 : Cond.constant RX10 64 (-1000001) ∈ wsX10_placed := List.mem_of_getElem? (i := 2) (by decide +kernel)
theorem dsc_X10_placed : yX10_placed.cls ≠ "java/lang/invoke/MethodHandle" ∧ yX10_placed.cls ≠ "java/lang/invoke/VarHandle" ∧ (parseMethodDescriptor yX10_placed.desc).map (fun d => d.parameters.length) = some 2 := by decide +kernel
def pX10_placed (Po : Int32 → mm_T → Prop) (μ : mm_T) (p1 : Int32) (p2 : Int32) : Prop := pX0_isTag (fun r2 μ1 => (¬ r2 = 0 → (p2 < 0 → Po (-1000002 : Int32) μ1) ∧ (¬ (p2 < 0) → (p2 ≤ (4 : Int32) → pX0_isPlaced (fun r4 μ3 => (¬ r4 = 0 → pX0_placingOf (fun r6 μ5 => (r6 < 7) ∧ (pX7_tell (fun r9 μ8 => Po r9 μ8) μ5 r6 p2)) μ3 p1) ∧ (r4 = 0 → Po (-1000003 : Int32) μ3)) μ1 p1) ∧ (¬ (p2 ≤ (4 : Int32)) → Po (-1000002 : Int32) μ1))) ∧ (r2 = 0 → Po (-1000001 : Int32) μ1)) μ p1
set_option maxHeartbeats 4000000 in
set_option maxRecDepth 100000 in
theorem kX10_placed (l : Launch) (p1 : Int32) (p2 : Int32) : mm_CI l yX10_placed wsX10_placed ({ frames := 5, cells := 0, slots := 0, locals := 119 }) (fun z => [.ref (z + mm_ad 0 0), .int p1, .int p2]) (fun μ Po => pX10_placed Po μ p1 p2) := by
  refine je_I (cc := cX10_placed) (nL := 3) (own := RX10) (plainFor_of_name (by decide)) rfl rfl (fun _ => Nat.le_of_ble_eq_true rfl) ?_
  intro p e s m args below meth c D cy z μ Po C hr hk h
  change jJ p l e ({ frames := 5, cells := 0, slots := 0, locals := 119 }) s m args below meth c D cy z (MQ below (va_Qi Po (mm_Po D cy z) (mm_A z)) args s 0 0 (mm_A z)) 3 μ 0 [(0, .ref (z + mm_ad 0 0)), (1, .int p1), (2, .int p2)] []
  replace h : pX10_placed Po μ p1 p2 := h
  unfold pX10_placed at h
  refine jr_aload_n (q := 1) C 0 dX10_placed_0 rfl rfl rfl ?_
  refine jr_getR (q := 4) (ci := 10) (Cn := RX10) (T := TX10) (N := 7) (j := 2) C mf_0 rfl rfl (by decide) rfl 6 0 rfl rfl rfl nX10_placed_10 mX10_placed_1 dX10_placed_1 rfl rfl ?_
  refine jr_iload_n (q := 5) C 1 dX10_placed_4 rfl rfl rfl ?_
  refine jr_cvI (q := 8) (As := [.int p1]) (rest := []) C (f := 6) (i := 0) (ci := 0) mf_6 rfl rfl rfl (kX0_isTag l p1) rfl gX10_placed_X0_isTag rfl dsc_X0_isTag ⟨rfl, rfl⟩ ⟨by decide, by decide⟩ rfl rfl (Nat.le_of_ble_eq_true rfl) dX10_placed_5 rfl h (fun r2 μ1 h => ?_)
  refine jr_if_ne (q := 11) (tgt := 14) C dX10_placed_8 (by decide) rfl (fun c13 => ?_) (fun c13 => ?_)
  · replace h := h.1 c13
    refine jr_iload_n (q := 15) C 2 dX10_placed_14 rfl rfl rfl ?_
    refine jr_if_lt (q := 18) (tgt := 23) C dX10_placed_15 (by decide) rfl (fun c12 => ?_) (fun c12 => ?_)
    · replace h := h.1 c12
      refine jr_ldc (q := 25) (v := (-1000002 : Int32)) C dX10_placed_23 mX10_placed_2 rfl ?_
      exact jr_iret C hr hk dX10_placed_25 h
    · replace h := h.2 c12
      refine jr_iload_n (q := 19) C 2 dX10_placed_18 rfl rfl rfl ?_
      refine jr_iconst (q := 20) (v := (4 : Int32)) C dX10_placed_19 (by decide) rfl ?_
      refine jr_icmp_le (q := 23) (tgt := 26) C dX10_placed_20 (by decide) rfl (fun c11 => ?_) (fun c11 => ?_)
      · replace h := h.1 c11
        refine jr_aload_n (q := 27) C 0 dX10_placed_26 rfl rfl rfl ?_
        refine jr_getR (q := 30) (ci := 10) (Cn := RX10) (T := TX10) (N := 7) (j := 2) C mf_0 rfl rfl (by decide) rfl 6 0 rfl rfl rfl nX10_placed_10 mX10_placed_1 dX10_placed_27 rfl rfl ?_
        refine jr_iload_n (q := 31) C 1 dX10_placed_30 rfl rfl rfl ?_
        refine jr_cvI (q := 34) (As := [.int p1]) (rest := []) C (f := 6) (i := 0) (ci := 0) mf_6 rfl rfl rfl (kX0_isPlaced l p1) rfl gX10_placed_X0_isPlaced rfl dsc_X0_isPlaced ⟨rfl, rfl⟩ ⟨by decide, by decide⟩ rfl rfl (Nat.le_of_ble_eq_true rfl) dX10_placed_31 rfl h (fun r4 μ3 h => ?_)
        refine jr_if_ne (q := 37) (tgt := 40) C dX10_placed_34 (by decide) rfl (fun c10 => ?_) (fun c10 => ?_)
        · replace h := h.1 c10
          refine jr_aload_n (q := 41) C 0 dX10_placed_40 rfl rfl rfl ?_
          refine jr_getR (q := 44) (ci := 10) (Cn := RX10) (T := TX10) (N := 7) (j := 2) C mf_0 rfl rfl (by decide) rfl 6 0 rfl rfl rfl nX10_placed_10 mX10_placed_1 dX10_placed_41 rfl rfl ?_
          refine jr_iload_n (q := 45) C 1 dX10_placed_44 rfl rfl rfl ?_
          refine jr_cvR (q := 48) (f0 := 10) (As := [.int p1]) (rest := []) C (f := 6) (i := 0) (ci := 0) mf_6 rfl rfl rfl (kX0_placingOf l p1) rfl gX10_placed_X0_placingOf rfl dsc_X0_placingOf ⟨rfl, rfl⟩ ⟨by decide, by decide⟩ rfl rfl (Nat.le_of_ble_eq_true rfl) dX10_placed_45 rfl h (fun r6 μ5 h => ?_)
          refine jr_iload_n (q := 49) C 2 dX10_placed_48 rfl rfl rfl ?_
          obtain ⟨g7, h⟩ := h
          refine jr_cvI (q := 52) (As := [.int p2]) (rest := []) C (f := 10) (i := r6) (ci := 7) g7 rfl rfl rfl (kX7_tell l r6 p2) rfl gX10_placed_X7_tell rfl dsc_X7_tell ⟨rfl, rfl⟩ ⟨by decide, by decide⟩ rfl rfl (Nat.le_of_ble_eq_true rfl) dX10_placed_49 rfl h (fun r9 μ8 h => ?_)
          exact jr_iret C hr hk dX10_placed_52 h
        · replace h := h.2 c10
          refine jr_ldc (q := 39) (v := (-1000003 : Int32)) C dX10_placed_37 mX10_placed_3 rfl ?_
          exact jr_iret C hr hk dX10_placed_39 h
      · replace h := h.2 c11
        refine jr_ldc (q := 25) (v := (-1000002 : Int32)) C dX10_placed_23 mX10_placed_2 rfl ?_
        exact jr_iret C hr hk dX10_placed_25 h
  · replace h := h.2 c13
    refine jr_ldc (q := 13) (v := (-1000001 : Int32)) C dX10_placed_11 mX10_placed_4 rfl ?_
    exact jr_iret C hr hk dX10_placed_13 h
theorem nX10_limit_10 : ∀ w ∈ wsX100, w ∈ wsX10_limit := fun _ h => List.mem_cons_of_mem _ (List.mem_append_left _ (List.mem_append_left _ (List.mem_append_right _ h)))
theorem mX10_limit_1 : Cond.fieldLink RX10 26 RX10 (TX10 2).2.1 (TX10 2).2.2.1 ∈ wsX10_limit := List.mem_of_getElem? (i := 1) (by decide +kernel)
theorem mX10_limit_2 : Cond.constant RX10 30 (-1000002) ∈ wsX10_limit := List.mem_of_getElem? (i := 3) (by decide +kernel)
theorem nX10_limit_0 : ∀ w ∈ wsX00, w ∈ wsX10_limit := fun _ h => List.mem_cons_of_mem _ (List.mem_append_left _ (List.mem_append_right _ h))
theorem mX10_limit_4 : Cond.fieldLink RX10 166 RX0 (TX0 4).2.1 (TX0 4).2.2.1 ∈ wsX10_limit := List.mem_of_getElem? (i := 4) (by decide +kernel)
theorem mX10_limit_5 : Cond.constant RX10 51 (-1000003) ∈ wsX10_limit := List.mem_of_getElem? (i := 2) (by decide +kernel)
theorem dsc_X10_limit : yX10_limit.cls ≠ "java/lang/invoke/MethodHandle" ∧ yX10_limit.cls ≠ "java/lang/invoke/VarHandle" ∧ (parseMethodDescriptor yX10_limit.desc).map (fun d => d.parameters.length) = some 1 := by decide +kernel
def pX10_limit (Po : Int32 → mm_T → Prop) (μ : mm_T) (p1 : Int32) : Prop := pX0_isRead (fun r2 μ1 => (¬ r2 = 0 → (p1 < 0 → Po (-1000002 : Int32) μ1) ∧ (¬ (p1 < 0) → (p1 ≤ (9999 : Int32) → ∀ x3 : Int32, x3 = μ1.1 6 0 4 → (pX0_changeLimit (fun μ4 => Po x3 μ4) μ1 p1)) ∧ (¬ (p1 ≤ (9999 : Int32)) → Po (-1000002 : Int32) μ1))) ∧ (r2 = 0 → Po (-1000003 : Int32) μ1)) μ 
set_option maxHeartbeats 4000000 in
set_option maxRecDepth 100000 in
theorem kX10_limit (l : Launch) (p1 : Int32) : mm_CI l yX10_limit wsX10_limit ({ frames := 1, cells := 0, slots := 0, locals := 22 }) (fun z => [.ref (z + mm_ad 0 0), .int p1]) (fun μ Po => pX10_limit Po μ p1) := by
  refine je_I (cc := cX10_limit) (nL := 3) (own := RX10) (plainFor_of_name (by decide)) rfl rfl (fun _ => Nat.le_of_ble_eq_true rfl) ?_
  intro p e s m args below meth c D cy z μ Po C hr hk h
  change jJ p l e ({ frames := 1, cells := 0, slots := 0, locals := 22 }) s m args below meth c D cy z (MQ below (va_Qi Po (mm_Po D cy z) (mm_A z)) args s 0 0 (mm_A z)) 3 μ 0 [(0, .ref (z + mm_ad 0 0)), (1, .int p1)] []
  replace h : pX10_limit Po μ p1 := h
  unfold pX10_limit at h
  refine jr_aload_n (q := 1) C 0 dX10_limit_0 rfl rfl rfl ?_
  refine jr_getR (q := 4) (ci := 10) (Cn := RX10) (T := TX10) (N := 7) (j := 2) C mf_0 rfl rfl (by decide) rfl 6 0 rfl rfl rfl nX10_limit_10 mX10_limit_1 dX10_limit_1 rfl rfl ?_
  refine jr_cvI (q := 7) (As := []) (rest := []) C (f := 6) (i := 0) (ci := 0) mf_6 rfl rfl rfl (kX0_isRead l) rfl gX10_limit_X0_isRead rfl dsc_X0_isRead ⟨rfl, rfl⟩ ⟨by decide, by decide⟩ rfl rfl (Nat.le_of_ble_eq_true rfl) dX10_limit_4 rfl h (fun r2 μ1 h => ?_)
  refine jr_if_ne (q := 10) (tgt := 13) C dX10_limit_7 (by decide) rfl (fun c7 => ?_) (fun c7 => ?_)
  · replace h := h.1 c7
    refine jr_iload_n (q := 14) C 1 dX10_limit_13 rfl rfl rfl ?_
    refine jr_if_lt (q := 17) (tgt := 24) C dX10_limit_14 (by decide) rfl (fun c6 => ?_) (fun c6 => ?_)
    · replace h := h.1 c6
      refine jr_ldc (q := 26) (v := (-1000002 : Int32)) C dX10_limit_24 mX10_limit_2 rfl ?_
      exact jr_iret C hr hk dX10_limit_26 h
    · replace h := h.2 c6
      refine jr_iload_n (q := 18) C 1 dX10_limit_17 rfl rfl rfl ?_
      refine jr_sipush (q := 21) (v := (9999 : Int32)) C dX10_limit_18 (by decide) rfl ?_
      refine jr_icmp_le (q := 24) (tgt := 27) C dX10_limit_21 (by decide) rfl (fun c5 => ?_) (fun c5 => ?_)
      · replace h := h.1 c5
        refine jr_aload_n (q := 28) C 0 dX10_limit_27 rfl rfl rfl ?_
        refine jr_getR (q := 31) (ci := 10) (Cn := RX10) (T := TX10) (N := 7) (j := 2) C mf_0 rfl rfl (by decide) rfl 6 0 rfl rfl rfl nX10_limit_10 mX10_limit_1 dX10_limit_28 rfl rfl ?_
        refine jr_getI (q := 34) (ci := 0) (Cn := RX0) (T := TX0) (N := 11) (j := 4) C mf_6 rfl rfl (by decide) rfl rfl nX10_limit_0 mX10_limit_4 dX10_limit_31 rfl rfl ?_
        refine jn_int (fun x3 ex3 => ?_)
        replace h := h x3 ex3
        refine jr_istore_n (q := 35) (lv' := [(2, .int x3), (0, .ref (z + mm_ad 0 0)), (1, .int p1)]) C dX10_limit_34 rfl (by decide) rfl rfl ?_
        refine jr_aload_n (q := 36) C 1 dX10_limit_35 rfl rfl rfl ?_
        refine jr_getR (q := 39) (ci := 10) (Cn := RX10) (T := TX10) (N := 7) (j := 2) C mf_0 rfl rfl (by decide) rfl 6 0 rfl rfl rfl nX10_limit_10 mX10_limit_1 dX10_limit_36 rfl rfl ?_
        refine jr_iload_n (q := 40) C 2 dX10_limit_39 rfl rfl rfl ?_
        refine jr_cvV (q := 43) (As := [.int p1]) (rest := []) C (f := 6) (i := 0) (ci := 0) mf_6 rfl rfl rfl (kX0_changeLimit l p1) rfl gX10_limit_X0_changeLimit rfl dsc_X0_changeLimit ⟨rfl, rfl⟩ ⟨by decide, by decide⟩ rfl rfl (Nat.le_of_ble_eq_true rfl) dX10_limit_40 rfl h (fun μ4 h => ?_)
        refine jr_iload_n (q := 44) C 0 dX10_limit_43 rfl rfl rfl ?_
        exact jr_iret C hr hk dX10_limit_44 h
      · replace h := h.2 c5
        refine jr_ldc (q := 26) (v := (-1000002 : Int32)) C dX10_limit_24 mX10_limit_2 rfl ?_
        exact jr_iret C hr hk dX10_limit_26 h
  · replace h := h.2 c7
    refine jr_ldc (q := 12) (v := (-1000003 : Int32)) C dX10_limit_10 mX10_limit_5 rfl ?_
    exact jr_iret C hr hk dX10_limit_12 h
theorem nX10_want_10 : ∀ w ∈ wsX100, w ∈ wsX10_want := fun _ h => List.mem_cons_of_mem _ (List.mem_append_left _ (List.mem_append_left _ (List.mem_append_right _ h)))
theorem mX10_want_1 : Cond.fieldLink RX10 26 RX10 (TX10 2).2.1 (TX10 2).2.2.1 ∈ wsX10_want := List.mem_of_getElem? (i := 1) (by decide +kernel)
theorem mX10_want_2 : Cond.constant RX10 30 (-1000002) ∈ wsX10_want := List.mem_of_getElem? (i := 3) (by decide +kernel)
theorem nX10_want_0 : ∀ w ∈ wsX00, w ∈ wsX10_want := fun _ h => List.mem_cons_of_mem _ (List.mem_append_left _ (List.mem_append_right _ h))
theorem mX10_want_4 : Cond.fieldLink RX10 65 RX0 (TX0 0).2.1 (TX0 0).2.2.1 ∈ wsX10_want := List.mem_of_getElem? (i := 4) (by decide +kernel)
theorem nX10_want_5 : ∀ w ∈ wsX50, w ∈ wsX10_want := fun _ h => List.mem_cons_of_mem _ (List.mem_append_right _ h)
theorem mX10_want_6 : Cond.fieldLink RX10 177 RX5 (TX5 6).2.1 (TX5 6).2.2.1 ∈ wsX10_want := List.mem_of_getElem? (i := 5) (by decide +kernel)
theorem mX10_want_7 : Cond.constant RX10 64 (-1000001) ∈ wsX10_want := List.mem_of_getElem? (i := 2) (by decide +kernel)
theorem dsc_X10_want : yX10_want.cls ≠ "java/lang/invoke/MethodHandle" ∧ yX10_want.cls ≠ "java/lang/invoke/VarHandle" ∧ (parseMethodDescriptor yX10_want.desc).map (fun d => d.parameters.length) = some 2 := by decide +kernel
def pX10_want (Po : Int32 → mm_T → Prop) (μ : mm_T) (p1 : Int32) (p2 : Int32) : Prop := pX0_isTag (fun r2 μ1 => (¬ r2 = 0 → (p2 < 0 → Po (-1000002 : Int32) μ1) ∧ (¬ (p2 < 0) → ((16 : Int32) < p2 → Po (-1000002 : Int32) μ1) ∧ (¬ ((16 : Int32) < p2) → pJ6_bitCount_0f7a4 (fun r4 μ3 => (r4 ≤ (1 : Int32) → (vp_in p1 7) ∧ (∀ x6 : Int32, x6 = μ3.1 9 p1.toNatClampNeg 6 → ((vp_in p1 7) ∧ (∀ μ8 : mm_T, μ8 = mm_I μ3 9 p1.toNatClampNeg 6 p2 → (Po x6 μ8))))) ∧ (¬ (r4 ≤ (1 : Int32)) → Po (-1000002 : Int32) μ3)) μ1 p2))) ∧ (r2 = 0 → Po (-1000001 : Int32) μ1)) μ p1
set_option maxHeartbeats 4000000 in
set_option maxRecDepth 100000 in
theorem kX10_want (l : Launch) (p1 : Int32) (p2 : Int32) : mm_CI l yX10_want wsX10_want ({ frames := 2, cells := 0, slots := 0, locals := 42 }) (fun z => [.ref (z + mm_ad 0 0), .int p1, .int p2]) (fun μ Po => pX10_want Po μ p1 p2) := by
  refine je_I (cc := cX10_want) (nL := 4) (own := RX10) (plainFor_of_name (by decide)) rfl rfl (fun _ => Nat.le_of_ble_eq_true rfl) ?_
  intro p e s m args below meth c D cy z μ Po C hr hk h
  change jJ p l e ({ frames := 2, cells := 0, slots := 0, locals := 42 }) s m args below meth c D cy z (MQ below (va_Qi Po (mm_Po D cy z) (mm_A z)) args s 0 0 (mm_A z)) 4 μ 0 [(0, .ref (z + mm_ad 0 0)), (1, .int p1), (2, .int p2)] []
  replace h : pX10_want Po μ p1 p2 := h
  unfold pX10_want at h
  refine jr_aload_n (q := 1) C 0 dX10_want_0 rfl rfl rfl ?_
  refine jr_getR (q := 4) (ci := 10) (Cn := RX10) (T := TX10) (N := 7) (j := 2) C mf_0 rfl rfl (by decide) rfl 6 0 rfl rfl rfl nX10_want_10 mX10_want_1 dX10_want_1 rfl rfl ?_
  refine jr_iload_n (q := 5) C 1 dX10_want_4 rfl rfl rfl ?_
  refine jr_cvI (q := 8) (As := [.int p1]) (rest := []) C (f := 6) (i := 0) (ci := 0) mf_6 rfl rfl rfl (kX0_isTag l p1) rfl gX10_want_X0_isTag rfl dsc_X0_isTag ⟨rfl, rfl⟩ ⟨by decide, by decide⟩ rfl rfl (Nat.le_of_ble_eq_true rfl) dX10_want_5 rfl h (fun r2 μ1 h => ?_)
  refine jr_if_ne (q := 11) (tgt := 14) C dX10_want_8 (by decide) rfl (fun c12 => ?_) (fun c12 => ?_)
  · replace h := h.1 c12
    refine jr_iload_n (q := 15) C 2 dX10_want_14 rfl rfl rfl ?_
    refine jr_if_lt (q := 18) (tgt := 32) C dX10_want_15 (by decide) rfl (fun c11 => ?_) (fun c11 => ?_)
    · replace h := h.1 c11
      refine jr_ldc (q := 34) (v := (-1000002 : Int32)) C dX10_want_32 mX10_want_2 rfl ?_
      exact jr_iret C hr hk dX10_want_34 h
    · replace h := h.2 c11
      refine jr_iload_n (q := 19) C 2 dX10_want_18 rfl rfl rfl ?_
      refine jr_bipush (q := 21) (v := (16 : Int32)) C dX10_want_19 (by decide) rfl ?_
      refine jr_icmp_gt (q := 24) (tgt := 32) C dX10_want_21 (by decide) rfl (fun c10 => ?_) (fun c10 => ?_)
      · replace h := h.1 c10
        refine jr_ldc (q := 34) (v := (-1000002 : Int32)) C dX10_want_32 mX10_want_2 rfl ?_
        exact jr_iret C hr hk dX10_want_34 h
      · replace h := h.2 c10
        refine jr_iload_n (q := 25) C 2 dX10_want_24 rfl rfl rfl ?_
        refine jr_csI (q := 28) (As := [.int p2]) (rest := []) C  (kJ6_bitCount_0f7a4 l p2) rfl gX10_want_J6_bitCount_0f7a4 rfl dsc_J6_bitCount_0f7a4 ⟨rfl, rfl⟩ ⟨by decide, by decide⟩ rfl rfl (Nat.le_of_ble_eq_true rfl) dX10_want_25 rfl h (fun r4 μ3 h => ?_)
        refine jr_iconst (q := 29) (v := (1 : Int32)) C dX10_want_28 (by decide) rfl ?_
        refine jr_icmp_le (q := 32) (tgt := 35) C dX10_want_29 (by decide) rfl (fun c9 => ?_) (fun c9 => ?_)
        · replace h := h.1 c9
          refine jr_aload_n (q := 36) C 0 dX10_want_35 rfl rfl rfl ?_
          refine jr_getR (q := 39) (ci := 10) (Cn := RX10) (T := TX10) (N := 7) (j := 2) C mf_0 rfl rfl (by decide) rfl 6 0 rfl rfl rfl nX10_want_10 mX10_want_1 dX10_want_36 rfl rfl ?_
          refine jr_getR (q := 42) (ci := 0) (Cn := RX0) (T := TX0) (N := 11) (j := 0) C mf_6 rfl rfl (by decide) rfl 7 0 rfl rfl rfl nX10_want_0 mX10_want_4 dX10_want_39 rfl rfl ?_
          refine jr_iload_n (q := 43) C 1 dX10_want_42 rfl rfl rfl ?_
          obtain ⟨g5, h⟩ := h
          refine jr_aald (q := 44) (t := 1) C mf_7 9 (fun _ => rfl) (fun _ _ => rfl) rfl (by decide) g5 dX10_want_43 rfl ?_
          refine jr_getI (q := 47) (ci := 5) (Cn := RX5) (T := TX5) (N := 8) (j := 6) C (mm_lt g5) rfl rfl (by decide) rfl rfl nX10_want_5 mX10_want_6 dX10_want_44 rfl rfl ?_
          refine jn_int (fun x6 ex6 => ?_)
          replace h := h x6 ex6
          refine jr_istore_n (q := 48) (lv' := [(3, .int x6), (0, .ref (z + mm_ad 0 0)), (1, .int p1), (2, .int p2)]) C dX10_want_47 rfl (by decide) rfl rfl ?_
          refine jr_aload_n (q := 49) C 1 dX10_want_48 rfl rfl rfl ?_
          refine jr_getR (q := 52) (ci := 10) (Cn := RX10) (T := TX10) (N := 7) (j := 2) C mf_0 rfl rfl (by decide) rfl 6 0 rfl rfl rfl nX10_want_10 mX10_want_1 dX10_want_49 rfl rfl ?_
          refine jr_getR (q := 55) (ci := 0) (Cn := RX0) (T := TX0) (N := 11) (j := 0) C mf_6 rfl rfl (by decide) rfl 7 0 rfl rfl rfl nX10_want_0 mX10_want_4 dX10_want_52 rfl rfl ?_
          refine jr_iload_n (q := 56) C 2 dX10_want_55 rfl rfl rfl ?_
          obtain ⟨g7, h⟩ := h
          refine jr_aald (q := 57) (t := 1) C mf_7 9 (fun _ => rfl) (fun _ _ => rfl) rfl (by decide) g7 dX10_want_56 rfl ?_
          refine jr_iload_n (q := 58) C 3 dX10_want_57 rfl rfl rfl ?_
          refine jr_putI (q := 61) (ci := 5) (Cn := RX5) (T := TX5) (N := 8) (j := 6) C (mm_lt g7) rfl rfl (by decide) rfl rfl tyX5 tyX5_ok nmX5 rfl (by decide +kernel) nX10_want_5 mX10_want_6 dX10_want_58 rfl rfl ?_
          refine jn_mem (fun μ8 eμ8 => ?_)
          replace h := h μ8 eμ8
          refine jr_iload_n (q := 62) C 0 dX10_want_61 rfl rfl rfl ?_
          exact jr_iret C hr hk dX10_want_62 h
        · replace h := h.2 c9
          refine jr_ldc (q := 34) (v := (-1000002 : Int32)) C dX10_want_32 mX10_want_2 rfl ?_
          exact jr_iret C hr hk dX10_want_34 h
  · replace h := h.2 c12
    refine jr_ldc (q := 13) (v := (-1000001 : Int32)) C dX10_want_11 mX10_want_7 rfl ?_
    exact jr_iret C hr hk dX10_want_13 h
theorem nX10_deal_10 : ∀ w ∈ wsX100, w ∈ wsX10_deal := fun _ h => List.mem_cons_of_mem _ (List.mem_append_left _ (List.mem_append_left _ (List.mem_append_left _ (List.mem_append_right _ h))))
theorem mX10_deal_1 : Cond.fieldLink RX10 26 RX10 (TX10 2).2.1 (TX10 2).2.2.1 ∈ wsX10_deal := List.mem_of_getElem? (i := 1) (by decide +kernel)
theorem mX10_deal_2 : Cond.constant RX10 51 (-1000003) ∈ wsX10_deal := List.mem_of_getElem? (i := 2) (by decide +kernel)
theorem dsc_X10_deal : yX10_deal.cls ≠ "java/lang/invoke/MethodHandle" ∧ yX10_deal.cls ≠ "java/lang/invoke/VarHandle" ∧ (parseMethodDescriptor yX10_deal.desc).map (fun d => d.parameters.length) = some 0 := by decide +kernel
def pX10_deal (Po : Int32 → mm_T → Prop) (μ : mm_T) : Prop := pX0_isRead (fun r2 μ1 => (¬ r2 = 0 → pX0_dealSlots (fun r4 μ3 => Po r4 μ3) μ1 ) ∧ (r2 = 0 → Po (-1000003 : Int32) μ1)) μ 
set_option maxHeartbeats 4000000 in
set_option maxRecDepth 100000 in
theorem kX10_deal (l : Launch) : mm_CI l yX10_deal wsX10_deal ({ frames := 4, cells := 0, slots := 0, locals := 93 }) (fun z => [.ref (z + mm_ad 0 0)]) (fun μ Po => pX10_deal Po μ) := by
  refine je_I (cc := cX10_deal) (nL := 1) (own := RX10) (plainFor_of_name (by decide)) rfl rfl (fun _ => Nat.le_of_ble_eq_true rfl) ?_
  intro p e s m args below meth c D cy z μ Po C hr hk h
  change jJ p l e ({ frames := 4, cells := 0, slots := 0, locals := 93 }) s m args below meth c D cy z (MQ below (va_Qi Po (mm_Po D cy z) (mm_A z)) args s 0 0 (mm_A z)) 1 μ 0 [(0, .ref (z + mm_ad 0 0))] []
  replace h : pX10_deal Po μ := h
  unfold pX10_deal at h
  refine jr_aload_n (q := 1) C 0 dX10_deal_0 rfl rfl rfl ?_
  refine jr_getR (q := 4) (ci := 10) (Cn := RX10) (T := TX10) (N := 7) (j := 2) C mf_0 rfl rfl (by decide) rfl 6 0 rfl rfl rfl nX10_deal_10 mX10_deal_1 dX10_deal_1 rfl rfl ?_
  refine jr_cvI (q := 7) (As := []) (rest := []) C (f := 6) (i := 0) (ci := 0) mf_6 rfl rfl rfl (kX0_isRead l) rfl gX10_deal_X0_isRead rfl dsc_X0_isRead ⟨rfl, rfl⟩ ⟨by decide, by decide⟩ rfl rfl (Nat.le_of_ble_eq_true rfl) dX10_deal_4 rfl h (fun r2 μ1 h => ?_)
  refine jr_if_ne (q := 10) (tgt := 13) C dX10_deal_7 (by decide) rfl (fun c5 => ?_) (fun c5 => ?_)
  · replace h := h.1 c5
    refine jr_aload_n (q := 14) C 0 dX10_deal_13 rfl rfl rfl ?_
    refine jr_getR (q := 17) (ci := 10) (Cn := RX10) (T := TX10) (N := 7) (j := 2) C mf_0 rfl rfl (by decide) rfl 6 0 rfl rfl rfl nX10_deal_10 mX10_deal_1 dX10_deal_14 rfl rfl ?_
    refine jr_cvI (q := 20) (As := []) (rest := []) C (f := 6) (i := 0) (ci := 0) mf_6 rfl rfl rfl (kX0_dealSlots l) rfl gX10_deal_X0_dealSlots rfl dsc_X0_dealSlots ⟨rfl, rfl⟩ ⟨by decide, by decide⟩ rfl rfl (Nat.le_of_ble_eq_true rfl) dX10_deal_17 rfl h (fun r4 μ3 h => ?_)
    exact jr_iret C hr hk dX10_deal_20 h
  · replace h := h.2 c5
    refine jr_ldc (q := 12) (v := (-1000003 : Int32)) C dX10_deal_10 mX10_deal_2 rfl ?_
    exact jr_iret C hr hk dX10_deal_12 h
theorem nX10_slot_10 : ∀ w ∈ wsX100, w ∈ wsX10_slot := fun _ h => List.mem_cons_of_mem _ (List.mem_append_left _ (List.mem_append_left _ (List.mem_append_right _ h)))
theorem mX10_slot_1 : Cond.fieldLink RX10 26 RX10 (TX10 2).2.1 (TX10 2).2.2.1 ∈ wsX10_slot := List.mem_of_getElem? (i := 1) (by decide +kernel)
theorem mX10_slot_2 : Cond.constant RX10 64 (-1000001) ∈ wsX10_slot := List.mem_of_getElem? (i := 3) (by decide +kernel)
theorem nX10_slot_0 : ∀ w ∈ wsX00, w ∈ wsX10_slot := fun _ h => List.mem_cons_of_mem _ (List.mem_append_left _ (List.mem_append_right _ h))
theorem mX10_slot_4 : Cond.fieldLink RX10 184 RX0 (TX0 6).2.1 (TX0 6).2.2.1 ∈ wsX10_slot := List.mem_of_getElem? (i := 4) (by decide +kernel)
theorem nX10_slot_9 : ∀ w ∈ wsX90, w ∈ wsX10_slot := fun _ h => List.mem_cons_of_mem _ (List.mem_append_right _ h)
theorem mX10_slot_6 : Cond.fieldLink RX10 188 RX9 (TX9 0).2.1 (TX9 0).2.2.1 ∈ wsX10_slot := List.mem_of_getElem? (i := 5) (by decide +kernel)
theorem mX10_slot_7 : Cond.constant RX10 51 (-1000003) ∈ wsX10_slot := List.mem_of_getElem? (i := 2) (by decide +kernel)
theorem dsc_X10_slot : yX10_slot.cls ≠ "java/lang/invoke/MethodHandle" ∧ yX10_slot.cls ≠ "java/lang/invoke/VarHandle" ∧ (parseMethodDescriptor yX10_slot.desc).map (fun d => d.parameters.length) = some 1 := by decide +kernel
def pX10_slot (Po : Int32 → mm_T → Prop) (μ : mm_T) (p1 : Int32) : Prop := pX0_isRead (fun r2 μ1 => (¬ r2 = 0 → (p1 < 0 → Po (-1000001 : Int32) μ1) ∧ (¬ (p1 < 0) → (p1 < (16 : Int32) → (vp_in p1 16) ∧ (Po (μ1.1 18 0 p1.toNatClampNeg) μ1)) ∧ (¬ (p1 < (16 : Int32)) → Po (-1000001 : Int32) μ1))) ∧ (r2 = 0 → Po (-1000003 : Int32) μ1)) μ 
set_option maxHeartbeats 4000000 in
set_option maxRecDepth 100000 in
theorem kX10_slot (l : Launch) (p1 : Int32) : mm_CI l yX10_slot wsX10_slot ({ frames := 1, cells := 0, slots := 0, locals := 20 }) (fun z => [.ref (z + mm_ad 0 0), .int p1]) (fun μ Po => pX10_slot Po μ p1) := by
  refine je_I (cc := cX10_slot) (nL := 2) (own := RX10) (plainFor_of_name (by decide)) rfl rfl (fun _ => Nat.le_of_ble_eq_true rfl) ?_
  intro p e s m args below meth c D cy z μ Po C hr hk h
  change jJ p l e ({ frames := 1, cells := 0, slots := 0, locals := 20 }) s m args below meth c D cy z (MQ below (va_Qi Po (mm_Po D cy z) (mm_A z)) args s 0 0 (mm_A z)) 2 μ 0 [(0, .ref (z + mm_ad 0 0)), (1, .int p1)] []
  replace h : pX10_slot Po μ p1 := h
  unfold pX10_slot at h
  refine jr_aload_n (q := 1) C 0 dX10_slot_0 rfl rfl rfl ?_
  refine jr_getR (q := 4) (ci := 10) (Cn := RX10) (T := TX10) (N := 7) (j := 2) C mf_0 rfl rfl (by decide) rfl 6 0 rfl rfl rfl nX10_slot_10 mX10_slot_1 dX10_slot_1 rfl rfl ?_
  refine jr_cvI (q := 7) (As := []) (rest := []) C (f := 6) (i := 0) (ci := 0) mf_6 rfl rfl rfl (kX0_isRead l) rfl gX10_slot_X0_isRead rfl dsc_X0_isRead ⟨rfl, rfl⟩ ⟨by decide, by decide⟩ rfl rfl (Nat.le_of_ble_eq_true rfl) dX10_slot_4 rfl h (fun r2 μ1 h => ?_)
  refine jr_if_ne (q := 10) (tgt := 13) C dX10_slot_7 (by decide) rfl (fun c6 => ?_) (fun c6 => ?_)
  · replace h := h.1 c6
    refine jr_iload_n (q := 14) C 1 dX10_slot_13 rfl rfl rfl ?_
    refine jr_if_lt (q := 17) (tgt := 23) C dX10_slot_14 (by decide) rfl (fun c5 => ?_) (fun c5 => ?_)
    · replace h := h.1 c5
      refine jr_ldc (q := 25) (v := (-1000001 : Int32)) C dX10_slot_23 mX10_slot_2 rfl ?_
      exact jr_iret C hr hk dX10_slot_25 h
    · replace h := h.2 c5
      refine jr_iload_n (q := 18) C 1 dX10_slot_17 rfl rfl rfl ?_
      refine jr_bipush (q := 20) (v := (16 : Int32)) C dX10_slot_18 (by decide) rfl ?_
      refine jr_icmp_lt (q := 23) (tgt := 26) C dX10_slot_20 (by decide) rfl (fun c4 => ?_) (fun c4 => ?_)
      · replace h := h.1 c4
        refine jr_aload_n (q := 27) C 0 dX10_slot_26 rfl rfl rfl ?_
        refine jr_getR (q := 30) (ci := 10) (Cn := RX10) (T := TX10) (N := 7) (j := 2) C mf_0 rfl rfl (by decide) rfl 6 0 rfl rfl rfl nX10_slot_10 mX10_slot_1 dX10_slot_27 rfl rfl ?_
        refine jr_getR (q := 33) (ci := 0) (Cn := RX0) (T := TX0) (N := 11) (j := 6) C mf_6 rfl rfl (by decide) rfl 17 0 rfl rfl rfl nX10_slot_0 mX10_slot_4 dX10_slot_30 rfl rfl ?_
        refine jr_getR (q := 36) (ci := 9) (Cn := RX9) (T := TX9) (N := 1) (j := 0) C mf_17 rfl rfl (by decide) rfl 18 0 rfl rfl rfl nX10_slot_9 mX10_slot_6 dX10_slot_33 rfl rfl ?_
        refine jr_iload_n (q := 37) C 1 dX10_slot_36 rfl rfl rfl ?_
        obtain ⟨g3, h⟩ := h
        refine jr_iald (q := 38) C mf_18 rfl g3 dX10_slot_37 rfl ?_
        exact jr_iret C hr hk dX10_slot_38 h
      · replace h := h.2 c4
        refine jr_ldc (q := 25) (v := (-1000001 : Int32)) C dX10_slot_23 mX10_slot_2 rfl ?_
        exact jr_iret C hr hk dX10_slot_25 h
  · replace h := h.2 c6
    refine jr_ldc (q := 12) (v := (-1000003 : Int32)) C dX10_slot_10 mX10_slot_7 rfl ?_
    exact jr_iret C hr hk dX10_slot_12 h
