theorem dsc_X11_within : yX11_within.cls ≠ "java/lang/invoke/MethodHandle" ∧ yX11_within.cls ≠ "java/lang/invoke/VarHandle" ∧ (parseMethodDescriptor yX11_within.desc).map (fun d => d.parameters.length) = some 3 := by decide +kernel
def pX11_within (Po : Int32 → mm_T → Prop) (μ : mm_T) (p1 : Int32) (p2 : Int32) (p3 : Int32) : Prop := (p1 < p2 → Po (0 : Int32) μ) ∧ (¬ (p1 < p2) → (p3 < p1 → Po (0 : Int32) μ) ∧ (¬ (p3 < p1) → Po (1 : Int32) μ))
set_option maxHeartbeats 4000000 in
set_option maxRecDepth 100000 in
theorem kX11_within (l : Launch) (p1 : Int32) (p2 : Int32) (p3 : Int32) : mm_CI l yX11_within wsX11_within ({ frames := 0, cells := 0, slots := 0, locals := 0 }) (fun z => [.int p1, .int p2, .int p3]) (fun μ Po => pX11_within Po μ p1 p2 p3) := by
  refine je_Z (cc := cX11_within) (nL := 3) (own := RX11) (plainFor_of_name (by decide)) rfl rfl (fun _ => Nat.le_of_ble_eq_true rfl) ?_
  intro p e s m args below meth c D cy z μ Po C hr hk h
  change jJ p l e ({ frames := 0, cells := 0, slots := 0, locals := 0 }) s m args below meth c D cy z (MQ below (va_Qi Po (mm_Po D cy z) (mm_A z)) args s 0 0 (mm_A z)) 3 μ 0 [(0, .int p1), (1, .int p2), (2, .int p3)] []
  replace h : pX11_within Po μ p1 p2 p3 := h
  unfold pX11_within at h
  refine jr_iload_n (q := 1) C 0 dX11_within_0 rfl rfl rfl ?_
  refine jr_iload_n (q := 2) C 1 dX11_within_1 rfl rfl rfl ?_
  refine jr_icmp_lt (q := 5) (tgt := 14) C dX11_within_2 (by decide) rfl (fun c2 => ?_) (fun c2 => ?_)
  · replace h := h.1 c2
    refine jr_iconst (q := 15) (v := (0 : Int32)) C dX11_within_14 (by decide) rfl ?_
    exact jr_zret C hr hk dX11_within_15 (by decide) h
  · replace h := h.2 c2
    refine jr_iload_n (q := 6) C 0 dX11_within_5 rfl rfl rfl ?_
    refine jr_iload_n (q := 7) C 2 dX11_within_6 rfl rfl rfl ?_
    refine jr_icmp_gt (q := 10) (tgt := 14) C dX11_within_7 (by decide) rfl (fun c1 => ?_) (fun c1 => ?_)
    · replace h := h.1 c1
      refine jr_iconst (q := 15) (v := (0 : Int32)) C dX11_within_14 (by decide) rfl ?_
      exact jr_zret C hr hk dX11_within_15 (by decide) h
    · replace h := h.2 c1
      refine jr_iconst (q := 11) (v := (1 : Int32)) C dX11_within_10 (by decide) rfl ?_
      refine jr_goto (tgt := 15) C dX11_within_11 (by decide) ?_
      exact jr_zret C hr hk dX11_within_15 (by decide) h
theorem nX11_letter_11 : ∀ w ∈ wsX110, w ∈ wsX11_letter := fun _ h => List.mem_cons_of_mem _ (List.mem_append_right _ h)
theorem mX11_letter_1 : Cond.fieldLink RX11 82 RX11 (TX11 0).2.1 (TX11 0).2.2.1 ∈ wsX11_letter := List.mem_of_getElem? (i := 2) (by decide +kernel)
theorem mX11_letter_2 : Cond.fieldLink RX11 7 RX11 (TX11 1).2.1 (TX11 1).2.2.1 ∈ wsX11_letter := List.mem_of_getElem? (i := 4) (by decide +kernel)
theorem mX11_letter_3 : Cond.constant RX11 86 (-1000004) ∈ wsX11_letter := List.mem_of_getElem? (i := 3) (by decide +kernel)
theorem mX11_letter_4 : Cond.constant RX11 81 (-1000002) ∈ wsX11_letter := List.mem_of_getElem? (i := 1) (by decide +kernel)
theorem dsc_X11_letter : yX11_letter.cls ≠ "java/lang/invoke/MethodHandle" ∧ yX11_letter.cls ≠ "java/lang/invoke/VarHandle" ∧ (parseMethodDescriptor yX11_letter.desc).map (fun d => d.parameters.length) = some 1 := by decide +kernel
def pX11_letter (Po : Int32 → mm_T → Prop) (μ : mm_T) (p1 : Int32) : Prop := pX11_within (fun r2 μ1 => (¬ r2 = 0 → (¬ (μ1.1 26 0 0) = (110 : Int32) → (vp_in (μ1.1 26 0 0) 110) ∧ (∀ μ4 : mm_T, μ4 = mm_I μ1 27 0 (μ1.1 26 0 0).toNatClampNeg p1 → (∀ μ5 : mm_T, μ5 = mm_I μ4 26 0 0 ((μ4.1 26 0 0) + (1 : Int32)) → (Po (μ5.1 26 0 0) μ5)))) ∧ ((μ1.1 26 0 0) = (110 : Int32) → Po (-1000004 : Int32) μ1)) ∧ (r2 = 0 → Po (-1000002 : Int32) μ1)) μ p1 (32 : Int32) (126 : Int32)
set_option maxHeartbeats 4000000 in
set_option maxRecDepth 100000 in
theorem kX11_letter (l : Launch) (p1 : Int32) : mm_CI l yX11_letter wsX11_letter ({ frames := 1, cells := 0, slots := 0, locals := 22 }) (fun z => [.ref (z + mm_ad 26 0), .int p1]) (fun μ Po => pX11_letter Po μ p1) := by
  refine je_I (cc := cX11_letter) (nL := 2) (own := RX11) (plainFor_of_name (by decide)) rfl rfl (fun _ => Nat.le_of_ble_eq_true rfl) ?_
  intro p e s m args below meth c D cy z μ Po C hr hk h
  change jJ p l e ({ frames := 1, cells := 0, slots := 0, locals := 22 }) s m args below meth c D cy z (MQ below (va_Qi Po (mm_Po D cy z) (mm_A z)) args s 0 0 (mm_A z)) 2 μ 0 [(0, .ref (z + mm_ad 26 0)), (1, .int p1)] []
  replace h : pX11_letter Po μ p1 := h
  unfold pX11_letter at h
  refine jr_iload_n (q := 1) C 1 dX11_letter_0 rfl rfl rfl ?_
  refine jr_bipush (q := 3) (v := (32 : Int32)) C dX11_letter_1 (by decide) rfl ?_
  refine jr_bipush (q := 5) (v := (126 : Int32)) C dX11_letter_3 (by decide) rfl ?_
  refine jr_csI (q := 8) (As := [.int p1, .int (32 : Int32), .int (126 : Int32)]) (rest := []) C  (kX11_within l p1 (32 : Int32) (126 : Int32)) rfl gX11_letter_X11_within rfl dsc_X11_within ⟨rfl, rfl⟩ ⟨by decide, by decide⟩ rfl rfl (Nat.le_of_ble_eq_true rfl) dX11_letter_5 rfl h (fun r2 μ1 h => ?_)
  refine jr_if_ne (q := 11) (tgt := 14) C dX11_letter_8 (by decide) rfl (fun c7 => ?_) (fun c7 => ?_)
  · replace h := h.1 c7
    refine jr_aload_n (q := 15) C 0 dX11_letter_14 rfl rfl rfl ?_
    refine jr_getI (q := 18) (ci := 11) (Cn := RX11) (T := TX11) (N := 42) (j := 0) C mf_26 rfl rfl (by decide) rfl rfl nX11_letter_11 mX11_letter_1 dX11_letter_15 rfl rfl ?_
    refine jr_bipush (q := 20) (v := (110 : Int32)) C dX11_letter_18 (by decide) rfl ?_
    refine jr_icmp_ne (q := 23) (tgt := 26) C dX11_letter_20 (by decide) rfl (fun c6 => ?_) (fun c6 => ?_)
    · replace h := h.1 c6
      refine jr_aload_n (q := 27) C 0 dX11_letter_26 rfl rfl rfl ?_
      refine jr_getR (q := 30) (ci := 11) (Cn := RX11) (T := TX11) (N := 42) (j := 1) C mf_26 rfl rfl (by decide) rfl 27 0 rfl rfl rfl nX11_letter_11 mX11_letter_2 dX11_letter_27 rfl rfl ?_
      refine jr_aload_n (q := 31) C 0 dX11_letter_30 rfl rfl rfl ?_
      refine jr_getI (q := 34) (ci := 11) (Cn := RX11) (T := TX11) (N := 42) (j := 0) C mf_26 rfl rfl (by decide) rfl rfl nX11_letter_11 mX11_letter_1 dX11_letter_31 rfl rfl ?_
      refine jr_iload_n (q := 35) C 1 dX11_letter_34 rfl rfl rfl ?_
      obtain ⟨g3, h⟩ := h
      refine jr_iast (q := 36) C mf_27 rfl g3 dX11_letter_35 rfl ?_
      refine jn_mem (fun μ4 eμ4 => ?_)
      replace h := h μ4 eμ4
      refine jr_aload_n (q := 37) C 0 dX11_letter_36 rfl rfl rfl ?_
      refine jr_dup (q := 38) C dX11_letter_37 rfl rfl ?_
      refine jr_getI (q := 41) (ci := 11) (Cn := RX11) (T := TX11) (N := 42) (j := 0) C mf_26 rfl rfl (by decide) rfl rfl nX11_letter_11 mX11_letter_1 dX11_letter_38 rfl rfl ?_
      refine jr_iconst (q := 42) (v := (1 : Int32)) C dX11_letter_41 (by decide) rfl ?_
      refine jr_iadd (q := 43) C dX11_letter_42 rfl ?_
      refine jr_putI (q := 46) (ci := 11) (Cn := RX11) (T := TX11) (N := 42) (j := 0) C mf_26 rfl rfl (by decide) rfl rfl tyX11 tyX11_ok nmX11 rfl (by decide +kernel) nX11_letter_11 mX11_letter_1 dX11_letter_43 rfl rfl ?_
      refine jn_mem (fun μ5 eμ5 => ?_)
      replace h := h μ5 eμ5
      refine jr_aload_n (q := 47) C 0 dX11_letter_46 rfl rfl rfl ?_
      refine jr_getI (q := 50) (ci := 11) (Cn := RX11) (T := TX11) (N := 42) (j := 0) C mf_26 rfl rfl (by decide) rfl rfl nX11_letter_11 mX11_letter_1 dX11_letter_47 rfl rfl ?_
      exact jr_iret C hr hk dX11_letter_50 h
    · replace h := h.2 c6
      refine jr_ldc (q := 25) (v := (-1000004 : Int32)) C dX11_letter_23 mX11_letter_3 rfl ?_
      exact jr_iret C hr hk dX11_letter_25 h
  · replace h := h.2 c7
    refine jr_ldc (q := 13) (v := (-1000002 : Int32)) C dX11_letter_11 mX11_letter_4 rfl ?_
    exact jr_iret C hr hk dX11_letter_13 h
theorem nX11_blank_11 : ∀ w ∈ wsX110, w ∈ wsX11_blank := fun _ h => List.mem_cons_of_mem _ (List.mem_append_right _ h)
theorem mX11_blank_1 : Cond.fieldLink RX11 82 RX11 (TX11 0).2.1 (TX11 0).2.2.1 ∈ wsX11_blank := List.mem_of_getElem? (i := 1) (by decide +kernel)
theorem dsc_X11_blank : yX11_blank.cls ≠ "java/lang/invoke/MethodHandle" ∧ yX11_blank.cls ≠ "java/lang/invoke/VarHandle" ∧ (parseMethodDescriptor yX11_blank.desc).map (fun d => d.parameters.length) = some 0 := by decide +kernel
def pX11_blank (Po : Int32 → mm_T → Prop) (μ : mm_T) : Prop := ∀ x1 : Int32, x1 = μ.1 26 0 0 → (∀ μ2 : mm_T, μ2 = mm_I μ 26 0 0 (0 : Int32) → (Po x1 μ2))
set_option maxHeartbeats 4000000 in
set_option maxRecDepth 100000 in
theorem kX11_blank (l : Launch) : mm_CI l yX11_blank wsX11_blank ({ frames := 0, cells := 0, slots := 0, locals := 0 }) (fun z => [.ref (z + mm_ad 26 0)]) (fun μ Po => pX11_blank Po μ) := by
  refine je_I (cc := cX11_blank) (nL := 2) (own := RX11) (plainFor_of_name (by decide)) rfl rfl (fun _ => Nat.le_of_ble_eq_true rfl) ?_
  intro p e s m args below meth c D cy z μ Po C hr hk h
  change jJ p l e ({ frames := 0, cells := 0, slots := 0, locals := 0 }) s m args below meth c D cy z (MQ below (va_Qi Po (mm_Po D cy z) (mm_A z)) args s 0 0 (mm_A z)) 2 μ 0 [(0, .ref (z + mm_ad 26 0))] []
  replace h : pX11_blank Po μ := h
  unfold pX11_blank at h
  refine jr_aload_n (q := 1) C 0 dX11_blank_0 rfl rfl rfl ?_
  refine jr_getI (q := 4) (ci := 11) (Cn := RX11) (T := TX11) (N := 42) (j := 0) C mf_26 rfl rfl (by decide) rfl rfl nX11_blank_11 mX11_blank_1 dX11_blank_1 rfl rfl ?_
  refine jn_int (fun x1 ex1 => ?_)
  replace h := h x1 ex1
  refine jr_istore_n (q := 5) (lv' := [(1, .int x1), (0, .ref (z + mm_ad 26 0))]) C dX11_blank_4 rfl (by decide) rfl rfl ?_
  refine jr_aload_n (q := 6) C 1 dX11_blank_5 rfl rfl rfl ?_
  refine jr_iconst (q := 7) (v := (0 : Int32)) C dX11_blank_6 (by decide) rfl ?_
  refine jr_putI (q := 10) (ci := 11) (Cn := RX11) (T := TX11) (N := 42) (j := 0) C mf_26 rfl rfl (by decide) rfl rfl tyX11 tyX11_ok nmX11 rfl (by decide +kernel) nX11_blank_11 mX11_blank_1 dX11_blank_7 rfl rfl ?_
  refine jn_mem (fun μ2 eμ2 => ?_)
  replace h := h μ2 eμ2
  refine jr_iload_n (q := 11) C 0 dX11_blank_10 rfl rfl rfl ?_
  exact jr_iret C hr hk dX11_blank_11 h
theorem nX11_takesKind_11 : ∀ w ∈ wsX110, w ∈ wsX11_takesKind := fun _ h => List.mem_cons_of_mem _ (List.mem_append_right _ h)
theorem mX11_takesKind_1 : Cond.fieldLink RX11 62 RX11 (TX11 36).2.1 (TX11 36).2.2.1 ∈ wsX11_takesKind := List.mem_of_getElem? (i := 2) (by decide +kernel)
theorem mX11_takesKind_2 : Cond.fieldLink RX11 90 RX11 (TX11 33).2.1 (TX11 33).2.2.1 ∈ wsX11_takesKind := List.mem_of_getElem? (i := 3) (by decide +kernel)
theorem mX11_takesKind_3 : Cond.fieldLink RX11 87 RX11 (TX11 34).2.1 (TX11 34).2.2.1 ∈ wsX11_takesKind := List.mem_of_getElem? (i := 1) (by decide +kernel)
theorem mX11_takesKind_4 : Cond.fieldLink RX11 93 RX11 (TX11 31).2.1 (TX11 31).2.2.1 ∈ wsX11_takesKind := List.mem_of_getElem? (i := 4) (by decide +kernel)
theorem mX11_takesKind_5 : Cond.fieldLink RX11 96 RX11 (TX11 32).2.1 (TX11 32).2.2.1 ∈ wsX11_takesKind := List.mem_of_getElem? (i := 5) (by decide +kernel)
theorem dsc_X11_takesKind : yX11_takesKind.cls ≠ "java/lang/invoke/MethodHandle" ∧ yX11_takesKind.cls ≠ "java/lang/invoke/VarHandle" ∧ (parseMethodDescriptor yX11_takesKind.desc).map (fun d => d.parameters.length) = some 1 := by decide +kernel
def pX11_takesKind_b66 (Po : Int32 → mm_T → Prop) (μ : mm_T) (a2 : Int32) (as0 : Int32) (as1 : Int32) : Prop := ∀ μ4 : mm_T, μ4 = mm_I μ 26 0 34 (as1 + as0) → (∀ μ5 : mm_T, μ5 = mm_I μ4 26 0 33 ((μ4.1 26 0 33) + (1 : Int32)) → (∀ μ6 : mm_T, μ6 = mm_I μ5 26 0 31 (1 : Int32) → (∀ μ7 : mm_T, μ7 = mm_I μ6 26 0 32 (-1 : Int32) → ((a2 = 0 ∨ a2 = 1) ∧ Po a2 μ7))))
def pX11_takesKind_b49 (Po : Int32 → mm_T → Prop) (μ : mm_T) (a1 : Int32) (a2 : Int32) (as0 : Int32) (as1 : Int32) : Prop := (vp_in as1 7) ∧ ((as0 = 0 ∨ as0 = 1) ∧ (∀ μ3 : mm_T, μ3 = mm_I μ 44 0 as1.toNatClampNeg as0 → ((¬ a1 = (116 : Int32) → pX11_takesKind_b66 Po μ3 a2 (0 : Int32) (μ3.1 26 0 34)) ∧ (a1 = (116 : Int32) → pX11_takesKind_b66 Po μ3 a2 (1 : Int32) (μ3.1 26 0 34)))))
def pX11_takesKind_b25 (Po : Int32 → mm_T → Prop) (μ : mm_T) (a1 : Int32) (as0 : Int32) : Prop := (as0 = 0 → (as0 = 0 ∨ as0 = 1) ∧ Po as0 μ) ∧ (¬ (as0 = 0) → (¬ a1 = (116 : Int32) → pX11_takesKind_b49 Po μ a1 as0 (0 : Int32) (μ.1 26 0 33)) ∧ (a1 = (116 : Int32) → pX11_takesKind_b49 Po μ a1 as0 (1 : Int32) (μ.1 26 0 33)))
def pX11_takesKind_b20 (Po : Int32 → mm_T → Prop) (μ : mm_T) (a1 : Int32) : Prop := pX11_takesKind_b25 Po μ a1 (1 : Int32)
def pX11_takesKind_b24 (Po : Int32 → mm_T → Prop) (μ : mm_T) (a1 : Int32) : Prop := pX11_takesKind_b25 Po μ a1 (0 : Int32)
def pX11_takesKind (Po : Int32 → mm_T → Prop) (μ : mm_T) (p1 : Int32) : Prop := (p1 = (97 : Int32) → pX11_takesKind_b20 Po μ p1) ∧ (¬ (p1 = (97 : Int32)) → (¬ p1 = (116 : Int32) → pX11_takesKind_b24 Po μ p1) ∧ (p1 = (116 : Int32) → ((4 : Int32) ≤ (μ.1 26 0 34) → pX11_takesKind_b24 Po μ p1) ∧ (¬ ((4 : Int32) ≤ (μ.1 26 0 34)) → pX11_takesKind_b20 Po μ p1)))
set_option maxHeartbeats 4000000 in
set_option maxRecDepth 100000 in
theorem kX11_takesKind (l : Launch) (p1 : Int32) : mm_CI l yX11_takesKind wsX11_takesKind ({ frames := 0, cells := 0, slots := 0, locals := 0 }) (fun z => [.ref (z + mm_ad 26 0), .int p1]) (fun μ Po => pX11_takesKind Po μ p1) := by
  refine je_Z (cc := cX11_takesKind) (nL := 3) (own := RX11) (plainFor_of_name (by decide)) rfl rfl (fun _ => Nat.le_of_ble_eq_true rfl) ?_
  intro p e s m args below meth c D cy z μ Po C hr hk h
  change jJ p l e ({ frames := 0, cells := 0, slots := 0, locals := 0 }) s m args below meth c D cy z (MQ below (va_Qi Po (mm_Po D cy z) (mm_A z)) args s 0 0 (mm_A z)) 3 μ 0 [(0, .ref (z + mm_ad 26 0)), (1, .int p1)] []
  replace h : pX11_takesKind Po μ p1 := h
  unfold pX11_takesKind at h
  refine jr_iload_n (q := 1) C 1 dX11_takesKind_0 rfl rfl rfl ?_
  refine jr_bipush (q := 3) (v := (97 : Int32)) C dX11_takesKind_1 (by decide) rfl ?_
  have b25 : ∀ (μ : mm_T) (a1 : Int32) (as0 : Int32), pX11_takesKind_b25 Po μ a1 as0 → jJ p l e ({ frames := 0, cells := 0, slots := 0, locals := 0 }) s m args below meth c D cy z (MQ below (va_Qi Po (mm_Po D cy z) (mm_A z)) args s 0 0 (mm_A z)) 3 μ 25 [(0, .ref (z + mm_ad 26 0)), (1, .int a1)] [.int as0] := by
    intro μ a1 as0 h
    unfold pX11_takesKind_b25 at h
    refine jr_istore_n (q := 26) (lv' := [(2, .int as0), (0, .ref (z + mm_ad 26 0)), (1, .int a1)]) C dX11_takesKind_25 rfl (by decide) rfl rfl ?_
    refine jr_iload_n (q := 27) C 0 dX11_takesKind_26 rfl rfl rfl ?_
    refine jr_if_eq (q := 30) (tgt := 90) C dX11_takesKind_27 (by decide) rfl (fun c10 => ?_) (fun c10 => ?_)
    · replace h := h.1 c10
      refine jr_iload_n (q := 91) C 0 dX11_takesKind_90 rfl rfl rfl ?_
      exact jr_zret C hr hk dX11_takesKind_91 h.1 h.2
    · replace h := h.2 c10
      refine jr_aload_n (q := 31) C 1 dX11_takesKind_30 rfl rfl rfl ?_
      refine jr_getR (q := 34) (ci := 11) (Cn := RX11) (T := TX11) (N := 42) (j := 36) C mf_26 rfl rfl (by decide) rfl 44 0 rfl rfl rfl nX11_takesKind_11 mX11_takesKind_1 dX11_takesKind_31 rfl rfl ?_
      refine jr_aload_n (q := 35) C 1 dX11_takesKind_34 rfl rfl rfl ?_
      refine jr_getI (q := 38) (ci := 11) (Cn := RX11) (T := TX11) (N := 42) (j := 33) C mf_26 rfl rfl (by decide) rfl rfl nX11_takesKind_11 mX11_takesKind_2 dX11_takesKind_35 rfl rfl ?_
      refine jr_iload_n (q := 39) C 2 dX11_takesKind_38 rfl rfl rfl ?_
      refine jr_bipush (q := 41) (v := (116 : Int32)) C dX11_takesKind_39 (by decide) rfl ?_
      have b49 : ∀ (μ : mm_T) (a1 : Int32) (a2 : Int32) (as0 : Int32) (as1 : Int32), pX11_takesKind_b49 Po μ a1 a2 as0 as1 → jJ p l e ({ frames := 0, cells := 0, slots := 0, locals := 0 }) s m args below meth c D cy z (MQ below (va_Qi Po (mm_Po D cy z) (mm_A z)) args s 0 0 (mm_A z)) 3 μ 49 [(0, .ref (z + mm_ad 26 0)), (1, .int a1), (2, .int a2)] [.int as0, .int as1, .ref (z + mm_ad 44 0)] := by
        intro μ a1 a2 as0 as1 h
        unfold pX11_takesKind_b49 at h
        obtain ⟨g1, h⟩ := h
        obtain ⟨g2, h⟩ := h
        refine jr_zast (q := 50) C mf_44 g2 rfl g1 dX11_takesKind_49 rfl ?_
        refine jn_mem (fun μ3 eμ3 => ?_)
        replace h := h μ3 eμ3
        refine jr_aload_n (q := 51) C 0 dX11_takesKind_50 rfl rfl rfl ?_
        refine jr_dup (q := 52) C dX11_takesKind_51 rfl rfl ?_
        refine jr_getI (q := 55) (ci := 11) (Cn := RX11) (T := TX11) (N := 42) (j := 34) C mf_26 rfl rfl (by decide) rfl rfl nX11_takesKind_11 mX11_takesKind_3 dX11_takesKind_52 rfl rfl ?_
        refine jr_iload_n (q := 56) C 1 dX11_takesKind_55 rfl rfl rfl ?_
        refine jr_bipush (q := 58) (v := (116 : Int32)) C dX11_takesKind_56 (by decide) rfl ?_
        have b66 : ∀ (μ : mm_T) (a2 : Int32) (as0 : Int32) (as1 : Int32), pX11_takesKind_b66 Po μ a2 as0 as1 → jJ p l e ({ frames := 0, cells := 0, slots := 0, locals := 0 }) s m args below meth c D cy z (MQ below (va_Qi Po (mm_Po D cy z) (mm_A z)) args s 0 0 (mm_A z)) 3 μ 66 [(0, .ref (z + mm_ad 26 0)), (2, .int a2)] [.int as0, .int as1, .ref (z + mm_ad 26 0)] := by
          intro μ a2 as0 as1 h
          unfold pX11_takesKind_b66 at h
          refine jr_iadd (q := 67) C dX11_takesKind_66 rfl ?_
          refine jr_putI (q := 70) (ci := 11) (Cn := RX11) (T := TX11) (N := 42) (j := 34) C mf_26 rfl rfl (by decide) rfl rfl tyX11 tyX11_ok nmX11 rfl (by decide +kernel) nX11_takesKind_11 mX11_takesKind_3 dX11_takesKind_67 rfl rfl ?_
          refine jn_mem (fun μ4 eμ4 => ?_)
          replace h := h μ4 eμ4
          refine jr_aload_n (q := 71) C 0 dX11_takesKind_70 rfl rfl rfl ?_
          refine jr_dup (q := 72) C dX11_takesKind_71 rfl rfl ?_
          refine jr_getI (q := 75) (ci := 11) (Cn := RX11) (T := TX11) (N := 42) (j := 33) C mf_26 rfl rfl (by decide) rfl rfl nX11_takesKind_11 mX11_takesKind_2 dX11_takesKind_72 rfl rfl ?_
          refine jr_iconst (q := 76) (v := (1 : Int32)) C dX11_takesKind_75 (by decide) rfl ?_
          refine jr_iadd (q := 77) C dX11_takesKind_76 rfl ?_
          refine jr_putI (q := 80) (ci := 11) (Cn := RX11) (T := TX11) (N := 42) (j := 33) C mf_26 rfl rfl (by decide) rfl rfl tyX11 tyX11_ok nmX11 rfl (by decide +kernel) nX11_takesKind_11 mX11_takesKind_2 dX11_takesKind_77 rfl rfl ?_
          refine jn_mem (fun μ5 eμ5 => ?_)
          replace h := h μ5 eμ5
          refine jr_aload_n (q := 81) C 0 dX11_takesKind_80 rfl rfl rfl ?_
          refine jr_iconst (q := 82) (v := (1 : Int32)) C dX11_takesKind_81 (by decide) rfl ?_
          refine jr_putI (q := 85) (ci := 11) (Cn := RX11) (T := TX11) (N := 42) (j := 31) C mf_26 rfl rfl (by decide) rfl rfl tyX11 tyX11_ok nmX11 rfl (by decide +kernel) nX11_takesKind_11 mX11_takesKind_4 dX11_takesKind_82 rfl rfl ?_
          refine jn_mem (fun μ6 eμ6 => ?_)
          replace h := h μ6 eμ6
          refine jr_aload_n (q := 86) C 0 dX11_takesKind_85 rfl rfl rfl ?_
          refine jr_iconst (q := 87) (v := (-1 : Int32)) C dX11_takesKind_86 (by decide) rfl ?_
          refine jr_putI (q := 90) (ci := 11) (Cn := RX11) (T := TX11) (N := 42) (j := 32) C mf_26 rfl rfl (by decide) rfl rfl tyX11 tyX11_ok nmX11 rfl (by decide +kernel) nX11_takesKind_11 mX11_takesKind_5 dX11_takesKind_87 rfl rfl ?_
          refine jn_mem (fun μ7 eμ7 => ?_)
          replace h := h μ7 eμ7
          refine jr_iload_n (q := 91) C 1 dX11_takesKind_90 rfl rfl rfl ?_
          exact jr_zret C hr hk dX11_takesKind_91 h.1 h.2
        refine jr_icmp_ne (q := 61) (tgt := 65) C dX11_takesKind_58 (by decide) rfl (fun c8 => ?_) (fun c8 => ?_)
        · replace h := h.1 c8
          refine jr_iconst (q := 66) (v := (0 : Int32)) C dX11_takesKind_65 (by decide) rfl ?_
          refine jr_sub [0, 2] rfl ?_
          exact b66 _ _ _ _ h
        · replace h := h.2 c8
          refine jr_iconst (q := 62) (v := (1 : Int32)) C dX11_takesKind_61 (by decide) rfl ?_
          refine jr_goto (tgt := 66) C dX11_takesKind_62 (by decide) ?_
          refine jr_sub [0, 2] rfl ?_
          exact b66 _ _ _ _ h
      refine jr_icmp_ne (q := 44) (tgt := 48) C dX11_takesKind_41 (by decide) rfl (fun c9 => ?_) (fun c9 => ?_)
      · replace h := h.1 c9
        refine jr_iconst (q := 49) (v := (0 : Int32)) C dX11_takesKind_48 (by decide) rfl ?_
        refine jr_sub [1, 2, 0] rfl ?_
        exact b49 _ _ _ _ _ h
      · replace h := h.2 c9
        refine jr_iconst (q := 45) (v := (1 : Int32)) C dX11_takesKind_44 (by decide) rfl ?_
        refine jr_goto (tgt := 49) C dX11_takesKind_45 (by decide) ?_
        refine jr_sub [1, 2, 0] rfl ?_
        exact b49 _ _ _ _ _ h
  have b20 : ∀ (μ : mm_T) (a1 : Int32), pX11_takesKind_b20 Po μ a1 → jJ p l e ({ frames := 0, cells := 0, slots := 0, locals := 0 }) s m args below meth c D cy z (MQ below (va_Qi Po (mm_Po D cy z) (mm_A z)) args s 0 0 (mm_A z)) 3 μ 20 [(0, .ref (z + mm_ad 26 0)), (1, .int a1)] [] := by
    intro μ a1 h
    unfold pX11_takesKind_b20 at h
    refine jr_iconst (q := 21) (v := (1 : Int32)) C dX11_takesKind_20 (by decide) rfl ?_
    refine jr_goto (tgt := 25) C dX11_takesKind_21 (by decide) ?_
    refine jr_sub [0, 1] rfl ?_
    exact b25 _ _ _ h
  refine jr_icmp_eq (q := 6) (tgt := 20) C dX11_takesKind_3 (by decide) rfl (fun c13 => ?_) (fun c13 => ?_)
  · replace h := h.1 c13
    refine jr_sub [0, 1] rfl ?_
    exact b20 _ _ h
  · replace h := h.2 c13
    refine jr_iload_n (q := 7) C 1 dX11_takesKind_6 rfl rfl rfl ?_
    refine jr_bipush (q := 9) (v := (116 : Int32)) C dX11_takesKind_7 (by decide) rfl ?_
    have b24 : ∀ (μ : mm_T) (a1 : Int32), pX11_takesKind_b24 Po μ a1 → jJ p l e ({ frames := 0, cells := 0, slots := 0, locals := 0 }) s m args below meth c D cy z (MQ below (va_Qi Po (mm_Po D cy z) (mm_A z)) args s 0 0 (mm_A z)) 3 μ 24 [(0, .ref (z + mm_ad 26 0)), (1, .int a1)] [] := by
      intro μ a1 h
      unfold pX11_takesKind_b24 at h
      refine jr_iconst (q := 25) (v := (0 : Int32)) C dX11_takesKind_24 (by decide) rfl ?_
      refine jr_sub [0, 1] rfl ?_
      exact b25 _ _ _ h
    refine jr_icmp_ne (q := 12) (tgt := 24) C dX11_takesKind_9 (by decide) rfl (fun c12 => ?_) (fun c12 => ?_)
    · replace h := h.1 c12
      refine jr_sub [0, 1] rfl ?_
      exact b24 _ _ h
    · replace h := h.2 c12
      refine jr_aload_n (q := 13) C 0 dX11_takesKind_12 rfl rfl rfl ?_
      refine jr_getI (q := 16) (ci := 11) (Cn := RX11) (T := TX11) (N := 42) (j := 34) C mf_26 rfl rfl (by decide) rfl rfl nX11_takesKind_11 mX11_takesKind_3 dX11_takesKind_13 rfl rfl ?_
      refine jr_iconst (q := 17) (v := (4 : Int32)) C dX11_takesKind_16 (by decide) rfl ?_
      refine jr_icmp_ge (q := 20) (tgt := 24) C dX11_takesKind_17 (by decide) rfl (fun c11 => ?_) (fun c11 => ?_)
      · replace h := h.1 c11
        refine jr_sub [0, 1] rfl ?_
        exact b24 _ _ h
      · replace h := h.2 c11
        refine jr_sub [0, 1] rfl ?_
        exact b20 _ _ h
theorem nX11_mostNow_11 : ∀ w ∈ wsX110, w ∈ wsX11_mostNow := fun _ h => List.mem_cons_of_mem _ (List.mem_append_right _ h)
theorem mX11_mostNow_1 : Cond.fieldLink RX11 93 RX11 (TX11 31).2.1 (TX11 31).2.2.1 ∈ wsX11_mostNow := List.mem_of_getElem? (i := 1) (by decide +kernel)
theorem dsc_X11_mostNow : yX11_mostNow.cls ≠ "java/lang/invoke/MethodHandle" ∧ yX11_mostNow.cls ≠ "java/lang/invoke/VarHandle" ∧ (parseMethodDescriptor yX11_mostNow.desc).map (fun d => d.parameters.length) = some 0 := by decide +kernel
def pX11_mostNow (Po : Int32 → mm_T → Prop) (μ : mm_T) : Prop := ((3 : Int32) ≤ (μ.1 26 0 31) → (¬ (μ.1 26 0 31) = (3 : Int32) → Po (9999 : Int32) μ) ∧ ((μ.1 26 0 31) = (3 : Int32) → Po (99 : Int32) μ)) ∧ (¬ ((3 : Int32) ≤ (μ.1 26 0 31)) → Po (31 : Int32) μ)
set_option maxHeartbeats 4000000 in
set_option maxRecDepth 100000 in
theorem kX11_mostNow (l : Launch) : mm_CI l yX11_mostNow wsX11_mostNow ({ frames := 0, cells := 0, slots := 0, locals := 0 }) (fun z => [.ref (z + mm_ad 26 0)]) (fun μ Po => pX11_mostNow Po μ) := by
  refine je_I (cc := cX11_mostNow) (nL := 1) (own := RX11) (plainFor_of_name (by decide)) rfl rfl (fun _ => Nat.le_of_ble_eq_true rfl) ?_
  intro p e s m args below meth c D cy z μ Po C hr hk h
  change jJ p l e ({ frames := 0, cells := 0, slots := 0, locals := 0 }) s m args below meth c D cy z (MQ below (va_Qi Po (mm_Po D cy z) (mm_A z)) args s 0 0 (mm_A z)) 1 μ 0 [(0, .ref (z + mm_ad 26 0))] []
  replace h : pX11_mostNow Po μ := h
  unfold pX11_mostNow at h
  refine jr_aload_n (q := 1) C 0 dX11_mostNow_0 rfl rfl rfl ?_
  refine jr_getI (q := 4) (ci := 11) (Cn := RX11) (T := TX11) (N := 42) (j := 31) C mf_26 rfl rfl (by decide) rfl rfl nX11_mostNow_11 mX11_mostNow_1 dX11_mostNow_1 rfl rfl ?_
  refine jr_iconst (q := 5) (v := (3 : Int32)) C dX11_mostNow_4 (by decide) rfl ?_
  refine jr_icmp_ge (q := 8) (tgt := 13) C dX11_mostNow_5 (by decide) rfl (fun c2 => ?_) (fun c2 => ?_)
  · replace h := h.1 c2
    refine jr_aload_n (q := 14) C 0 dX11_mostNow_13 rfl rfl rfl ?_
    refine jr_getI (q := 17) (ci := 11) (Cn := RX11) (T := TX11) (N := 42) (j := 31) C mf_26 rfl rfl (by decide) rfl rfl nX11_mostNow_11 mX11_mostNow_1 dX11_mostNow_14 rfl rfl ?_
    refine jr_iconst (q := 18) (v := (3 : Int32)) C dX11_mostNow_17 (by decide) rfl ?_
    refine jr_icmp_ne (q := 21) (tgt := 26) C dX11_mostNow_18 (by decide) rfl (fun c1 => ?_) (fun c1 => ?_)
    · replace h := h.1 c1
      refine jr_sipush (q := 29) (v := (9999 : Int32)) C dX11_mostNow_26 (by decide) rfl ?_
      exact jr_iret C hr hk dX11_mostNow_29 h
    · replace h := h.2 c1
      refine jr_bipush (q := 23) (v := (99 : Int32)) C dX11_mostNow_21 (by decide) rfl ?_
      refine jr_goto (tgt := 29) C dX11_mostNow_23 (by decide) ?_
      exact jr_iret C hr hk dX11_mostNow_29 h
  · replace h := h.2 c2
    refine jr_bipush (q := 10) (v := (31 : Int32)) C dX11_mostNow_8 (by decide) rfl ?_
    refine jr_goto (tgt := 29) C dX11_mostNow_10 (by decide) ?_
    exact jr_iret C hr hk dX11_mostNow_29 h
theorem nX11_takesFigure_11 : ∀ w ∈ wsX110, w ∈ wsX11_takesFigure := fun _ h => List.mem_cons_of_mem _ (List.mem_append_right _ h)
theorem mX11_takesFigure_1 : Cond.fieldLink RX11 96 RX11 (TX11 32).2.1 (TX11 32).2.2.1 ∈ wsX11_takesFigure := List.mem_of_getElem? (i := 1) (by decide +kernel)
theorem dsc_X11_takesFigure : yX11_takesFigure.cls ≠ "java/lang/invoke/MethodHandle" ∧ yX11_takesFigure.cls ≠ "java/lang/invoke/VarHandle" ∧ (parseMethodDescriptor yX11_takesFigure.desc).map (fun d => d.parameters.length) = some 1 := by decide +kernel
def pX11_takesFigure_b42 (Po : Int32 → mm_T → Prop) (μ : mm_T) (a2 : Int32) (as0 : Int32) : Prop := (as0 = 0 → ∀ μ1 : mm_T, μ1 = mm_I μ 26 0 32 (μ.1 26 0 32) → ((as0 = 0 ∨ as0 = 1) ∧ Po as0 μ1)) ∧ (¬ (as0 = 0) → ∀ μ2 : mm_T, μ2 = mm_I μ 26 0 32 a2 → ((as0 = 0 ∨ as0 = 1) ∧ Po as0 μ2))
def pX11_takesFigure_b41 (Po : Int32 → mm_T → Prop) (μ : mm_T) (a2 : Int32) : Prop := pX11_takesFigure_b42 Po μ a2 (0 : Int32)
def pX11_takesFigure_b21 (Po : Int32 → mm_T → Prop) (μ : mm_T) (as0 : Int32) : Prop := ((μ.1 26 0 32) = 0 → pX11_takesFigure_b41 Po μ as0) ∧ (¬ ((μ.1 26 0 32) = 0) → pX11_mostNow (fun r5 μ4 => (r5 < as0 → pX11_takesFigure_b41 Po μ4 as0) ∧ (¬ (r5 < as0) → pX11_takesFigure_b42 Po μ4 as0 (1 : Int32))) μ )
def pX11_takesFigure (Po : Int32 → mm_T → Prop) (μ : mm_T) (p1 : Int32) : Prop := (¬ (μ.1 26 0 32) = (-1 : Int32) → pX11_takesFigure_b21 Po μ (((10 : Int32) * (μ.1 26 0 32)) + p1)) ∧ ((μ.1 26 0 32) = (-1 : Int32) → pX11_takesFigure_b21 Po μ p1)
set_option maxHeartbeats 4000000 in
set_option maxRecDepth 100000 in
theorem kX11_takesFigure (l : Launch) (p1 : Int32) : mm_CI l yX11_takesFigure wsX11_takesFigure ({ frames := 1, cells := 0, slots := 0, locals := 20 }) (fun z => [.ref (z + mm_ad 26 0), .int p1]) (fun μ Po => pX11_takesFigure Po μ p1) := by
  refine je_Z (cc := cX11_takesFigure) (nL := 4) (own := RX11) (plainFor_of_name (by decide)) rfl rfl (fun _ => Nat.le_of_ble_eq_true rfl) ?_
  intro p e s m args below meth c D cy z μ Po C hr hk h
  change jJ p l e ({ frames := 1, cells := 0, slots := 0, locals := 20 }) s m args below meth c D cy z (MQ below (va_Qi Po (mm_Po D cy z) (mm_A z)) args s 0 0 (mm_A z)) 4 μ 0 [(0, .ref (z + mm_ad 26 0)), (1, .int p1)] []
  replace h : pX11_takesFigure Po μ p1 := h
  unfold pX11_takesFigure at h
  refine jr_aload_n (q := 1) C 0 dX11_takesFigure_0 rfl rfl rfl ?_
  refine jr_getI (q := 4) (ci := 11) (Cn := RX11) (T := TX11) (N := 42) (j := 32) C mf_26 rfl rfl (by decide) rfl rfl nX11_takesFigure_11 mX11_takesFigure_1 dX11_takesFigure_1 rfl rfl ?_
  refine jr_iconst (q := 5) (v := (-1 : Int32)) C dX11_takesFigure_4 (by decide) rfl ?_
  have b21 : ∀ (μ : mm_T) (as0 : Int32), pX11_takesFigure_b21 Po μ as0 → jJ p l e ({ frames := 1, cells := 0, slots := 0, locals := 20 }) s m args below meth c D cy z (MQ below (va_Qi Po (mm_Po D cy z) (mm_A z)) args s 0 0 (mm_A z)) 4 μ 21 [(0, .ref (z + mm_ad 26 0))] [.int as0] := by
    intro μ as0 h
    unfold pX11_takesFigure_b21 at h
    refine jr_istore_n (q := 22) (lv' := [(2, .int as0), (0, .ref (z + mm_ad 26 0))]) C dX11_takesFigure_21 rfl (by decide) rfl rfl ?_
    refine jr_aload_n (q := 23) C 1 dX11_takesFigure_22 rfl rfl rfl ?_
    refine jr_getI (q := 26) (ci := 11) (Cn := RX11) (T := TX11) (N := 42) (j := 32) C mf_26 rfl rfl (by decide) rfl rfl nX11_takesFigure_11 mX11_takesFigure_1 dX11_takesFigure_23 rfl rfl ?_
    have b42 : ∀ (μ : mm_T) (a2 : Int32) (as0 : Int32), pX11_takesFigure_b42 Po μ a2 as0 → jJ p l e ({ frames := 1, cells := 0, slots := 0, locals := 20 }) s m args below meth c D cy z (MQ below (va_Qi Po (mm_Po D cy z) (mm_A z)) args s 0 0 (mm_A z)) 4 μ 42 [(0, .ref (z + mm_ad 26 0)), (2, .int a2)] [.int as0] := by
      intro μ a2 as0 h
      unfold pX11_takesFigure_b42 at h
      refine jr_istore_n (q := 43) (lv' := [(3, .int as0), (0, .ref (z + mm_ad 26 0)), (2, .int a2)]) C dX11_takesFigure_42 rfl (by decide) rfl rfl ?_
      refine jr_aload_n (q := 44) C 1 dX11_takesFigure_43 rfl rfl rfl ?_
      refine jr_iload_n (q := 45) C 0 dX11_takesFigure_44 rfl rfl rfl ?_
      refine jr_if_eq (q := 48) (tgt := 52) C dX11_takesFigure_45 (by decide) rfl (fun c3 => ?_) (fun c3 => ?_)
      · replace h := h.1 c3
        refine jr_aload_n (q := 53) C 1 dX11_takesFigure_52 rfl rfl rfl ?_
        refine jr_getI (q := 56) (ci := 11) (Cn := RX11) (T := TX11) (N := 42) (j := 32) C mf_26 rfl rfl (by decide) rfl rfl nX11_takesFigure_11 mX11_takesFigure_1 dX11_takesFigure_53 rfl rfl ?_
        refine jr_putI (q := 59) (ci := 11) (Cn := RX11) (T := TX11) (N := 42) (j := 32) C mf_26 rfl rfl (by decide) rfl rfl tyX11 tyX11_ok nmX11 rfl (by decide +kernel) nX11_takesFigure_11 mX11_takesFigure_1 dX11_takesFigure_56 rfl rfl ?_
        refine jn_mem (fun μ1 eμ1 => ?_)
        replace h := h μ1 eμ1
        refine jr_iload_n (q := 60) C 0 dX11_takesFigure_59 rfl rfl rfl ?_
        exact jr_zret C hr hk dX11_takesFigure_60 h.1 h.2
      · replace h := h.2 c3
        refine jr_iload_n (q := 49) C 2 dX11_takesFigure_48 rfl rfl rfl ?_
        refine jr_goto (tgt := 56) C dX11_takesFigure_49 (by decide) ?_
        refine jr_putI (q := 59) (ci := 11) (Cn := RX11) (T := TX11) (N := 42) (j := 32) C mf_26 rfl rfl (by decide) rfl rfl tyX11 tyX11_ok nmX11 rfl (by decide +kernel) nX11_takesFigure_11 mX11_takesFigure_1 dX11_takesFigure_56 rfl rfl ?_
        refine jn_mem (fun μ2 eμ2 => ?_)
        replace h := h μ2 eμ2
        refine jr_iload_n (q := 60) C 0 dX11_takesFigure_59 rfl rfl rfl ?_
        exact jr_zret C hr hk dX11_takesFigure_60 h.1 h.2
    have b41 : ∀ (μ : mm_T) (a2 : Int32), pX11_takesFigure_b41 Po μ a2 → jJ p l e ({ frames := 1, cells := 0, slots := 0, locals := 20 }) s m args below meth c D cy z (MQ below (va_Qi Po (mm_Po D cy z) (mm_A z)) args s 0 0 (mm_A z)) 4 μ 41 [(0, .ref (z + mm_ad 26 0)), (2, .int a2)] [] := by
      intro μ a2 h
      unfold pX11_takesFigure_b41 at h
      refine jr_iconst (q := 42) (v := (0 : Int32)) C dX11_takesFigure_41 (by decide) rfl ?_
      refine jr_sub [0, 1] rfl ?_
      exact b42 _ _ _ h
    refine jr_if_eq (q := 29) (tgt := 41) C dX11_takesFigure_26 (by decide) rfl (fun c7 => ?_) (fun c7 => ?_)
    · replace h := h.1 c7
      refine jr_sub [1, 0] rfl ?_
      exact b41 _ _ h
    · replace h := h.2 c7
      refine jr_iload_n (q := 30) C 0 dX11_takesFigure_29 rfl rfl rfl ?_
      refine jr_aload_n (q := 31) C 1 dX11_takesFigure_30 rfl rfl rfl ?_
      refine jr_cvI (q := 34) (As := []) (rest := [.int as0]) C (f := 26) (i := 0) (ci := 11) mf_26 rfl rfl rfl (kX11_mostNow l) rfl gX11_takesFigure_X11_mostNow rfl dsc_X11_mostNow ⟨rfl, rfl⟩ ⟨by decide, by decide⟩ rfl rfl (Nat.le_of_ble_eq_true rfl) dX11_takesFigure_31 rfl h (fun r5 μ4 h => ?_)
      refine jr_icmp_gt (q := 37) (tgt := 41) C dX11_takesFigure_34 (by decide) rfl (fun c6 => ?_) (fun c6 => ?_)
      · replace h := h.1 c6
        refine jr_sub [1, 0] rfl ?_
        exact b41 _ _ h
      · replace h := h.2 c6
        refine jr_iconst (q := 38) (v := (1 : Int32)) C dX11_takesFigure_37 (by decide) rfl ?_
        refine jr_goto (tgt := 42) C dX11_takesFigure_38 (by decide) ?_
        refine jr_sub [1, 0] rfl ?_
        exact b42 _ _ _ h
  refine jr_icmp_ne (q := 8) (tgt := 12) C dX11_takesFigure_5 (by decide) rfl (fun c8 => ?_) (fun c8 => ?_)
  · replace h := h.1 c8
    refine jr_bipush (q := 14) (v := (10 : Int32)) C dX11_takesFigure_12 (by decide) rfl ?_
    refine jr_aload_n (q := 15) C 0 dX11_takesFigure_14 rfl rfl rfl ?_
    refine jr_getI (q := 18) (ci := 11) (Cn := RX11) (T := TX11) (N := 42) (j := 32) C mf_26 rfl rfl (by decide) rfl rfl nX11_takesFigure_11 mX11_takesFigure_1 dX11_takesFigure_15 rfl rfl ?_
    refine jr_imul (q := 19) C dX11_takesFigure_18 rfl ?_
    refine jr_iload_n (q := 20) C 1 dX11_takesFigure_19 rfl rfl rfl ?_
    refine jr_iadd (q := 21) C dX11_takesFigure_20 rfl ?_
    refine jr_sub [0] rfl ?_
    exact b21 _ _ h
  · replace h := h.2 c8
    refine jr_iload_n (q := 9) C 1 dX11_takesFigure_8 rfl rfl rfl ?_
    refine jr_goto (tgt := 21) C dX11_takesFigure_9 (by decide) ?_
    refine jr_sub [0] rfl ?_
    exact b21 _ _ h
theorem nX11_isSign_11 : ∀ w ∈ wsX110, w ∈ wsX11_isSign := fun _ h => List.mem_cons_of_mem _ (List.mem_append_right _ h)
theorem mX11_isSign_1 : Cond.fieldLink RX11 93 RX11 (TX11 31).2.1 (TX11 31).2.2.1 ∈ wsX11_isSign := List.mem_of_getElem? (i := 1) (by decide +kernel)
theorem mX11_isSign_2 : Cond.fieldLink RX11 90 RX11 (TX11 33).2.1 (TX11 33).2.2.1 ∈ wsX11_isSign := List.mem_of_getElem? (i := 2) (by decide +kernel)
theorem dsc_X11_isSign : yX11_isSign.cls ≠ "java/lang/invoke/MethodHandle" ∧ yX11_isSign.cls ≠ "java/lang/invoke/VarHandle" ∧ (parseMethodDescriptor yX11_isSign.desc).map (fun d => d.parameters.length) = some 1 := by decide +kernel
def pX11_isSign (Po : Int32 → mm_T → Prop) (μ : mm_T) (p1 : Int32) : Prop := ((μ.1 26 0 31) = (1 : Int32) → (¬ p1 = (44 : Int32) → Po (0 : Int32) μ) ∧ (p1 = (44 : Int32) → Po (1 : Int32) μ)) ∧ ((μ.1 26 0 31) = (2 : Int32) → (p1 = (43 : Int32) → Po (1 : Int32) μ) ∧ (¬ (p1 = (43 : Int32)) → (¬ p1 = (45 : Int32) → Po (0 : Int32) μ) ∧ (p1 = (45 : Int32) → Po (1 : Int32) μ))) ∧ ((μ.1 26 0 31) = (3 : Int32) → (¬ p1 = (64 : Int32) → Po (0 : Int32) μ) ∧ (p1 = (64 : Int32) → Po (1 : Int32) μ)) ∧ (¬ (μ.1 26 0 31) = (1 : Int32) → ¬ (μ.1 26 0 31) = (2 : Int32) → ¬ (μ.1 26 0 31) = (3 : Int32) → (¬ p1 = (59 : Int32) → Po (0 : Int32) μ) ∧ (p1 = (59 : Int32) → ((7 : Int32) ≤ (μ.1 26 0 33) → Po (0 : Int32) μ) ∧ (¬ ((7 : Int32) ≤ (μ.1 26 0 33)) → Po (1 : Int32) μ)))
set_option maxHeartbeats 4000000 in
set_option maxRecDepth 100000 in
theorem kX11_isSign (l : Launch) (p1 : Int32) : mm_CI l yX11_isSign wsX11_isSign ({ frames := 0, cells := 0, slots := 0, locals := 0 }) (fun z => [.ref (z + mm_ad 26 0), .int p1]) (fun μ Po => pX11_isSign Po μ p1) := by
  refine je_Z (cc := cX11_isSign) (nL := 2) (own := RX11) (plainFor_of_name (by decide)) rfl rfl (fun _ => Nat.le_of_ble_eq_true rfl) ?_
  intro p e s m args below meth c D cy z μ Po C hr hk h
  change jJ p l e ({ frames := 0, cells := 0, slots := 0, locals := 0 }) s m args below meth c D cy z (MQ below (va_Qi Po (mm_Po D cy z) (mm_A z)) args s 0 0 (mm_A z)) 2 μ 0 [(0, .ref (z + mm_ad 26 0)), (1, .int p1)] []
  replace h : pX11_isSign Po μ p1 := h
  unfold pX11_isSign at h
  refine jr_aload_n (q := 1) C 0 dX11_isSign_0 rfl rfl rfl ?_
  refine jr_getI (q := 4) (ci := 11) (Cn := RX11) (T := TX11) (N := 42) (j := 31) C mf_26 rfl rfl (by decide) rfl rfl nX11_isSign_11 mX11_isSign_1 dX11_isSign_1 rfl rfl ?_
  by_cases w1 : (μ.1 26 0 31) = (1 : Int32)
  · replace h := h.1 w1
    refine jr_tabI (tgt := 32) C (1 : Int32) w1 dX11_isSign_4 (by decide) (by decide) rfl (by decide) ?_
    refine jr_iload_n (q := 33) C 1 dX11_isSign_32 rfl rfl rfl ?_
    refine jr_bipush (q := 35) (v := (44 : Int32)) C dX11_isSign_33 (by decide) rfl ?_
    refine jr_icmp_ne (q := 38) (tgt := 42) C dX11_isSign_35 (by decide) rfl (fun c1 => ?_) (fun c1 => ?_)
    · replace h := h.1 c1
      refine jr_iconst (q := 43) (v := (0 : Int32)) C dX11_isSign_42 (by decide) rfl ?_
      exact jr_zret C hr hk dX11_isSign_43 (by decide) h
    · replace h := h.2 c1
      refine jr_iconst (q := 39) (v := (1 : Int32)) C dX11_isSign_38 (by decide) rfl ?_
      refine jr_goto (tgt := 43) C dX11_isSign_39 (by decide) ?_
      exact jr_zret C hr hk dX11_isSign_43 (by decide) h
  by_cases w2 : (μ.1 26 0 31) = (2 : Int32)
  · replace h := h.2.1 w2
    refine jr_tabI (tgt := 44) C (2 : Int32) w2 dX11_isSign_4 (by decide) (by decide) rfl (by decide) ?_
    refine jr_iload_n (q := 45) C 1 dX11_isSign_44 rfl rfl rfl ?_
    refine jr_bipush (q := 47) (v := (43 : Int32)) C dX11_isSign_45 (by decide) rfl ?_
    refine jr_icmp_eq (q := 50) (tgt := 56) C dX11_isSign_47 (by decide) rfl (fun c3 => ?_) (fun c3 => ?_)
    · replace h := h.1 c3
      refine jr_iconst (q := 57) (v := (1 : Int32)) C dX11_isSign_56 (by decide) rfl ?_
      refine jr_goto (tgt := 61) C dX11_isSign_57 (by decide) ?_
      exact jr_zret C hr hk dX11_isSign_61 (by decide) h
    · replace h := h.2 c3
      refine jr_iload_n (q := 51) C 1 dX11_isSign_50 rfl rfl rfl ?_
      refine jr_bipush (q := 53) (v := (45 : Int32)) C dX11_isSign_51 (by decide) rfl ?_
      refine jr_icmp_ne (q := 56) (tgt := 60) C dX11_isSign_53 (by decide) rfl (fun c2 => ?_) (fun c2 => ?_)
      · replace h := h.1 c2
        refine jr_iconst (q := 61) (v := (0 : Int32)) C dX11_isSign_60 (by decide) rfl ?_
        exact jr_zret C hr hk dX11_isSign_61 (by decide) h
      · replace h := h.2 c2
        refine jr_iconst (q := 57) (v := (1 : Int32)) C dX11_isSign_56 (by decide) rfl ?_
        refine jr_goto (tgt := 61) C dX11_isSign_57 (by decide) ?_
        exact jr_zret C hr hk dX11_isSign_61 (by decide) h
  by_cases w3 : (μ.1 26 0 31) = (3 : Int32)
  · replace h := h.2.2.1 w3
    refine jr_tabI (tgt := 62) C (3 : Int32) w3 dX11_isSign_4 (by decide) (by decide) rfl (by decide) ?_
    refine jr_iload_n (q := 63) C 1 dX11_isSign_62 rfl rfl rfl ?_
    refine jr_bipush (q := 65) (v := (64 : Int32)) C dX11_isSign_63 (by decide) rfl ?_
    refine jr_icmp_ne (q := 68) (tgt := 72) C dX11_isSign_65 (by decide) rfl (fun c4 => ?_) (fun c4 => ?_)
    · replace h := h.1 c4
      refine jr_iconst (q := 73) (v := (0 : Int32)) C dX11_isSign_72 (by decide) rfl ?_
      exact jr_zret C hr hk dX11_isSign_73 (by decide) h
    · replace h := h.2 c4
      refine jr_iconst (q := 69) (v := (1 : Int32)) C dX11_isSign_68 (by decide) rfl ?_
      refine jr_goto (tgt := 73) C dX11_isSign_69 (by decide) ?_
      exact jr_zret C hr hk dX11_isSign_73 (by decide) h
  replace h := h.2.2.2 w1 w2 w3
  have vw1 := lv_neT (a := 1) w1 (by decide)
  have vw2 := lv_neT (a := 2) w2 (by decide)
  have vw3 := lv_neT (a := 3) w3 (by decide)
  refine jr_tabO (tgt := 74) C dX11_isSign_4 (by omega) (by decide) ?_
  refine jr_iload_n (q := 75) C 1 dX11_isSign_74 rfl rfl rfl ?_
  refine jr_bipush (q := 77) (v := (59 : Int32)) C dX11_isSign_75 (by decide) rfl ?_
  refine jr_icmp_ne (q := 80) (tgt := 93) C dX11_isSign_77 (by decide) rfl (fun c6 => ?_) (fun c6 => ?_)
  · replace h := h.1 c6
    refine jr_iconst (q := 94) (v := (0 : Int32)) C dX11_isSign_93 (by decide) rfl ?_
    exact jr_zret C hr hk dX11_isSign_94 (by decide) h
  · replace h := h.2 c6
    refine jr_aload_n (q := 81) C 0 dX11_isSign_80 rfl rfl rfl ?_
    refine jr_getI (q := 84) (ci := 11) (Cn := RX11) (T := TX11) (N := 42) (j := 33) C mf_26 rfl rfl (by decide) rfl rfl nX11_isSign_11 mX11_isSign_2 dX11_isSign_81 rfl rfl ?_
    refine jr_bipush (q := 86) (v := (7 : Int32)) C dX11_isSign_84 (by decide) rfl ?_
    refine jr_icmp_ge (q := 89) (tgt := 93) C dX11_isSign_86 (by decide) rfl (fun c5 => ?_) (fun c5 => ?_)
    · replace h := h.1 c5
      refine jr_iconst (q := 94) (v := (0 : Int32)) C dX11_isSign_93 (by decide) rfl ?_
      exact jr_zret C hr hk dX11_isSign_94 (by decide) h
    · replace h := h.2 c5
      refine jr_iconst (q := 90) (v := (1 : Int32)) C dX11_isSign_89 (by decide) rfl ?_
      refine jr_goto (tgt := 94) C dX11_isSign_90 (by decide) ?_
      exact jr_zret C hr hk dX11_isSign_94 (by decide) h
theorem nX11_keepNumber_11 : ∀ w ∈ wsX110, w ∈ wsX11_keepNumber := fun _ h => List.mem_cons_of_mem _ (List.mem_append_right _ h)
theorem mX11_keepNumber_1 : Cond.fieldLink RX11 90 RX11 (TX11 33).2.1 (TX11 33).2.2.1 ∈ wsX11_keepNumber := List.mem_of_getElem? (i := 1) (by decide +kernel)
theorem mX11_keepNumber_2 : Cond.fieldLink RX11 93 RX11 (TX11 31).2.1 (TX11 31).2.2.1 ∈ wsX11_keepNumber := List.mem_of_getElem? (i := 2) (by decide +kernel)
theorem mX11_keepNumber_3 : Cond.fieldLink RX11 65 RX11 (TX11 37).2.1 (TX11 37).2.2.1 ∈ wsX11_keepNumber := List.mem_of_getElem? (i := 3) (by decide +kernel)
theorem mX11_keepNumber_4 : Cond.fieldLink RX11 96 RX11 (TX11 32).2.1 (TX11 32).2.2.1 ∈ wsX11_keepNumber := List.mem_of_getElem? (i := 4) (by decide +kernel)
theorem mX11_keepNumber_5 : Cond.fieldLink RX11 68 RX11 (TX11 38).2.1 (TX11 38).2.2.1 ∈ wsX11_keepNumber := List.mem_of_getElem? (i := 5) (by decide +kernel)
theorem mX11_keepNumber_6 : Cond.fieldLink RX11 71 RX11 (TX11 39).2.1 (TX11 39).2.2.1 ∈ wsX11_keepNumber := List.mem_of_getElem? (i := 6) (by decide +kernel)
theorem mX11_keepNumber_7 : Cond.fieldLink RX11 103 RX11 (TX11 35).2.1 (TX11 35).2.2.1 ∈ wsX11_keepNumber := List.mem_of_getElem? (i := 7) (by decide +kernel)
theorem mX11_keepNumber_8 : Cond.fieldLink RX11 74 RX11 (TX11 40).2.1 (TX11 40).2.2.1 ∈ wsX11_keepNumber := List.mem_of_getElem? (i := 8) (by decide +kernel)
theorem dsc_X11_keepNumber : yX11_keepNumber.cls ≠ "java/lang/invoke/MethodHandle" ∧ yX11_keepNumber.cls ≠ "java/lang/invoke/VarHandle" ∧ (parseMethodDescriptor yX11_keepNumber.desc).map (fun d => d.parameters.length) = some 0 := by decide +kernel
def pX11_keepNumber (Po : mm_T → Prop) (μ : mm_T) : Prop := ∀ x1 : Int32, x1 = (μ.1 26 0 33) - (1 : Int32) → (((μ.1 26 0 31) = (1 : Int32) → (vp_in x1 7) ∧ (∀ μ3 : mm_T, μ3 = mm_I μ 45 0 x1.toNatClampNeg (μ.1 26 0 32) → (Po μ3))) ∧ ((μ.1 26 0 31) = (2 : Int32) → (vp_in x1 7) ∧ (∀ μ5 : mm_T, μ5 = mm_I μ 46 0 x1.toNatClampNeg (μ.1 26 0 32) → (Po μ5))) ∧ ((μ.1 26 0 31) = (3 : Int32) → ((μ.1 26 0 35) = 0 → (vp_in x1 7) ∧ (∀ μ7 : mm_T, μ7 = mm_I μ 47 0 x1.toNatClampNeg (μ.1 26 0 32) → (Po μ7))) ∧ (¬ ((μ.1 26 0 35) = 0) → (vp_in x1 7) ∧ (∀ μ9 : mm_T, μ9 = mm_I μ 47 0 x1.toNatClampNeg (-(μ.1 26 0 32)) → (Po μ9)))) ∧ (¬ (μ.1 26 0 31) = (1 : Int32) → ¬ (μ.1 26 0 31) = (2 : Int32) → ¬ (μ.1 26 0 31) = (3 : Int32) → (vp_in x1 7) ∧ (∀ μ12 : mm_T, μ12 = mm_I μ 48 0 x1.toNatClampNeg (μ.1 26 0 32) → (Po μ12))))
set_option maxHeartbeats 4000000 in
set_option maxRecDepth 100000 in
theorem kX11_keepNumber (l : Launch) : mm_CV l yX11_keepNumber wsX11_keepNumber ({ frames := 0, cells := 0, slots := 0, locals := 0 }) (fun z => [.ref (z + mm_ad 26 0)]) (fun μ Po => pX11_keepNumber Po μ) := by
  refine je_V (cc := cX11_keepNumber) (nL := 2) (own := RX11) (plainFor_of_name (by decide)) rfl rfl (fun _ => Nat.le_of_ble_eq_true rfl) ?_
  intro p e s m args below meth c D cy z μ Po C hr hk h
  change jJ p l e ({ frames := 0, cells := 0, slots := 0, locals := 0 }) s m args below meth c D cy z (MQ below (va_Qv Po (mm_Po D cy z) (mm_A z)) args s 0 0 (mm_A z)) 2 μ 0 [(0, .ref (z + mm_ad 26 0))] []
  replace h : pX11_keepNumber Po μ := h
  unfold pX11_keepNumber at h
  refine jr_aload_n (q := 1) C 0 dX11_keepNumber_0 rfl rfl rfl ?_
  refine jr_getI (q := 4) (ci := 11) (Cn := RX11) (T := TX11) (N := 42) (j := 33) C mf_26 rfl rfl (by decide) rfl rfl nX11_keepNumber_11 mX11_keepNumber_1 dX11_keepNumber_1 rfl rfl ?_
  refine jr_iconst (q := 5) (v := (1 : Int32)) C dX11_keepNumber_4 (by decide) rfl ?_
  refine jr_isub (q := 6) C dX11_keepNumber_5 rfl ?_
  refine jn_int (fun x1 ex1 => ?_)
  replace h := h x1 ex1
  refine jr_istore_n (q := 7) (lv' := [(1, .int x1), (0, .ref (z + mm_ad 26 0))]) C dX11_keepNumber_6 rfl (by decide) rfl rfl ?_
  refine jr_aload_n (q := 8) C 1 dX11_keepNumber_7 rfl rfl rfl ?_
  refine jr_getI (q := 11) (ci := 11) (Cn := RX11) (T := TX11) (N := 42) (j := 31) C mf_26 rfl rfl (by decide) rfl rfl nX11_keepNumber_11 mX11_keepNumber_2 dX11_keepNumber_8 rfl rfl ?_
  by_cases w1 : (μ.1 26 0 31) = (1 : Int32)
  · replace h := h.1 w1
    refine jr_tabI (tgt := 36) C (1 : Int32) w1 dX11_keepNumber_11 (by decide) (by decide) rfl (by decide) ?_
    refine jr_aload_n (q := 37) C 1 dX11_keepNumber_36 rfl rfl rfl ?_
    refine jr_getR (q := 40) (ci := 11) (Cn := RX11) (T := TX11) (N := 42) (j := 37) C mf_26 rfl rfl (by decide) rfl 45 0 rfl rfl rfl nX11_keepNumber_11 mX11_keepNumber_3 dX11_keepNumber_37 rfl rfl ?_
    refine jr_iload_n (q := 41) C 0 dX11_keepNumber_40 rfl rfl rfl ?_
    refine jr_aload_n (q := 42) C 1 dX11_keepNumber_41 rfl rfl rfl ?_
    refine jr_getI (q := 45) (ci := 11) (Cn := RX11) (T := TX11) (N := 42) (j := 32) C mf_26 rfl rfl (by decide) rfl rfl nX11_keepNumber_11 mX11_keepNumber_4 dX11_keepNumber_42 rfl rfl ?_
    obtain ⟨g2, h⟩ := h
    refine jr_iast (q := 46) C mf_45 rfl g2 dX11_keepNumber_45 rfl ?_
    refine jn_mem (fun μ3 eμ3 => ?_)
    replace h := h μ3 eμ3
    refine jr_goto (tgt := 100) C dX11_keepNumber_46 (by decide) ?_
    exact jr_vret C hr hk dX11_keepNumber_100 h
  by_cases w2 : (μ.1 26 0 31) = (2 : Int32)
  · replace h := h.2.1 w2
    refine jr_tabI (tgt := 49) C (2 : Int32) w2 dX11_keepNumber_11 (by decide) (by decide) rfl (by decide) ?_
    refine jr_aload_n (q := 50) C 1 dX11_keepNumber_49 rfl rfl rfl ?_
    refine jr_getR (q := 53) (ci := 11) (Cn := RX11) (T := TX11) (N := 42) (j := 38) C mf_26 rfl rfl (by decide) rfl 46 0 rfl rfl rfl nX11_keepNumber_11 mX11_keepNumber_5 dX11_keepNumber_50 rfl rfl ?_
    refine jr_iload_n (q := 54) C 0 dX11_keepNumber_53 rfl rfl rfl ?_
    refine jr_aload_n (q := 55) C 1 dX11_keepNumber_54 rfl rfl rfl ?_
    refine jr_getI (q := 58) (ci := 11) (Cn := RX11) (T := TX11) (N := 42) (j := 32) C mf_26 rfl rfl (by decide) rfl rfl nX11_keepNumber_11 mX11_keepNumber_4 dX11_keepNumber_55 rfl rfl ?_
    obtain ⟨g4, h⟩ := h
    refine jr_iast (q := 59) C mf_46 rfl g4 dX11_keepNumber_58 rfl ?_
    refine jn_mem (fun μ5 eμ5 => ?_)
    replace h := h μ5 eμ5
    refine jr_goto (tgt := 100) C dX11_keepNumber_59 (by decide) ?_
    exact jr_vret C hr hk dX11_keepNumber_100 h
  by_cases w3 : (μ.1 26 0 31) = (3 : Int32)
  · replace h := h.2.2.1 w3
    refine jr_tabI (tgt := 62) C (3 : Int32) w3 dX11_keepNumber_11 (by decide) (by decide) rfl (by decide) ?_
    refine jr_aload_n (q := 63) C 1 dX11_keepNumber_62 rfl rfl rfl ?_
    refine jr_getR (q := 66) (ci := 11) (Cn := RX11) (T := TX11) (N := 42) (j := 39) C mf_26 rfl rfl (by decide) rfl 47 0 rfl rfl rfl nX11_keepNumber_11 mX11_keepNumber_6 dX11_keepNumber_63 rfl rfl ?_
    refine jr_iload_n (q := 67) C 0 dX11_keepNumber_66 rfl rfl rfl ?_
    refine jr_aload_n (q := 68) C 1 dX11_keepNumber_67 rfl rfl rfl ?_
    refine jr_getI (q := 71) (ci := 11) (Cn := RX11) (T := TX11) (N := 42) (j := 35) C mf_26 rfl rfl (by decide) rfl rfl nX11_keepNumber_11 mX11_keepNumber_7 dX11_keepNumber_68 rfl rfl ?_
    refine jr_if_eq (q := 74) (tgt := 82) C dX11_keepNumber_71 (by decide) rfl (fun c10 => ?_) (fun c10 => ?_)
    · replace h := h.1 c10
      refine jr_aload_n (q := 83) C 1 dX11_keepNumber_82 rfl rfl rfl ?_
      refine jr_getI (q := 86) (ci := 11) (Cn := RX11) (T := TX11) (N := 42) (j := 32) C mf_26 rfl rfl (by decide) rfl rfl nX11_keepNumber_11 mX11_keepNumber_4 dX11_keepNumber_83 rfl rfl ?_
      obtain ⟨g6, h⟩ := h
      refine jr_iast (q := 87) C mf_47 rfl g6 dX11_keepNumber_86 rfl ?_
      refine jn_mem (fun μ7 eμ7 => ?_)
      replace h := h μ7 eμ7
      refine jr_goto (tgt := 100) C dX11_keepNumber_87 (by decide) ?_
      exact jr_vret C hr hk dX11_keepNumber_100 h
    · replace h := h.2 c10
      refine jr_aload_n (q := 75) C 1 dX11_keepNumber_74 rfl rfl rfl ?_
      refine jr_getI (q := 78) (ci := 11) (Cn := RX11) (T := TX11) (N := 42) (j := 32) C mf_26 rfl rfl (by decide) rfl rfl nX11_keepNumber_11 mX11_keepNumber_4 dX11_keepNumber_75 rfl rfl ?_
      refine jr_ineg (q := 79) C dX11_keepNumber_78 rfl ?_
      refine jr_goto (tgt := 86) C dX11_keepNumber_79 (by decide) ?_
      obtain ⟨g8, h⟩ := h
      refine jr_iast (q := 87) C mf_47 rfl g8 dX11_keepNumber_86 rfl ?_
      refine jn_mem (fun μ9 eμ9 => ?_)
      replace h := h μ9 eμ9
      refine jr_goto (tgt := 100) C dX11_keepNumber_87 (by decide) ?_
      exact jr_vret C hr hk dX11_keepNumber_100 h
  replace h := h.2.2.2 w1 w2 w3
  have vw1 := lv_neT (a := 1) w1 (by decide)
  have vw2 := lv_neT (a := 2) w2 (by decide)
  have vw3 := lv_neT (a := 3) w3 (by decide)
  refine jr_tabO (tgt := 90) C dX11_keepNumber_11 (by omega) (by decide) ?_
  refine jr_aload_n (q := 91) C 1 dX11_keepNumber_90 rfl rfl rfl ?_
  refine jr_getR (q := 94) (ci := 11) (Cn := RX11) (T := TX11) (N := 42) (j := 40) C mf_26 rfl rfl (by decide) rfl 48 0 rfl rfl rfl nX11_keepNumber_11 mX11_keepNumber_8 dX11_keepNumber_91 rfl rfl ?_
  refine jr_iload_n (q := 95) C 0 dX11_keepNumber_94 rfl rfl rfl ?_
  refine jr_aload_n (q := 96) C 1 dX11_keepNumber_95 rfl rfl rfl ?_
  refine jr_getI (q := 99) (ci := 11) (Cn := RX11) (T := TX11) (N := 42) (j := 32) C mf_26 rfl rfl (by decide) rfl rfl nX11_keepNumber_11 mX11_keepNumber_4 dX11_keepNumber_96 rfl rfl ?_
  obtain ⟨g11, h⟩ := h
  refine jr_iast (q := 100) C mf_48 rfl g11 dX11_keepNumber_99 rfl ?_
  refine jn_mem (fun μ12 eμ12 => ?_)
  replace h := h μ12 eμ12
  exact jr_vret C hr hk dX11_keepNumber_100 h
theorem nX11_takesSign_11 : ∀ w ∈ wsX110, w ∈ wsX11_takesSign := fun _ h => List.mem_cons_of_mem _ (List.mem_append_right _ h)
theorem mX11_takesSign_1 : Cond.fieldLink RX11 96 RX11 (TX11 32).2.1 (TX11 32).2.2.1 ∈ wsX11_takesSign := List.mem_of_getElem? (i := 1) (by decide +kernel)
theorem mX11_takesSign_2 : Cond.fieldLink RX11 103 RX11 (TX11 35).2.1 (TX11 35).2.2.1 ∈ wsX11_takesSign := List.mem_of_getElem? (i := 2) (by decide +kernel)
theorem mX11_takesSign_3 : Cond.fieldLink RX11 93 RX11 (TX11 31).2.1 (TX11 31).2.2.1 ∈ wsX11_takesSign := List.mem_of_getElem? (i := 3) (by decide +kernel)
theorem dsc_X11_takesSign : yX11_takesSign.cls ≠ "java/lang/invoke/MethodHandle" ∧ yX11_takesSign.cls ≠ "java/lang/invoke/VarHandle" ∧ (parseMethodDescriptor yX11_takesSign.desc).map (fun d => d.parameters.length) = some 1 := by decide +kernel
def pX11_takesSign_b64 (Po : Int32 → mm_T → Prop) (μ : mm_T) (a2 : Int32) (as0 : Int32) : Prop := ∀ μ4 : mm_T, μ4 = mm_I μ 26 0 31 as0 → (∀ μ5 : mm_T, μ5 = mm_I μ4 26 0 32 (-1 : Int32) → ((a2 = 0 ∨ a2 = 1) ∧ Po a2 μ5))
def pX11_takesSign_b42 (Po : Int32 → mm_T → Prop) (μ : mm_T) (a2 : Int32) (as0 : Int32) : Prop := (as0 = 0 ∨ as0 = 1) ∧ (∀ μ3 : mm_T, μ3 = mm_I μ 26 0 35 as0 → ((¬ (μ3.1 26 0 31) = (4 : Int32) → pX11_takesSign_b64 Po μ3 a2 ((μ3.1 26 0 31) + (1 : Int32))) ∧ ((μ3.1 26 0 31) = (4 : Int32) → pX11_takesSign_b64 Po μ3 a2 (0 : Int32))))
def pX11_takesSign_b21 (Po : Int32 → mm_T → Prop) (μ : mm_T) (a1 : Int32) (as0 : Int32) : Prop := (as0 = 0 → (as0 = 0 ∨ as0 = 1) ∧ Po as0 μ) ∧ (¬ (as0 = 0) → pX11_keepNumber (fun μ1 => (¬ a1 = (45 : Int32) → pX11_takesSign_b42 Po μ1 as0 (0 : Int32)) ∧ (a1 = (45 : Int32) → pX11_takesSign_b42 Po μ1 as0 (1 : Int32))) μ )
def pX11_takesSign_b20 (Po : Int32 → mm_T → Prop) (μ : mm_T) (a1 : Int32) : Prop := pX11_takesSign_b21 Po μ a1 (0 : Int32)
def pX11_takesSign (Po : Int32 → mm_T → Prop) (μ : mm_T) (p1 : Int32) : Prop := ((μ.1 26 0 32) = (-1 : Int32) → pX11_takesSign_b20 Po μ p1) ∧ (¬ ((μ.1 26 0 32) = (-1 : Int32)) → pX11_isSign (fun r10 μ9 => (r10 = 0 → pX11_takesSign_b20 Po μ9 p1) ∧ (¬ (r10 = 0) → pX11_takesSign_b21 Po μ9 p1 (1 : Int32))) μ p1)
set_option maxHeartbeats 4000000 in
set_option maxRecDepth 100000 in
theorem kX11_takesSign (l : Launch) (p1 : Int32) : mm_CI l yX11_takesSign wsX11_takesSign ({ frames := 1, cells := 0, slots := 0, locals := 21 }) (fun z => [.ref (z + mm_ad 26 0), .int p1]) (fun μ Po => pX11_takesSign Po μ p1) := by
  refine je_Z (cc := cX11_takesSign) (nL := 3) (own := RX11) (plainFor_of_name (by decide)) rfl rfl (fun _ => Nat.le_of_ble_eq_true rfl) ?_
  intro p e s m args below meth c D cy z μ Po C hr hk h
  change jJ p l e ({ frames := 1, cells := 0, slots := 0, locals := 21 }) s m args below meth c D cy z (MQ below (va_Qi Po (mm_Po D cy z) (mm_A z)) args s 0 0 (mm_A z)) 3 μ 0 [(0, .ref (z + mm_ad 26 0)), (1, .int p1)] []
  replace h : pX11_takesSign Po μ p1 := h
  unfold pX11_takesSign at h
  refine jr_aload_n (q := 1) C 0 dX11_takesSign_0 rfl rfl rfl ?_
  refine jr_getI (q := 4) (ci := 11) (Cn := RX11) (T := TX11) (N := 42) (j := 32) C mf_26 rfl rfl (by decide) rfl rfl nX11_takesSign_11 mX11_takesSign_1 dX11_takesSign_1 rfl rfl ?_
  refine jr_iconst (q := 5) (v := (-1 : Int32)) C dX11_takesSign_4 (by decide) rfl ?_
  have b21 : ∀ (μ : mm_T) (a1 : Int32) (as0 : Int32), pX11_takesSign_b21 Po μ a1 as0 → jJ p l e ({ frames := 1, cells := 0, slots := 0, locals := 21 }) s m args below meth c D cy z (MQ below (va_Qi Po (mm_Po D cy z) (mm_A z)) args s 0 0 (mm_A z)) 3 μ 21 [(0, .ref (z + mm_ad 26 0)), (1, .int a1)] [.int as0] := by
    intro μ a1 as0 h
    unfold pX11_takesSign_b21 at h
    refine jr_istore_n (q := 22) (lv' := [(2, .int as0), (0, .ref (z + mm_ad 26 0)), (1, .int a1)]) C dX11_takesSign_21 rfl (by decide) rfl rfl ?_
    refine jr_iload_n (q := 23) C 0 dX11_takesSign_22 rfl rfl rfl ?_
    refine jr_if_eq (q := 26) (tgt := 72) C dX11_takesSign_23 (by decide) rfl (fun c8 => ?_) (fun c8 => ?_)
    · replace h := h.1 c8
      refine jr_iload_n (q := 73) C 0 dX11_takesSign_72 rfl rfl rfl ?_
      exact jr_zret C hr hk dX11_takesSign_73 h.1 h.2
    · replace h := h.2 c8
      refine jr_aload_n (q := 27) C 1 dX11_takesSign_26 rfl rfl rfl ?_
      refine jr_cvV (q := 30) (As := []) (rest := []) C (f := 26) (i := 0) (ci := 11) mf_26 rfl rfl rfl (kX11_keepNumber l) rfl gX11_takesSign_X11_keepNumber rfl dsc_X11_keepNumber ⟨rfl, rfl⟩ ⟨by decide, by decide⟩ rfl rfl (Nat.le_of_ble_eq_true rfl) dX11_takesSign_27 rfl h (fun μ1 h => ?_)
      refine jr_aload_n (q := 31) C 1 dX11_takesSign_30 rfl rfl rfl ?_
      refine jr_iload_n (q := 32) C 2 dX11_takesSign_31 rfl rfl rfl ?_
      refine jr_bipush (q := 34) (v := (45 : Int32)) C dX11_takesSign_32 (by decide) rfl ?_
      have b42 : ∀ (μ : mm_T) (a2 : Int32) (as0 : Int32), pX11_takesSign_b42 Po μ a2 as0 → jJ p l e ({ frames := 1, cells := 0, slots := 0, locals := 21 }) s m args below meth c D cy z (MQ below (va_Qi Po (mm_Po D cy z) (mm_A z)) args s 0 0 (mm_A z)) 3 μ 42 [(0, .ref (z + mm_ad 26 0)), (2, .int a2)] [.int as0, .ref (z + mm_ad 26 0)] := by
        intro μ a2 as0 h
        unfold pX11_takesSign_b42 at h
        obtain ⟨g2, h⟩ := h
        refine jr_putZ (q := 45) (ci := 11) (Cn := RX11) (T := TX11) (N := 42) (j := 35) C mf_26 rfl rfl (by decide) rfl g2 rfl tyX11 tyX11_ok nmX11 rfl (by decide +kernel) nX11_takesSign_11 mX11_takesSign_2 dX11_takesSign_42 rfl rfl ?_
        refine jn_mem (fun μ3 eμ3 => ?_)
        replace h := h μ3 eμ3
        refine jr_aload_n (q := 46) C 0 dX11_takesSign_45 rfl rfl rfl ?_
        refine jr_aload_n (q := 47) C 0 dX11_takesSign_46 rfl rfl rfl ?_
        refine jr_getI (q := 50) (ci := 11) (Cn := RX11) (T := TX11) (N := 42) (j := 31) C mf_26 rfl rfl (by decide) rfl rfl nX11_takesSign_11 mX11_takesSign_3 dX11_takesSign_47 rfl rfl ?_
        refine jr_iconst (q := 51) (v := (4 : Int32)) C dX11_takesSign_50 (by decide) rfl ?_
        have b64 : ∀ (μ : mm_T) (a2 : Int32) (as0 : Int32), pX11_takesSign_b64 Po μ a2 as0 → jJ p l e ({ frames := 1, cells := 0, slots := 0, locals := 21 }) s m args below meth c D cy z (MQ below (va_Qi Po (mm_Po D cy z) (mm_A z)) args s 0 0 (mm_A z)) 3 μ 64 [(0, .ref (z + mm_ad 26 0)), (2, .int a2)] [.int as0, .ref (z + mm_ad 26 0)] := by
          intro μ a2 as0 h
          unfold pX11_takesSign_b64 at h
          refine jr_putI (q := 67) (ci := 11) (Cn := RX11) (T := TX11) (N := 42) (j := 31) C mf_26 rfl rfl (by decide) rfl rfl tyX11 tyX11_ok nmX11 rfl (by decide +kernel) nX11_takesSign_11 mX11_takesSign_3 dX11_takesSign_64 rfl rfl ?_
          refine jn_mem (fun μ4 eμ4 => ?_)
          replace h := h μ4 eμ4
          refine jr_aload_n (q := 68) C 0 dX11_takesSign_67 rfl rfl rfl ?_
          refine jr_iconst (q := 69) (v := (-1 : Int32)) C dX11_takesSign_68 (by decide) rfl ?_
          refine jr_putI (q := 72) (ci := 11) (Cn := RX11) (T := TX11) (N := 42) (j := 32) C mf_26 rfl rfl (by decide) rfl rfl tyX11 tyX11_ok nmX11 rfl (by decide +kernel) nX11_takesSign_11 mX11_takesSign_1 dX11_takesSign_69 rfl rfl ?_
          refine jn_mem (fun μ5 eμ5 => ?_)
          replace h := h μ5 eμ5
          refine jr_iload_n (q := 73) C 1 dX11_takesSign_72 rfl rfl rfl ?_
          exact jr_zret C hr hk dX11_takesSign_73 h.1 h.2
        refine jr_icmp_ne (q := 54) (tgt := 58) C dX11_takesSign_51 (by decide) rfl (fun c6 => ?_) (fun c6 => ?_)
        · replace h := h.1 c6
          refine jr_aload_n (q := 59) C 0 dX11_takesSign_58 rfl rfl rfl ?_
          refine jr_getI (q := 62) (ci := 11) (Cn := RX11) (T := TX11) (N := 42) (j := 31) C mf_26 rfl rfl (by decide) rfl rfl nX11_takesSign_11 mX11_takesSign_3 dX11_takesSign_59 rfl rfl ?_
          refine jr_iconst (q := 63) (v := (1 : Int32)) C dX11_takesSign_62 (by decide) rfl ?_
          refine jr_iadd (q := 64) C dX11_takesSign_63 rfl ?_
          refine jr_sub [0, 1] rfl ?_
          exact b64 _ _ _ h
        · replace h := h.2 c6
          refine jr_iconst (q := 55) (v := (0 : Int32)) C dX11_takesSign_54 (by decide) rfl ?_
          refine jr_goto (tgt := 64) C dX11_takesSign_55 (by decide) ?_
          refine jr_sub [0, 1] rfl ?_
          exact b64 _ _ _ h
      refine jr_icmp_ne (q := 37) (tgt := 41) C dX11_takesSign_34 (by decide) rfl (fun c7 => ?_) (fun c7 => ?_)
      · replace h := h.1 c7
        refine jr_iconst (q := 42) (v := (0 : Int32)) C dX11_takesSign_41 (by decide) rfl ?_
        refine jr_sub [1, 0] rfl ?_
        exact b42 _ _ _ h
      · replace h := h.2 c7
        refine jr_iconst (q := 38) (v := (1 : Int32)) C dX11_takesSign_37 (by decide) rfl ?_
        refine jr_goto (tgt := 42) C dX11_takesSign_38 (by decide) ?_
        refine jr_sub [1, 0] rfl ?_
        exact b42 _ _ _ h
  have b20 : ∀ (μ : mm_T) (a1 : Int32), pX11_takesSign_b20 Po μ a1 → jJ p l e ({ frames := 1, cells := 0, slots := 0, locals := 21 }) s m args below meth c D cy z (MQ below (va_Qi Po (mm_Po D cy z) (mm_A z)) args s 0 0 (mm_A z)) 3 μ 20 [(0, .ref (z + mm_ad 26 0)), (1, .int a1)] [] := by
    intro μ a1 h
    unfold pX11_takesSign_b20 at h
    refine jr_iconst (q := 21) (v := (0 : Int32)) C dX11_takesSign_20 (by decide) rfl ?_
    refine jr_sub [0, 1] rfl ?_
    exact b21 _ _ _ h
  refine jr_icmp_eq (q := 8) (tgt := 20) C dX11_takesSign_5 (by decide) rfl (fun c12 => ?_) (fun c12 => ?_)
  · replace h := h.1 c12
    refine jr_sub [0, 1] rfl ?_
    exact b20 _ _ h
  · replace h := h.2 c12
    refine jr_aload_n (q := 9) C 0 dX11_takesSign_8 rfl rfl rfl ?_
    refine jr_iload_n (q := 10) C 1 dX11_takesSign_9 rfl rfl rfl ?_
    refine jr_cvI (q := 13) (As := [.int p1]) (rest := []) C (f := 26) (i := 0) (ci := 11) mf_26 rfl rfl rfl (kX11_isSign l p1) rfl gX11_takesSign_X11_isSign rfl dsc_X11_isSign ⟨rfl, rfl⟩ ⟨by decide, by decide⟩ rfl rfl (Nat.le_of_ble_eq_true rfl) dX11_takesSign_10 rfl h (fun r10 μ9 h => ?_)
    refine jr_if_eq (q := 16) (tgt := 20) C dX11_takesSign_13 (by decide) rfl (fun c11 => ?_) (fun c11 => ?_)
    · replace h := h.1 c11
      refine jr_sub [0, 1] rfl ?_
      exact b20 _ _ h
    · replace h := h.2 c11
      refine jr_iconst (q := 17) (v := (1 : Int32)) C dX11_takesSign_16 (by decide) rfl ?_
      refine jr_goto (tgt := 21) C dX11_takesSign_17 (by decide) ?_
      refine jr_sub [0, 1] rfl ?_
      exact b21 _ _ _ h
theorem nX11_takes_11 : ∀ w ∈ wsX110, w ∈ wsX11_takes := fun _ h => List.mem_cons_of_mem _ (List.mem_append_right _ h)
theorem mX11_takes_1 : Cond.fieldLink RX11 93 RX11 (TX11 31).2.1 (TX11 31).2.2.1 ∈ wsX11_takes := List.mem_of_getElem? (i := 1) (by decide +kernel)
theorem dsc_X11_takes : yX11_takes.cls ≠ "java/lang/invoke/MethodHandle" ∧ yX11_takes.cls ≠ "java/lang/invoke/VarHandle" ∧ (parseMethodDescriptor yX11_takes.desc).map (fun d => d.parameters.length) = some 1 := by decide +kernel
def pX11_takes (Po : Int32 → mm_T → Prop) (μ : mm_T) (p1 : Int32) : Prop := (¬ (μ.1 26 0 31) = 0 → pX11_within (fun r2 μ1 => (r2 = 0 → pX11_takesSign (fun r4 μ3 => (r4 = 0 ∨ r4 = 1) ∧ Po r4 μ3) μ1 p1) ∧ (¬ (r2 = 0) → pX11_takesFigure (fun r6 μ5 => (r6 = 0 ∨ r6 = 1) ∧ Po r6 μ5) μ1 (p1 - (48 : Int32)))) μ p1 (48 : Int32) (57 : Int32)) ∧ ((μ.1 26 0 31) = 0 → pX11_takesKind (fun r9 μ8 => (r9 = 0 ∨ r9 = 1) ∧ Po r9 μ8) μ p1)
set_option maxHeartbeats 4000000 in
set_option maxRecDepth 100000 in
theorem kX11_takes (l : Launch) (p1 : Int32) : mm_CI l yX11_takes wsX11_takes ({ frames := 2, cells := 0, slots := 0, locals := 43 }) (fun z => [.ref (z + mm_ad 26 0), .int p1]) (fun μ Po => pX11_takes Po μ p1) := by
  refine je_Z (cc := cX11_takes) (nL := 2) (own := RX11) (plainFor_of_name (by decide)) rfl rfl (fun _ => Nat.le_of_ble_eq_true rfl) ?_
  intro p e s m args below meth c D cy z μ Po C hr hk h
  change jJ p l e ({ frames := 2, cells := 0, slots := 0, locals := 43 }) s m args below meth c D cy z (MQ below (va_Qi Po (mm_Po D cy z) (mm_A z)) args s 0 0 (mm_A z)) 2 μ 0 [(0, .ref (z + mm_ad 26 0)), (1, .int p1)] []
  replace h : pX11_takes Po μ p1 := h
  unfold pX11_takes at h
  refine jr_aload_n (q := 1) C 0 dX11_takes_0 rfl rfl rfl ?_
  refine jr_getI (q := 4) (ci := 11) (Cn := RX11) (T := TX11) (N := 42) (j := 31) C mf_26 rfl rfl (by decide) rfl rfl nX11_takes_11 mX11_takes_1 dX11_takes_1 rfl rfl ?_
  refine jr_if_ne (q := 7) (tgt := 13) C dX11_takes_4 (by decide) rfl (fun c10 => ?_) (fun c10 => ?_)
  · replace h := h.1 c10
    refine jr_iload_n (q := 14) C 1 dX11_takes_13 rfl rfl rfl ?_
    refine jr_bipush (q := 16) (v := (48 : Int32)) C dX11_takes_14 (by decide) rfl ?_
    refine jr_bipush (q := 18) (v := (57 : Int32)) C dX11_takes_16 (by decide) rfl ?_
    refine jr_csI (q := 21) (As := [.int p1, .int (48 : Int32), .int (57 : Int32)]) (rest := []) C  (kX11_within l p1 (48 : Int32) (57 : Int32)) rfl gX11_takes_X11_within rfl dsc_X11_within ⟨rfl, rfl⟩ ⟨by decide, by decide⟩ rfl rfl (Nat.le_of_ble_eq_true rfl) dX11_takes_18 rfl h (fun r2 μ1 h => ?_)
    refine jr_if_eq (q := 24) (tgt := 35) C dX11_takes_21 (by decide) rfl (fun c7 => ?_) (fun c7 => ?_)
    · replace h := h.1 c7
      refine jr_aload_n (q := 36) C 0 dX11_takes_35 rfl rfl rfl ?_
      refine jr_iload_n (q := 37) C 1 dX11_takes_36 rfl rfl rfl ?_
      refine jr_cvI (q := 40) (As := [.int p1]) (rest := []) C (f := 26) (i := 0) (ci := 11) mf_26 rfl rfl rfl (kX11_takesSign l p1) rfl gX11_takes_X11_takesSign rfl dsc_X11_takesSign ⟨rfl, rfl⟩ ⟨by decide, by decide⟩ rfl rfl (Nat.le_of_ble_eq_true rfl) dX11_takes_37 rfl h (fun r4 μ3 h => ?_)
      exact jr_zret C hr hk dX11_takes_40 h.1 h.2
    · replace h := h.2 c7
      refine jr_aload_n (q := 25) C 0 dX11_takes_24 rfl rfl rfl ?_
      refine jr_iload_n (q := 26) C 1 dX11_takes_25 rfl rfl rfl ?_
      refine jr_bipush (q := 28) (v := (48 : Int32)) C dX11_takes_26 (by decide) rfl ?_
      refine jr_isub (q := 29) C dX11_takes_28 rfl ?_
      refine jr_cvI (q := 32) (As := [.int (p1 - (48 : Int32))]) (rest := []) C (f := 26) (i := 0) (ci := 11) mf_26 rfl rfl rfl (kX11_takesFigure l (p1 - (48 : Int32))) rfl gX11_takes_X11_takesFigure rfl dsc_X11_takesFigure ⟨rfl, rfl⟩ ⟨by decide, by decide⟩ rfl rfl (Nat.le_of_ble_eq_true rfl) dX11_takes_29 rfl h (fun r6 μ5 h => ?_)
      refine jr_goto (tgt := 40) C dX11_takes_32 (by decide) ?_
      exact jr_zret C hr hk dX11_takes_40 h.1 h.2
  · replace h := h.2 c10
    refine jr_aload_n (q := 8) C 0 dX11_takes_7 rfl rfl rfl ?_
    refine jr_iload_n (q := 9) C 1 dX11_takes_8 rfl rfl rfl ?_
    refine jr_cvI (q := 12) (As := [.int p1]) (rest := []) C (f := 26) (i := 0) (ci := 11) mf_26 rfl rfl rfl (kX11_takesKind l p1) rfl gX11_takes_X11_takesKind rfl dsc_X11_takesKind ⟨rfl, rfl⟩ ⟨by decide, by decide⟩ rfl rfl (Nat.le_of_ble_eq_true rfl) dX11_takes_9 rfl h (fun r9 μ8 h => ?_)
    exact jr_zret C hr hk dX11_takes_12 h.1 h.2
theorem nX11_read_11 : ∀ w ∈ wsX110, w ∈ wsX11_read := fun _ h => List.mem_cons_of_mem _ (List.mem_append_right _ h)
theorem mX11_read_1 : Cond.fieldLink RX11 93 RX11 (TX11 31).2.1 (TX11 31).2.2.1 ∈ wsX11_read := List.mem_of_getElem? (i := 1) (by decide +kernel)
theorem mX11_read_2 : Cond.fieldLink RX11 90 RX11 (TX11 33).2.1 (TX11 33).2.2.1 ∈ wsX11_read := List.mem_of_getElem? (i := 2) (by decide +kernel)
theorem mX11_read_3 : Cond.fieldLink RX11 87 RX11 (TX11 34).2.1 (TX11 34).2.2.1 ∈ wsX11_read := List.mem_of_getElem? (i := 3) (by decide +kernel)
theorem mX11_read_4 : Cond.fieldLink RX11 96 RX11 (TX11 32).2.1 (TX11 32).2.2.1 ∈ wsX11_read := List.mem_of_getElem? (i := 4) (by decide +kernel)
theorem mX11_read_5 : Cond.fieldLink RX11 82 RX11 (TX11 0).2.1 (TX11 0).2.2.1 ∈ wsX11_read := List.mem_of_getElem? (i := 5) (by decide +kernel)
theorem mX11_read_6 : Cond.fieldLink RX11 7 RX11 (TX11 1).2.1 (TX11 1).2.2.1 ∈ wsX11_read := List.mem_of_getElem? (i := 6) (by decide +kernel)
theorem dsc_X11_read : yX11_read.cls ≠ "java/lang/invoke/MethodHandle" ∧ yX11_read.cls ≠ "java/lang/invoke/VarHandle" ∧ (parseMethodDescriptor yX11_read.desc).map (fun d => d.parameters.length) = some 0 := by decide +kernel
def pX11_read_l22 (Po : Int32 → mm_T → Prop) (E22_49 : mm_T → Int32 → Prop) (K22 : mm_T → Int32 → Prop) (μ : mm_T) (a1 : Int32) : Prop := ((μ.1 26 0 0) ≤ a1 → E22_49 μ a1) ∧ (¬ ((μ.1 26 0 0) ≤ a1) → (vp_in a1 110) ∧ (pX11_takes (fun r7 μ6 => (r7 = 0 → E22_49 μ6 a1) ∧ (¬ (r7 = 0) → K22 μ6 (a1 + (1 : Int32)))) μ (μ.1 27 0 a1.toNatClampNeg)))
def pX11_read (Po : Int32 → mm_T → Prop) (μ : mm_T) : Prop := ∀ μ1 : mm_T, μ1 = mm_I μ 26 0 31 (0 : Int32) → (∀ μ2 : mm_T, μ2 = mm_I μ1 26 0 33 (0 : Int32) → (∀ μ3 : mm_T, μ3 = mm_I μ2 26 0 34 (0 : Int32) → (∀ μ4 : mm_T, μ4 = mm_I μ3 26 0 32 (-1 : Int32) → (lp_ (fun (K9 : mm_T × Int32 → Prop) (t9 : mm_T × Int32) => pX11_read_l22 Po (fun μ c1 => Po c1 μ) (fun μ a1 => K9 (μ, a1)) t9.1 t9.2) (μ4, (0 : Int32))))))
set_option maxHeartbeats 4000000 in
set_option maxRecDepth 100000 in
theorem kX11_read (l : Launch) : mm_CI l yX11_read wsX11_read ({ frames := 3, cells := 0, slots := 0, locals := 64 }) (fun z => [.ref (z + mm_ad 26 0)]) (fun μ Po => pX11_read Po μ) := by
  refine je_I (cc := cX11_read) (nL := 2) (own := RX11) (plainFor_of_name (by decide)) rfl rfl (fun _ => Nat.le_of_ble_eq_true rfl) ?_
  intro p e s m args below meth c D cy z μ Po C hr hk h
  change jJ p l e ({ frames := 3, cells := 0, slots := 0, locals := 64 }) s m args below meth c D cy z (MQ below (va_Qi Po (mm_Po D cy z) (mm_A z)) args s 0 0 (mm_A z)) 2 μ 0 [(0, .ref (z + mm_ad 26 0))] []
  replace h : pX11_read Po μ := h
  unfold pX11_read at h
  refine jr_aload_n (q := 1) C 0 dX11_read_0 rfl rfl rfl ?_
  refine jr_iconst (q := 2) (v := (0 : Int32)) C dX11_read_1 (by decide) rfl ?_
  refine jr_putI (q := 5) (ci := 11) (Cn := RX11) (T := TX11) (N := 42) (j := 31) C mf_26 rfl rfl (by decide) rfl rfl tyX11 tyX11_ok nmX11 rfl (by decide +kernel) nX11_read_11 mX11_read_1 dX11_read_2 rfl rfl ?_
  refine jn_mem (fun μ1 eμ1 => ?_)
  replace h := h μ1 eμ1
  refine jr_aload_n (q := 6) C 0 dX11_read_5 rfl rfl rfl ?_
  refine jr_iconst (q := 7) (v := (0 : Int32)) C dX11_read_6 (by decide) rfl ?_
  refine jr_putI (q := 10) (ci := 11) (Cn := RX11) (T := TX11) (N := 42) (j := 33) C mf_26 rfl rfl (by decide) rfl rfl tyX11 tyX11_ok nmX11 rfl (by decide +kernel) nX11_read_11 mX11_read_2 dX11_read_7 rfl rfl ?_
  refine jn_mem (fun μ2 eμ2 => ?_)
  replace h := h μ2 eμ2
  refine jr_aload_n (q := 11) C 0 dX11_read_10 rfl rfl rfl ?_
  refine jr_iconst (q := 12) (v := (0 : Int32)) C dX11_read_11 (by decide) rfl ?_
  refine jr_putI (q := 15) (ci := 11) (Cn := RX11) (T := TX11) (N := 42) (j := 34) C mf_26 rfl rfl (by decide) rfl rfl tyX11 tyX11_ok nmX11 rfl (by decide +kernel) nX11_read_11 mX11_read_3 dX11_read_12 rfl rfl ?_
  refine jn_mem (fun μ3 eμ3 => ?_)
  replace h := h μ3 eμ3
  refine jr_aload_n (q := 16) C 0 dX11_read_15 rfl rfl rfl ?_
  refine jr_iconst (q := 17) (v := (-1 : Int32)) C dX11_read_16 (by decide) rfl ?_
  refine jr_putI (q := 20) (ci := 11) (Cn := RX11) (T := TX11) (N := 42) (j := 32) C mf_26 rfl rfl (by decide) rfl rfl tyX11 tyX11_ok nmX11 rfl (by decide +kernel) nX11_read_11 mX11_read_4 dX11_read_17 rfl rfl ?_
  refine jn_mem (fun μ4 eμ4 => ?_)
  replace h := h μ4 eμ4
  refine jr_iconst (q := 21) (v := (0 : Int32)) C dX11_read_20 (by decide) rfl ?_
  refine jr_istore_n (q := 22) (lv' := [(1, .int (0 : Int32)), (0, .ref (z + mm_ad 26 0))]) C dX11_read_21 rfl (by decide) rfl rfl ?_
  have l22 : ∀ (E22_49 : mm_T → Int32 → Prop) (hE22_49 : ∀ (μ : mm_T) (c1 : Int32), E22_49 μ c1 → jJ p l e ({ frames := 3, cells := 0, slots := 0, locals := 64 }) s m args below meth c D cy z (MQ below (va_Qi Po (mm_Po D cy z) (mm_A z)) args s 0 0 (mm_A z)) 2 μ 49 [(1, .int c1)] []), ∀ t9 : mm_T × Int32, lp_ (fun (K9 : mm_T × Int32 → Prop) (t9 : mm_T × Int32) => pX11_read_l22 Po E22_49 (fun μ a1 => K9 (μ, a1)) t9.1 t9.2) t9 → jJ p l e ({ frames := 3, cells := 0, slots := 0, locals := 64 }) s m args below meth c D cy z (MQ below (va_Qi Po (mm_Po D cy z) (mm_A z)) args s 0 0 (mm_A z)) 2 t9.1 22 [(0, .ref (z + mm_ad 26 0)), (1, .int t9.2)] [] := by
    intro E22_49 hE22_49 t9 h
    refine lp_go (P := fun t9 : mm_T × Int32 => jJ p l e ({ frames := 3, cells := 0, slots := 0, locals := 64 }) s m args below meth c D cy z (MQ below (va_Qi Po (mm_Po D cy z) (mm_A z)) args s 0 0 (mm_A z)) 2 t9.1 22 [(0, .ref (z + mm_ad 26 0)), (1, .int t9.2)] []) (fun K9 t9 hK h => ?_) t9 h
    obtain ⟨μ, a1⟩ := t9
    obtain ⟨K22, eK22⟩ : ∃ K : mm_T → Int32 → Prop, K = (fun μ a1 => K9 (μ, a1)) := ⟨_, rfl⟩
    have hK22 : ∀ (μ : mm_T) (a1 : Int32), K22 μ a1 → jJ p l e ({ frames := 3, cells := 0, slots := 0, locals := 64 }) s m args below meth c D cy z (MQ below (va_Qi Po (mm_Po D cy z) (mm_A z)) args s 0 0 (mm_A z)) 2 μ 22 [(0, .ref (z + mm_ad 26 0)), (1, .int a1)] [] := fun μ a1 h9 => hK (μ, a1) (by rw [eK22] at h9; exact h9)
    replace h : pX11_read_l22 Po E22_49 K22 μ a1 := by rw [eK22]; exact h
    unfold pX11_read_l22 at h
    refine jr_iload_n (q := 23) C 1 dX11_read_22 rfl rfl rfl ?_
    refine jr_aload_n (q := 24) C 0 dX11_read_23 rfl rfl rfl ?_
    refine jr_getI (q := 27) (ci := 11) (Cn := RX11) (T := TX11) (N := 42) (j := 0) C mf_26 rfl rfl (by decide) rfl rfl nX11_read_11 mX11_read_5 dX11_read_24 rfl rfl ?_
    refine jr_icmp_ge (q := 30) (tgt := 49) C dX11_read_27 (by decide) rfl (fun c9 => ?_) (fun c9 => ?_)
    · replace h := h.1 c9
      refine jr_sub [1] rfl ?_
      exact hE22_49 _ _ h
    · replace h := h.2 c9
      refine jr_aload_n (q := 31) C 0 dX11_read_30 rfl rfl rfl ?_
      refine jr_aload_n (q := 32) C 0 dX11_read_31 rfl rfl rfl ?_
      refine jr_getR (q := 35) (ci := 11) (Cn := RX11) (T := TX11) (N := 42) (j := 1) C mf_26 rfl rfl (by decide) rfl 27 0 rfl rfl rfl nX11_read_11 mX11_read_6 dX11_read_32 rfl rfl ?_
      refine jr_iload_n (q := 36) C 1 dX11_read_35 rfl rfl rfl ?_
      obtain ⟨g5, h⟩ := h
      refine jr_iald (q := 37) C mf_27 rfl g5 dX11_read_36 rfl ?_
      refine jr_cvI (q := 40) (As := [.int (μ.1 27 0 a1.toNatClampNeg)]) (rest := []) C (f := 26) (i := 0) (ci := 11) mf_26 rfl rfl rfl (kX11_takes l (μ.1 27 0 a1.toNatClampNeg)) rfl gX11_read_X11_takes rfl dsc_X11_takes ⟨rfl, rfl⟩ ⟨by decide, by decide⟩ rfl rfl (Nat.le_of_ble_eq_true rfl) dX11_read_37 rfl h (fun r7 μ6 h => ?_)
      refine jr_if_eq (q := 43) (tgt := 49) C dX11_read_40 (by decide) rfl (fun c8 => ?_) (fun c8 => ?_)
      · replace h := h.1 c8
        refine jr_sub [1] rfl ?_
        exact hE22_49 _ _ h
      · replace h := h.2 c8
        refine jr_iinc (q := 46) (lv' := [(1, .int (a1 + (1 : Int32))), (0, .ref (z + mm_ad 26 0))]) C 1 dX11_read_43 rfl (by rfl) (by decide) rfl rfl ?_
        refine jr_goto (tgt := 22) C dX11_read_46 (by decide) ?_
        refine jr_sub [1, 0] rfl ?_
        exact hK22 _ _ h
  have x22_49 : ∀ (μ : mm_T) (c1 : Int32), (Po c1 μ) → jJ p l e ({ frames := 3, cells := 0, slots := 0, locals := 64 }) s m args below meth c D cy z (MQ below (va_Qi Po (mm_Po D cy z) (mm_A z)) args s 0 0 (mm_A z)) 2 μ 49 [(1, .int c1)] [] := by
    intro μ c1 h
    refine jr_iload_n (q := 50) C 0 dX11_read_49 rfl rfl rfl ?_
    exact jr_iret C hr hk dX11_read_50 h
  refine jr_sub [1, 0] rfl ?_
  exact l22 _ x22_49 _ h
theorem dsc_X11_fault : yX11_fault.cls ≠ "java/lang/invoke/MethodHandle" ∧ yX11_fault.cls ≠ "java/lang/invoke/VarHandle" ∧ (parseMethodDescriptor yX11_fault.desc).map (fun d => d.parameters.length) = some 0 := by decide +kernel
def pX11_fault (Po : Int32 → mm_T → Prop) (μ : mm_T) : Prop := pX11_read (fun r2 μ1 => Po r2 μ1) μ 
set_option maxHeartbeats 4000000 in
set_option maxRecDepth 100000 in
theorem kX11_fault (l : Launch) : mm_CI l yX11_fault wsX11_fault ({ frames := 4, cells := 0, slots := 0, locals := 85 }) (fun z => [.ref (z + mm_ad 26 0)]) (fun μ Po => pX11_fault Po μ) := by
  refine je_I (cc := cX11_fault) (nL := 1) (own := RX11) (plainFor_of_name (by decide)) rfl rfl (fun _ => Nat.le_of_ble_eq_true rfl) ?_
  intro p e s m args below meth c D cy z μ Po C hr hk h
  change jJ p l e ({ frames := 4, cells := 0, slots := 0, locals := 85 }) s m args below meth c D cy z (MQ below (va_Qi Po (mm_Po D cy z) (mm_A z)) args s 0 0 (mm_A z)) 1 μ 0 [(0, .ref (z + mm_ad 26 0))] []
  replace h : pX11_fault Po μ := h
  unfold pX11_fault at h
  refine jr_aload_n (q := 1) C 0 dX11_fault_0 rfl rfl rfl ?_
  refine jr_cvI (q := 4) (As := []) (rest := []) C (f := 26) (i := 0) (ci := 11) mf_26 rfl rfl rfl (kX11_read l) rfl gX11_fault_X11_read rfl dsc_X11_read ⟨rfl, rfl⟩ ⟨by decide, by decide⟩ rfl rfl (Nat.le_of_ble_eq_true rfl) dX11_fault_1 rfl h (fun r2 μ1 h => ?_)
  exact jr_iret C hr hk dX11_fault_4 h
theorem nX11_layNode_11 : ∀ w ∈ wsX110, w ∈ wsX11_layNode := fun _ h => List.mem_cons_of_mem _ (List.mem_append_right _ h)
theorem mX11_layNode_1 : Cond.fieldLink RX11 13 RX11 (TX11 3).2.1 (TX11 3).2.2.1 ∈ wsX11_layNode := List.mem_of_getElem? (i := 1) (by decide +kernel)
theorem mX11_layNode_2 : Cond.fieldLink RX11 62 RX11 (TX11 36).2.1 (TX11 36).2.2.1 ∈ wsX11_layNode := List.mem_of_getElem? (i := 2) (by decide +kernel)
theorem mX11_layNode_3 : Cond.fieldLink RX11 17 RX11 (TX11 4).2.1 (TX11 4).2.2.1 ∈ wsX11_layNode := List.mem_of_getElem? (i := 3) (by decide +kernel)
theorem mX11_layNode_4 : Cond.fieldLink RX11 65 RX11 (TX11 37).2.1 (TX11 37).2.2.1 ∈ wsX11_layNode := List.mem_of_getElem? (i := 4) (by decide +kernel)
theorem mX11_layNode_5 : Cond.fieldLink RX11 20 RX11 (TX11 5).2.1 (TX11 5).2.2.1 ∈ wsX11_layNode := List.mem_of_getElem? (i := 5) (by decide +kernel)
theorem mX11_layNode_6 : Cond.fieldLink RX11 68 RX11 (TX11 38).2.1 (TX11 38).2.2.1 ∈ wsX11_layNode := List.mem_of_getElem? (i := 6) (by decide +kernel)
theorem mX11_layNode_7 : Cond.fieldLink RX11 23 RX11 (TX11 6).2.1 (TX11 6).2.2.1 ∈ wsX11_layNode := List.mem_of_getElem? (i := 7) (by decide +kernel)
theorem mX11_layNode_8 : Cond.fieldLink RX11 71 RX11 (TX11 39).2.1 (TX11 39).2.2.1 ∈ wsX11_layNode := List.mem_of_getElem? (i := 8) (by decide +kernel)
theorem mX11_layNode_9 : Cond.fieldLink RX11 26 RX11 (TX11 7).2.1 (TX11 7).2.2.1 ∈ wsX11_layNode := List.mem_of_getElem? (i := 9) (by decide +kernel)
theorem mX11_layNode_10 : Cond.fieldLink RX11 74 RX11 (TX11 40).2.1 (TX11 40).2.2.1 ∈ wsX11_layNode := List.mem_of_getElem? (i := 10) (by decide +kernel)
theorem mX11_layNode_11 : Cond.fieldLink RX11 29 RX11 (TX11 8).2.1 (TX11 8).2.2.1 ∈ wsX11_layNode := List.mem_of_getElem? (i := 11) (by decide +kernel)
theorem mX11_layNode_12 : Cond.fieldLink RX11 32 RX11 (TX11 9).2.1 (TX11 9).2.2.1 ∈ wsX11_layNode := List.mem_of_getElem? (i := 12) (by decide +kernel)
theorem dsc_X11_layNode : yX11_layNode.cls ≠ "java/lang/invoke/MethodHandle" ∧ yX11_layNode.cls ≠ "java/lang/invoke/VarHandle" ∧ (parseMethodDescriptor yX11_layNode.desc).map (fun d => d.parameters.length) = some 1 := by decide +kernel
def pX11_layNode (Po : mm_T → Prop) (μ : mm_T) (p1 : Int32) : Prop := (vp_in p1 7) ∧ ((vp_in p1 7) ∧ (((μ.1 44 0 p1.toNatClampNeg) = 0 ∨ (μ.1 44 0 p1.toNatClampNeg) = 1) ∧ (∀ μ4 : mm_T, μ4 = mm_I μ 28 0 p1.toNatClampNeg (μ.1 44 0 p1.toNatClampNeg) → ((vp_in p1 7) ∧ ((vp_in p1 7) ∧ (∀ μ7 : mm_T, μ7 = mm_I μ4 29 0 p1.toNatClampNeg (μ4.1 45 0 p1.toNatClampNeg) → ((vp_in p1 7) ∧ ((vp_in p1 7) ∧ (∀ μ10 : mm_T, μ10 = mm_I μ7 30 0 p1.toNatClampNeg (μ7.1 46 0 p1.toNatClampNeg) → ((vp_in p1 7) ∧ ((vp_in p1 7) ∧ (∀ μ13 : mm_T, μ13 = mm_I μ10 31 0 p1.toNatClampNeg (μ10.1 47 0 p1.toNatClampNeg) → ((vp_in p1 7) ∧ ((vp_in p1 7) ∧ (∀ μ16 : mm_T, μ16 = mm_I μ13 32 0 p1.toNatClampNeg (μ13.1 48 0 p1.toNatClampNeg) → ((vp_in p1 7) ∧ (∀ μ18 : mm_T, μ18 = mm_I μ16 33 0 p1.toNatClampNeg (100 : Int32) → ((vp_in p1 7) ∧ (∀ μ20 : mm_T, μ20 = mm_I μ18 34 0 p1.toNatClampNeg (0 : Int32) → (Po μ20))))))))))))))))))))
set_option maxHeartbeats 4000000 in
set_option maxRecDepth 100000 in
theorem kX11_layNode (l : Launch) (p1 : Int32) : mm_CV l yX11_layNode wsX11_layNode ({ frames := 0, cells := 0, slots := 0, locals := 0 }) (fun z => [.ref (z + mm_ad 26 0), .int p1]) (fun μ Po => pX11_layNode Po μ p1) := by
  refine je_V (cc := cX11_layNode) (nL := 2) (own := RX11) (plainFor_of_name (by decide)) rfl rfl (fun _ => Nat.le_of_ble_eq_true rfl) ?_
  intro p e s m args below meth c D cy z μ Po C hr hk h
  change jJ p l e ({ frames := 0, cells := 0, slots := 0, locals := 0 }) s m args below meth c D cy z (MQ below (va_Qv Po (mm_Po D cy z) (mm_A z)) args s 0 0 (mm_A z)) 2 μ 0 [(0, .ref (z + mm_ad 26 0)), (1, .int p1)] []
  replace h : pX11_layNode Po μ p1 := h
  unfold pX11_layNode at h
  refine jr_aload_n (q := 1) C 0 dX11_layNode_0 rfl rfl rfl ?_
  refine jr_getR (q := 4) (ci := 11) (Cn := RX11) (T := TX11) (N := 42) (j := 3) C mf_26 rfl rfl (by decide) rfl 28 0 rfl rfl rfl nX11_layNode_11 mX11_layNode_1 dX11_layNode_1 rfl rfl ?_
  refine jr_iload_n (q := 5) C 1 dX11_layNode_4 rfl rfl rfl ?_
  refine jr_aload_n (q := 6) C 0 dX11_layNode_5 rfl rfl rfl ?_
  refine jr_getR (q := 9) (ci := 11) (Cn := RX11) (T := TX11) (N := 42) (j := 36) C mf_26 rfl rfl (by decide) rfl 44 0 rfl rfl rfl nX11_layNode_11 mX11_layNode_2 dX11_layNode_6 rfl rfl ?_
  refine jr_iload_n (q := 10) C 1 dX11_layNode_9 rfl rfl rfl ?_
  obtain ⟨g1, h⟩ := h
  refine jr_zald (q := 11) C mf_44 rfl g1 dX11_layNode_10 rfl ?_
  obtain ⟨g2, h⟩ := h
  obtain ⟨g3, h⟩ := h
  refine jr_zast (q := 12) C mf_28 g3 rfl g2 dX11_layNode_11 rfl ?_
  refine jn_mem (fun μ4 eμ4 => ?_)
  replace h := h μ4 eμ4
  refine jr_aload_n (q := 13) C 0 dX11_layNode_12 rfl rfl rfl ?_
  refine jr_getR (q := 16) (ci := 11) (Cn := RX11) (T := TX11) (N := 42) (j := 4) C mf_26 rfl rfl (by decide) rfl 29 0 rfl rfl rfl nX11_layNode_11 mX11_layNode_3 dX11_layNode_13 rfl rfl ?_
  refine jr_iload_n (q := 17) C 1 dX11_layNode_16 rfl rfl rfl ?_
  refine jr_aload_n (q := 18) C 0 dX11_layNode_17 rfl rfl rfl ?_
  refine jr_getR (q := 21) (ci := 11) (Cn := RX11) (T := TX11) (N := 42) (j := 37) C mf_26 rfl rfl (by decide) rfl 45 0 rfl rfl rfl nX11_layNode_11 mX11_layNode_4 dX11_layNode_18 rfl rfl ?_
  refine jr_iload_n (q := 22) C 1 dX11_layNode_21 rfl rfl rfl ?_
  obtain ⟨g5, h⟩ := h
  refine jr_iald (q := 23) C mf_45 rfl g5 dX11_layNode_22 rfl ?_
  obtain ⟨g6, h⟩ := h
  refine jr_iast (q := 24) C mf_29 rfl g6 dX11_layNode_23 rfl ?_
  refine jn_mem (fun μ7 eμ7 => ?_)
  replace h := h μ7 eμ7
  refine jr_aload_n (q := 25) C 0 dX11_layNode_24 rfl rfl rfl ?_
  refine jr_getR (q := 28) (ci := 11) (Cn := RX11) (T := TX11) (N := 42) (j := 5) C mf_26 rfl rfl (by decide) rfl 30 0 rfl rfl rfl nX11_layNode_11 mX11_layNode_5 dX11_layNode_25 rfl rfl ?_
  refine jr_iload_n (q := 29) C 1 dX11_layNode_28 rfl rfl rfl ?_
  refine jr_aload_n (q := 30) C 0 dX11_layNode_29 rfl rfl rfl ?_
  refine jr_getR (q := 33) (ci := 11) (Cn := RX11) (T := TX11) (N := 42) (j := 38) C mf_26 rfl rfl (by decide) rfl 46 0 rfl rfl rfl nX11_layNode_11 mX11_layNode_6 dX11_layNode_30 rfl rfl ?_
  refine jr_iload_n (q := 34) C 1 dX11_layNode_33 rfl rfl rfl ?_
  obtain ⟨g8, h⟩ := h
  refine jr_iald (q := 35) C mf_46 rfl g8 dX11_layNode_34 rfl ?_
  obtain ⟨g9, h⟩ := h
  refine jr_iast (q := 36) C mf_30 rfl g9 dX11_layNode_35 rfl ?_
  refine jn_mem (fun μ10 eμ10 => ?_)
  replace h := h μ10 eμ10
  refine jr_aload_n (q := 37) C 0 dX11_layNode_36 rfl rfl rfl ?_
  refine jr_getR (q := 40) (ci := 11) (Cn := RX11) (T := TX11) (N := 42) (j := 6) C mf_26 rfl rfl (by decide) rfl 31 0 rfl rfl rfl nX11_layNode_11 mX11_layNode_7 dX11_layNode_37 rfl rfl ?_
  refine jr_iload_n (q := 41) C 1 dX11_layNode_40 rfl rfl rfl ?_
  refine jr_aload_n (q := 42) C 0 dX11_layNode_41 rfl rfl rfl ?_
  refine jr_getR (q := 45) (ci := 11) (Cn := RX11) (T := TX11) (N := 42) (j := 39) C mf_26 rfl rfl (by decide) rfl 47 0 rfl rfl rfl nX11_layNode_11 mX11_layNode_8 dX11_layNode_42 rfl rfl ?_
  refine jr_iload_n (q := 46) C 1 dX11_layNode_45 rfl rfl rfl ?_
  obtain ⟨g11, h⟩ := h
  refine jr_iald (q := 47) C mf_47 rfl g11 dX11_layNode_46 rfl ?_
  obtain ⟨g12, h⟩ := h
  refine jr_iast (q := 48) C mf_31 rfl g12 dX11_layNode_47 rfl ?_
  refine jn_mem (fun μ13 eμ13 => ?_)
  replace h := h μ13 eμ13
  refine jr_aload_n (q := 49) C 0 dX11_layNode_48 rfl rfl rfl ?_
  refine jr_getR (q := 52) (ci := 11) (Cn := RX11) (T := TX11) (N := 42) (j := 7) C mf_26 rfl rfl (by decide) rfl 32 0 rfl rfl rfl nX11_layNode_11 mX11_layNode_9 dX11_layNode_49 rfl rfl ?_
  refine jr_iload_n (q := 53) C 1 dX11_layNode_52 rfl rfl rfl ?_
  refine jr_aload_n (q := 54) C 0 dX11_layNode_53 rfl rfl rfl ?_
  refine jr_getR (q := 57) (ci := 11) (Cn := RX11) (T := TX11) (N := 42) (j := 40) C mf_26 rfl rfl (by decide) rfl 48 0 rfl rfl rfl nX11_layNode_11 mX11_layNode_10 dX11_layNode_54 rfl rfl ?_
  refine jr_iload_n (q := 58) C 1 dX11_layNode_57 rfl rfl rfl ?_
  obtain ⟨g14, h⟩ := h
  refine jr_iald (q := 59) C mf_48 rfl g14 dX11_layNode_58 rfl ?_
  obtain ⟨g15, h⟩ := h
  refine jr_iast (q := 60) C mf_32 rfl g15 dX11_layNode_59 rfl ?_
  refine jn_mem (fun μ16 eμ16 => ?_)
  replace h := h μ16 eμ16
  refine jr_aload_n (q := 61) C 0 dX11_layNode_60 rfl rfl rfl ?_
  refine jr_getR (q := 64) (ci := 11) (Cn := RX11) (T := TX11) (N := 42) (j := 8) C mf_26 rfl rfl (by decide) rfl 33 0 rfl rfl rfl nX11_layNode_11 mX11_layNode_11 dX11_layNode_61 rfl rfl ?_
  refine jr_iload_n (q := 65) C 1 dX11_layNode_64 rfl rfl rfl ?_
  refine jr_bipush (q := 67) (v := (100 : Int32)) C dX11_layNode_65 (by decide) rfl ?_
  obtain ⟨g17, h⟩ := h
  refine jr_iast (q := 68) C mf_33 rfl g17 dX11_layNode_67 rfl ?_
  refine jn_mem (fun μ18 eμ18 => ?_)
  replace h := h μ18 eμ18
  refine jr_aload_n (q := 69) C 0 dX11_layNode_68 rfl rfl rfl ?_
  refine jr_getR (q := 72) (ci := 11) (Cn := RX11) (T := TX11) (N := 42) (j := 9) C mf_26 rfl rfl (by decide) rfl 34 0 rfl rfl rfl nX11_layNode_11 mX11_layNode_12 dX11_layNode_69 rfl rfl ?_
  refine jr_iload_n (q := 73) C 1 dX11_layNode_72 rfl rfl rfl ?_
  refine jr_iconst (q := 74) (v := (0 : Int32)) C dX11_layNode_73 (by decide) rfl ?_
  obtain ⟨g19, h⟩ := h
  refine jr_iast (q := 75) C mf_34 rfl g19 dX11_layNode_74 rfl ?_
  refine jn_mem (fun μ20 eμ20 => ?_)
  replace h := h μ20 eμ20
  exact jr_vret C hr hk dX11_layNode_75 h
theorem nX11_anchorFrom_11 : ∀ w ∈ wsX110, w ∈ wsX11_anchorFrom := fun _ h => List.mem_cons_of_mem _ (List.mem_append_right _ h)
theorem mX11_anchorFrom_1 : Cond.fieldLink RX11 129 RX11 (TX11 2).2.1 (TX11 2).2.2.1 ∈ wsX11_anchorFrom := List.mem_of_getElem? (i := 1) (by decide +kernel)
theorem mX11_anchorFrom_2 : Cond.fieldLink RX11 13 RX11 (TX11 3).2.1 (TX11 3).2.2.1 ∈ wsX11_anchorFrom := List.mem_of_getElem? (i := 2) (by decide +kernel)
theorem dsc_X11_anchorFrom : yX11_anchorFrom.cls ≠ "java/lang/invoke/MethodHandle" ∧ yX11_anchorFrom.cls ≠ "java/lang/invoke/VarHandle" ∧ (parseMethodDescriptor yX11_anchorFrom.desc).map (fun d => d.parameters.length) = some 1 := by decide +kernel
def pX11_anchorFrom_l7 (Po : Int32 → mm_T → Prop) (E7_28 : mm_T → Int32 → Prop) (K7 : mm_T → Int32 → Prop) (μ : mm_T) (a2 : Int32) : Prop := (vp_in a2 7) ∧ (((μ.1 28 0 a2.toNatClampNeg) = 0 → E7_28 μ a2) ∧ (¬ ((μ.1 28 0 a2.toNatClampNeg) = 0) → (¬ (μ.1 26 0 2) = 0) ∧ (∀ x5 : Int32, x5 = (a2 + (1 : Int32)) - (a2 + (1 : Int32)) / (μ.1 26 0 2) * (μ.1 26 0 2) → (K7 μ x5))))
def pX11_anchorFrom (Po : Int32 → mm_T → Prop) (μ : mm_T) (p1 : Int32) : Prop := (¬ (μ.1 26 0 2) = 0) ∧ (∀ x2 : Int32, x2 = p1 - p1 / (μ.1 26 0 2) * (μ.1 26 0 2) → (lp_ (fun (K9 : mm_T × Int32 → Prop) (t9 : mm_T × Int32) => pX11_anchorFrom_l7 Po (fun μ c2 => Po c2 μ) (fun μ a2 => K9 (μ, a2)) t9.1 t9.2) (μ, x2)))
set_option maxHeartbeats 4000000 in
set_option maxRecDepth 100000 in
theorem kX11_anchorFrom (l : Launch) (p1 : Int32) : mm_CI l yX11_anchorFrom wsX11_anchorFrom ({ frames := 0, cells := 0, slots := 0, locals := 0 }) (fun z => [.ref (z + mm_ad 26 0), .int p1]) (fun μ Po => pX11_anchorFrom Po μ p1) := by
  refine je_I (cc := cX11_anchorFrom) (nL := 3) (own := RX11) (plainFor_of_name (by decide)) rfl rfl (fun _ => Nat.le_of_ble_eq_true rfl) ?_
  intro p e s m args below meth c D cy z μ Po C hr hk h
  change jJ p l e ({ frames := 0, cells := 0, slots := 0, locals := 0 }) s m args below meth c D cy z (MQ below (va_Qi Po (mm_Po D cy z) (mm_A z)) args s 0 0 (mm_A z)) 3 μ 0 [(0, .ref (z + mm_ad 26 0)), (1, .int p1)] []
  replace h : pX11_anchorFrom Po μ p1 := h
  unfold pX11_anchorFrom at h
  refine jr_iload_n (q := 1) C 1 dX11_anchorFrom_0 rfl rfl rfl ?_
  refine jr_aload_n (q := 2) C 0 dX11_anchorFrom_1 rfl rfl rfl ?_
  refine jr_getI (q := 5) (ci := 11) (Cn := RX11) (T := TX11) (N := 42) (j := 2) C mf_26 rfl rfl (by decide) rfl rfl nX11_anchorFrom_11 mX11_anchorFrom_1 dX11_anchorFrom_2 rfl rfl ?_
  obtain ⟨g1, h⟩ := h
  refine jr_irem (q := 6) C dX11_anchorFrom_5 g1 rfl ?_
  refine jn_int (fun x2 ex2 => ?_)
  replace h := h x2 ex2
  refine jr_istore_n (q := 7) (lv' := [(2, .int x2), (0, .ref (z + mm_ad 26 0)), (1, .int p1)]) C dX11_anchorFrom_6 rfl (by decide) rfl rfl ?_
  have l7 : ∀ (E7_28 : mm_T → Int32 → Prop) (hE7_28 : ∀ (μ : mm_T) (c2 : Int32), E7_28 μ c2 → jJ p l e ({ frames := 0, cells := 0, slots := 0, locals := 0 }) s m args below meth c D cy z (MQ below (va_Qi Po (mm_Po D cy z) (mm_A z)) args s 0 0 (mm_A z)) 3 μ 28 [(2, .int c2)] []), ∀ t9 : mm_T × Int32, lp_ (fun (K9 : mm_T × Int32 → Prop) (t9 : mm_T × Int32) => pX11_anchorFrom_l7 Po E7_28 (fun μ a2 => K9 (μ, a2)) t9.1 t9.2) t9 → jJ p l e ({ frames := 0, cells := 0, slots := 0, locals := 0 }) s m args below meth c D cy z (MQ below (va_Qi Po (mm_Po D cy z) (mm_A z)) args s 0 0 (mm_A z)) 3 t9.1 7 [(0, .ref (z + mm_ad 26 0)), (2, .int t9.2)] [] := by
    intro E7_28 hE7_28 t9 h
    refine lp_go (P := fun t9 : mm_T × Int32 => jJ p l e ({ frames := 0, cells := 0, slots := 0, locals := 0 }) s m args below meth c D cy z (MQ below (va_Qi Po (mm_Po D cy z) (mm_A z)) args s 0 0 (mm_A z)) 3 t9.1 7 [(0, .ref (z + mm_ad 26 0)), (2, .int t9.2)] []) (fun K9 t9 hK h => ?_) t9 h
    obtain ⟨μ, a2⟩ := t9
    obtain ⟨K7, eK7⟩ : ∃ K : mm_T → Int32 → Prop, K = (fun μ a2 => K9 (μ, a2)) := ⟨_, rfl⟩
    have hK7 : ∀ (μ : mm_T) (a2 : Int32), K7 μ a2 → jJ p l e ({ frames := 0, cells := 0, slots := 0, locals := 0 }) s m args below meth c D cy z (MQ below (va_Qi Po (mm_Po D cy z) (mm_A z)) args s 0 0 (mm_A z)) 3 μ 7 [(0, .ref (z + mm_ad 26 0)), (2, .int a2)] [] := fun μ a2 h9 => hK (μ, a2) (by rw [eK7] at h9; exact h9)
    replace h : pX11_anchorFrom_l7 Po E7_28 K7 μ a2 := by rw [eK7]; exact h
    unfold pX11_anchorFrom_l7 at h
    refine jr_aload_n (q := 8) C 0 dX11_anchorFrom_7 rfl rfl rfl ?_
    refine jr_getR (q := 11) (ci := 11) (Cn := RX11) (T := TX11) (N := 42) (j := 3) C mf_26 rfl rfl (by decide) rfl 28 0 rfl rfl rfl nX11_anchorFrom_11 mX11_anchorFrom_2 dX11_anchorFrom_8 rfl rfl ?_
    refine jr_iload_n (q := 12) C 1 dX11_anchorFrom_11 rfl rfl rfl ?_
    obtain ⟨g3, h⟩ := h
    refine jr_zald (q := 13) C mf_28 rfl g3 dX11_anchorFrom_12 rfl ?_
    refine jr_if_eq (q := 16) (tgt := 28) C dX11_anchorFrom_13 (by decide) rfl (fun c6 => ?_) (fun c6 => ?_)
    · replace h := h.1 c6
      refine jr_sub [1] rfl ?_
      exact hE7_28 _ _ h
    · replace h := h.2 c6
      refine jr_iload_n (q := 17) C 1 dX11_anchorFrom_16 rfl rfl rfl ?_
      refine jr_iconst (q := 18) (v := (1 : Int32)) C dX11_anchorFrom_17 (by decide) rfl ?_
      refine jr_iadd (q := 19) C dX11_anchorFrom_18 rfl ?_
      refine jr_aload_n (q := 20) C 0 dX11_anchorFrom_19 rfl rfl rfl ?_
      refine jr_getI (q := 23) (ci := 11) (Cn := RX11) (T := TX11) (N := 42) (j := 2) C mf_26 rfl rfl (by decide) rfl rfl nX11_anchorFrom_11 mX11_anchorFrom_1 dX11_anchorFrom_20 rfl rfl ?_
      obtain ⟨g4, h⟩ := h
      refine jr_irem (q := 24) C dX11_anchorFrom_23 g4 rfl ?_
      refine jn_int (fun x5 ex5 => ?_)
      replace h := h x5 ex5
      refine jr_istore_n (q := 25) (lv' := [(2, .int x5), (0, .ref (z + mm_ad 26 0))]) C dX11_anchorFrom_24 rfl (by decide) rfl rfl ?_
      refine jr_goto (tgt := 7) C dX11_anchorFrom_25 (by decide) ?_
      refine jr_sub [1, 0] rfl ?_
      exact hK7 _ _ h
  have x7_28 : ∀ (μ : mm_T) (c2 : Int32), (Po c2 μ) → jJ p l e ({ frames := 0, cells := 0, slots := 0, locals := 0 }) s m args below meth c D cy z (MQ below (va_Qi Po (mm_Po D cy z) (mm_A z)) args s 0 0 (mm_A z)) 3 μ 28 [(2, .int c2)] [] := by
    intro μ c2 h
    refine jr_iload_n (q := 29) C 0 dX11_anchorFrom_28 rfl rfl rfl ?_
    exact jr_iret C hr hk dX11_anchorFrom_29 h
  refine jr_sub [1, 0] rfl ?_
  exact l7 _ x7_28 _ h
theorem nX11_layField_11 : ∀ w ∈ wsX110, w ∈ wsX11_layField := fun _ h => List.mem_cons_of_mem _ (List.mem_append_right _ h)
theorem mX11_layField_1 : Cond.fieldLink RX11 90 RX11 (TX11 33).2.1 (TX11 33).2.2.1 ∈ wsX11_layField := List.mem_of_getElem? (i := 1) (by decide +kernel)
theorem mX11_layField_2 : Cond.fieldLink RX11 129 RX11 (TX11 2).2.1 (TX11 2).2.2.1 ∈ wsX11_layField := List.mem_of_getElem? (i := 2) (by decide +kernel)
theorem mX11_layField_3 : Cond.fieldLink RX11 140 RX11 (TX11 17).2.1 (TX11 17).2.2.1 ∈ wsX11_layField := List.mem_of_getElem? (i := 9) (by decide +kernel)
theorem mX11_layField_4 : Cond.fieldLink RX11 143 RX11 (TX11 18).2.1 (TX11 18).2.2.1 ∈ wsX11_layField := List.mem_of_getElem? (i := 10) (by decide +kernel)
theorem mX11_layField_5 : Cond.fieldLink RX11 146 RX11 (TX11 19).2.1 (TX11 19).2.2.1 ∈ wsX11_layField := List.mem_of_getElem? (i := 11) (by decide +kernel)
theorem mX11_layField_6 : Cond.fieldLink RX11 149 RX11 (TX11 20).2.1 (TX11 20).2.2.1 ∈ wsX11_layField := List.mem_of_getElem? (i := 12) (by decide +kernel)
theorem mX11_layField_7 : Cond.fieldLink RX11 53 RX11 (TX11 16).2.1 (TX11 16).2.2.1 ∈ wsX11_layField := List.mem_of_getElem? (i := 8) (by decide +kernel)
theorem mX11_layField_8 : Cond.fieldLink RX11 38 RX11 (TX11 11).2.1 (TX11 11).2.2.1 ∈ wsX11_layField := List.mem_of_getElem? (i := 4) (by decide +kernel)
theorem mX11_layField_9 : Cond.fieldLink RX11 41 RX11 (TX11 12).2.1 (TX11 12).2.2.1 ∈ wsX11_layField := List.mem_of_getElem? (i := 5) (by decide +kernel)
theorem mX11_layField_10 : Cond.fieldLink RX11 44 RX11 (TX11 13).2.1 (TX11 13).2.2.1 ∈ wsX11_layField := List.mem_of_getElem? (i := 6) (by decide +kernel)
theorem mX11_layField_11 : Cond.fieldLink RX11 47 RX11 (TX11 14).2.1 (TX11 14).2.2.1 ∈ wsX11_layField := List.mem_of_getElem? (i := 7) (by decide +kernel)
theorem mX11_layField_12 : Cond.fieldLink RX11 35 RX11 (TX11 10).2.1 (TX11 10).2.2.1 ∈ wsX11_layField := List.mem_of_getElem? (i := 3) (by decide +kernel)
theorem dsc_X11_layField : yX11_layField.cls ≠ "java/lang/invoke/MethodHandle" ∧ yX11_layField.cls ≠ "java/lang/invoke/VarHandle" ∧ (parseMethodDescriptor yX11_layField.desc).map (fun d => d.parameters.length) = some 0 := by decide +kernel
def pX11_layField_l107 (Po : mm_T → Prop) (E107_126 : mm_T → Prop) (K107 : mm_T → Int32 → Prop) (μ : mm_T) (a1 : Int32) : Prop := ((16 : Int32) ≤ a1 → E107_126 μ) ∧ (¬ ((16 : Int32) ≤ a1) → (vp_in a1 16) ∧ (∀ μ7 : mm_T, μ7 = mm_I μ 41 0 a1.toNatClampNeg (-1 : Int32) → (K107 μ7 (a1 + (1 : Int32)))))
def pX11_layField_l58 (Po : mm_T → Prop) (E58_105 : mm_T → Prop) (K58 : mm_T → Int32 → Prop) (μ : mm_T) (a1 : Int32) : Prop := ((49 : Int32) ≤ a1 → E58_105 μ) ∧ (¬ ((49 : Int32) ≤ a1) → (vp_in a1 49) ∧ (∀ μ10 : mm_T, μ10 = mm_I μ 36 0 a1.toNatClampNeg (1 : Int32) → ((vp_in ((6 : Int32) * a1) 294) ∧ (∀ μ12 : mm_T, μ12 = mm_I μ10 37 0 ((6 : Int32) * a1).toNatClampNeg (0 : Int32) → ((vp_in ((6 : Int32) * a1) 294) ∧ (∀ μ14 : mm_T, μ14 = mm_I μ12 38 0 ((6 : Int32) * a1).toNatClampNeg (9 : Int32) → ((vp_in a1 49) ∧ (∀ μ16 : mm_T, μ16 = mm_I μ14 39 0 a1.toNatClampNeg (0 : Int32) → (K58 μ16 (a1 + (1 : Int32)))))))))))
def pX11_layField_l31 (Po : mm_T → Prop) (E31_56 : mm_T → Prop) (K31 : mm_T → Int32 → Prop) (μ : mm_T) (a1 : Int32) : Prop := ((μ.1 26 0 2) ≤ a1 → E31_56 μ) ∧ (¬ ((μ.1 26 0 2) ≤ a1) → pX11_anchorFrom (fun r19 μ18 => (vp_in a1 7) ∧ (∀ μ21 : mm_T, μ21 = mm_I μ18 35 0 a1.toNatClampNeg r19 → (K31 μ21 (a1 + (1 : Int32))))) μ (0 : Int32))
def pX11_layField_l10 (Po : mm_T → Prop) (E10_29 : mm_T → Prop) (K10 : mm_T → Int32 → Prop) (μ : mm_T) (a1 : Int32) : Prop := ((μ.1 26 0 2) ≤ a1 → E10_29 μ) ∧ (¬ ((μ.1 26 0 2) ≤ a1) → pX11_layNode (fun μ23 => K10 μ23 (a1 + (1 : Int32))) μ a1)
def pX11_layField (Po : mm_T → Prop) (μ : mm_T) : Prop := ∀ μ1 : mm_T, μ1 = mm_I μ 26 0 2 (μ.1 26 0 33) → (lp_ (fun (K9 : mm_T × Int32 → Prop) (t9 : mm_T × Int32) => pX11_layField_l10 Po (fun μ => lp_ (fun (K9 : mm_T × Int32 → Prop) (t9 : mm_T × Int32) => pX11_layField_l31 Po (fun μ => lp_ (fun (K9 : mm_T × Int32 → Prop) (t9 : mm_T × Int32) => pX11_layField_l58 Po (fun μ => lp_ (fun (K9 : mm_T × Int32 → Prop) (t9 : mm_T × Int32) => pX11_layField_l107 Po (fun μ => ∀ μ2 : mm_T, μ2 = mm_I μ 26 0 17 (0 : Int32) → (∀ μ3 : mm_T, μ3 = mm_I μ2 26 0 18 (4 : Int32) → (∀ μ4 : mm_T, μ4 = mm_I μ3 26 0 19 (400 : Int32) → (∀ μ5 : mm_T, μ5 = mm_I μ4 26 0 20 (0 : Int32) → (Po μ5))))) (fun μ a1 => K9 (μ, a1)) t9.1 t9.2) (μ, (0 : Int32))) (fun μ a1 => K9 (μ, a1)) t9.1 t9.2) (μ, (0 : Int32))) (fun μ a1 => K9 (μ, a1)) t9.1 t9.2) (μ, (0 : Int32))) (fun μ a1 => K9 (μ, a1)) t9.1 t9.2) (μ1, (0 : Int32)))
set_option maxHeartbeats 4000000 in
set_option maxRecDepth 100000 in
theorem kX11_layField (l : Launch) : mm_CV l yX11_layField wsX11_layField ({ frames := 1, cells := 0, slots := 0, locals := 22 }) (fun z => [.ref (z + mm_ad 26 0)]) (fun μ Po => pX11_layField Po μ) := by
  refine je_V (cc := cX11_layField) (nL := 2) (own := RX11) (plainFor_of_name (by decide)) rfl rfl (fun _ => Nat.le_of_ble_eq_true rfl) ?_
  intro p e s m args below meth c D cy z μ Po C hr hk h
  change jJ p l e ({ frames := 1, cells := 0, slots := 0, locals := 22 }) s m args below meth c D cy z (MQ below (va_Qv Po (mm_Po D cy z) (mm_A z)) args s 0 0 (mm_A z)) 2 μ 0 [(0, .ref (z + mm_ad 26 0))] []
  replace h : pX11_layField Po μ := h
  unfold pX11_layField at h
  refine jr_aload_n (q := 1) C 0 dX11_layField_0 rfl rfl rfl ?_
  refine jr_aload_n (q := 2) C 0 dX11_layField_1 rfl rfl rfl ?_
  refine jr_getI (q := 5) (ci := 11) (Cn := RX11) (T := TX11) (N := 42) (j := 33) C mf_26 rfl rfl (by decide) rfl rfl nX11_layField_11 mX11_layField_1 dX11_layField_2 rfl rfl ?_
  refine jr_putI (q := 8) (ci := 11) (Cn := RX11) (T := TX11) (N := 42) (j := 2) C mf_26 rfl rfl (by decide) rfl rfl tyX11 tyX11_ok nmX11 rfl (by decide +kernel) nX11_layField_11 mX11_layField_2 dX11_layField_5 rfl rfl ?_
  refine jn_mem (fun μ1 eμ1 => ?_)
  replace h := h μ1 eμ1
  refine jr_iconst (q := 9) (v := (0 : Int32)) C dX11_layField_8 (by decide) rfl ?_
  refine jr_istore_n (q := 10) (lv' := [(1, .int (0 : Int32)), (0, .ref (z + mm_ad 26 0))]) C dX11_layField_9 rfl (by decide) rfl rfl ?_
  have l10 : ∀ (E10_29 : mm_T → Prop) (hE10_29 : ∀ (μ : mm_T), E10_29 μ → jJ p l e ({ frames := 1, cells := 0, slots := 0, locals := 22 }) s m args below meth c D cy z (MQ below (va_Qv Po (mm_Po D cy z) (mm_A z)) args s 0 0 (mm_A z)) 2 μ 29 [(0, .ref (z + mm_ad 26 0))] []), ∀ t9 : mm_T × Int32, lp_ (fun (K9 : mm_T × Int32 → Prop) (t9 : mm_T × Int32) => pX11_layField_l10 Po E10_29 (fun μ a1 => K9 (μ, a1)) t9.1 t9.2) t9 → jJ p l e ({ frames := 1, cells := 0, slots := 0, locals := 22 }) s m args below meth c D cy z (MQ below (va_Qv Po (mm_Po D cy z) (mm_A z)) args s 0 0 (mm_A z)) 2 t9.1 10 [(0, .ref (z + mm_ad 26 0)), (1, .int t9.2)] [] := by
    intro E10_29 hE10_29 t9 h
    refine lp_go (P := fun t9 : mm_T × Int32 => jJ p l e ({ frames := 1, cells := 0, slots := 0, locals := 22 }) s m args below meth c D cy z (MQ below (va_Qv Po (mm_Po D cy z) (mm_A z)) args s 0 0 (mm_A z)) 2 t9.1 10 [(0, .ref (z + mm_ad 26 0)), (1, .int t9.2)] []) (fun K9 t9 hK h => ?_) t9 h
    obtain ⟨μ, a1⟩ := t9
    obtain ⟨K10, eK10⟩ : ∃ K : mm_T → Int32 → Prop, K = (fun μ a1 => K9 (μ, a1)) := ⟨_, rfl⟩
    have hK10 : ∀ (μ : mm_T) (a1 : Int32), K10 μ a1 → jJ p l e ({ frames := 1, cells := 0, slots := 0, locals := 22 }) s m args below meth c D cy z (MQ below (va_Qv Po (mm_Po D cy z) (mm_A z)) args s 0 0 (mm_A z)) 2 μ 10 [(0, .ref (z + mm_ad 26 0)), (1, .int a1)] [] := fun μ a1 h9 => hK (μ, a1) (by rw [eK10] at h9; exact h9)
    replace h : pX11_layField_l10 Po E10_29 K10 μ a1 := by rw [eK10]; exact h
    unfold pX11_layField_l10 at h
    refine jr_iload_n (q := 11) C 1 dX11_layField_10 rfl rfl rfl ?_
    refine jr_aload_n (q := 12) C 0 dX11_layField_11 rfl rfl rfl ?_
    refine jr_getI (q := 15) (ci := 11) (Cn := RX11) (T := TX11) (N := 42) (j := 2) C mf_26 rfl rfl (by decide) rfl rfl nX11_layField_11 mX11_layField_2 dX11_layField_12 rfl rfl ?_
    refine jr_icmp_ge (q := 18) (tgt := 29) C dX11_layField_15 (by decide) rfl (fun c24 => ?_) (fun c24 => ?_)
    · replace h := h.1 c24
      refine jr_sub [0] rfl ?_
      exact hE10_29 _ h
    · replace h := h.2 c24
      refine jr_aload_n (q := 19) C 0 dX11_layField_18 rfl rfl rfl ?_
      refine jr_iload_n (q := 20) C 1 dX11_layField_19 rfl rfl rfl ?_
      refine jr_cvV (q := 23) (As := [.int a1]) (rest := []) C (f := 26) (i := 0) (ci := 11) mf_26 rfl rfl rfl (kX11_layNode l a1) rfl gX11_layField_X11_layNode rfl dsc_X11_layNode ⟨rfl, rfl⟩ ⟨by decide, by decide⟩ rfl rfl (Nat.le_of_ble_eq_true rfl) dX11_layField_20 rfl h (fun μ23 h => ?_)
      refine jr_iinc (q := 26) (lv' := [(1, .int (a1 + (1 : Int32))), (0, .ref (z + mm_ad 26 0))]) C 1 dX11_layField_23 rfl (by rfl) (by decide) rfl rfl ?_
      refine jr_goto (tgt := 10) C dX11_layField_26 (by decide) ?_
      refine jr_sub [1, 0] rfl ?_
      exact hK10 _ _ h
  have x10_29 : ∀ (μ : mm_T), (lp_ (fun (K9 : mm_T × Int32 → Prop) (t9 : mm_T × Int32) => pX11_layField_l31 Po (fun μ => lp_ (fun (K9 : mm_T × Int32 → Prop) (t9 : mm_T × Int32) => pX11_layField_l58 Po (fun μ => lp_ (fun (K9 : mm_T × Int32 → Prop) (t9 : mm_T × Int32) => pX11_layField_l107 Po (fun μ => ∀ μ2 : mm_T, μ2 = mm_I μ 26 0 17 (0 : Int32) → (∀ μ3 : mm_T, μ3 = mm_I μ2 26 0 18 (4 : Int32) → (∀ μ4 : mm_T, μ4 = mm_I μ3 26 0 19 (400 : Int32) → (∀ μ5 : mm_T, μ5 = mm_I μ4 26 0 20 (0 : Int32) → (Po μ5))))) (fun μ a1 => K9 (μ, a1)) t9.1 t9.2) (μ, (0 : Int32))) (fun μ a1 => K9 (μ, a1)) t9.1 t9.2) (μ, (0 : Int32))) (fun μ a1 => K9 (μ, a1)) t9.1 t9.2) (μ, (0 : Int32))) → jJ p l e ({ frames := 1, cells := 0, slots := 0, locals := 22 }) s m args below meth c D cy z (MQ below (va_Qv Po (mm_Po D cy z) (mm_A z)) args s 0 0 (mm_A z)) 2 μ 29 [(0, .ref (z + mm_ad 26 0))] [] := by
    intro μ h
    refine jr_iconst (q := 30) (v := (0 : Int32)) C dX11_layField_29 (by decide) rfl ?_
    refine jr_istore_n (q := 31) (lv' := [(1, .int (0 : Int32)), (0, .ref (z + mm_ad 26 0))]) C dX11_layField_30 rfl (by decide) rfl rfl ?_
    have l31 : ∀ (E31_56 : mm_T → Prop) (hE31_56 : ∀ (μ : mm_T), E31_56 μ → jJ p l e ({ frames := 1, cells := 0, slots := 0, locals := 22 }) s m args below meth c D cy z (MQ below (va_Qv Po (mm_Po D cy z) (mm_A z)) args s 0 0 (mm_A z)) 2 μ 56 [(0, .ref (z + mm_ad 26 0))] []), ∀ t9 : mm_T × Int32, lp_ (fun (K9 : mm_T × Int32 → Prop) (t9 : mm_T × Int32) => pX11_layField_l31 Po E31_56 (fun μ a1 => K9 (μ, a1)) t9.1 t9.2) t9 → jJ p l e ({ frames := 1, cells := 0, slots := 0, locals := 22 }) s m args below meth c D cy z (MQ below (va_Qv Po (mm_Po D cy z) (mm_A z)) args s 0 0 (mm_A z)) 2 t9.1 31 [(0, .ref (z + mm_ad 26 0)), (1, .int t9.2)] [] := by
      intro E31_56 hE31_56 t9 h
      refine lp_go (P := fun t9 : mm_T × Int32 => jJ p l e ({ frames := 1, cells := 0, slots := 0, locals := 22 }) s m args below meth c D cy z (MQ below (va_Qv Po (mm_Po D cy z) (mm_A z)) args s 0 0 (mm_A z)) 2 t9.1 31 [(0, .ref (z + mm_ad 26 0)), (1, .int t9.2)] []) (fun K9 t9 hK h => ?_) t9 h
      obtain ⟨μ, a1⟩ := t9
      obtain ⟨K31, eK31⟩ : ∃ K : mm_T → Int32 → Prop, K = (fun μ a1 => K9 (μ, a1)) := ⟨_, rfl⟩
      have hK31 : ∀ (μ : mm_T) (a1 : Int32), K31 μ a1 → jJ p l e ({ frames := 1, cells := 0, slots := 0, locals := 22 }) s m args below meth c D cy z (MQ below (va_Qv Po (mm_Po D cy z) (mm_A z)) args s 0 0 (mm_A z)) 2 μ 31 [(0, .ref (z + mm_ad 26 0)), (1, .int a1)] [] := fun μ a1 h9 => hK (μ, a1) (by rw [eK31] at h9; exact h9)
      replace h : pX11_layField_l31 Po E31_56 K31 μ a1 := by rw [eK31]; exact h
      unfold pX11_layField_l31 at h
      refine jr_iload_n (q := 32) C 1 dX11_layField_31 rfl rfl rfl ?_
      refine jr_aload_n (q := 33) C 0 dX11_layField_32 rfl rfl rfl ?_
      refine jr_getI (q := 36) (ci := 11) (Cn := RX11) (T := TX11) (N := 42) (j := 2) C mf_26 rfl rfl (by decide) rfl rfl nX11_layField_11 mX11_layField_2 dX11_layField_33 rfl rfl ?_
      refine jr_icmp_ge (q := 39) (tgt := 56) C dX11_layField_36 (by decide) rfl (fun c22 => ?_) (fun c22 => ?_)
      · replace h := h.1 c22
        refine jr_sub [0] rfl ?_
        exact hE31_56 _ h
      · replace h := h.2 c22
        refine jr_aload_n (q := 40) C 0 dX11_layField_39 rfl rfl rfl ?_
        refine jr_getR (q := 43) (ci := 11) (Cn := RX11) (T := TX11) (N := 42) (j := 10) C mf_26 rfl rfl (by decide) rfl 35 0 rfl rfl rfl nX11_layField_11 mX11_layField_12 dX11_layField_40 rfl rfl ?_
        refine jr_iload_n (q := 44) C 1 dX11_layField_43 rfl rfl rfl ?_
        refine jr_aload_n (q := 45) C 0 dX11_layField_44 rfl rfl rfl ?_
        refine jr_iconst (q := 46) (v := (0 : Int32)) C dX11_layField_45 (by decide) rfl ?_
        refine jr_cvI (q := 49) (As := [.int (0 : Int32)]) (rest := [.int a1, .ref (z + mm_ad 35 0)]) C (f := 26) (i := 0) (ci := 11) mf_26 rfl rfl rfl (kX11_anchorFrom l (0 : Int32)) rfl gX11_layField_X11_anchorFrom rfl dsc_X11_anchorFrom ⟨rfl, rfl⟩ ⟨by decide, by decide⟩ rfl rfl (Nat.le_of_ble_eq_true rfl) dX11_layField_46 rfl h (fun r19 μ18 h => ?_)
        obtain ⟨g20, h⟩ := h
        refine jr_iast (q := 50) C mf_35 rfl g20 dX11_layField_49 rfl ?_
        refine jn_mem (fun μ21 eμ21 => ?_)
        replace h := h μ21 eμ21
        refine jr_iinc (q := 53) (lv' := [(1, .int (a1 + (1 : Int32))), (0, .ref (z + mm_ad 26 0))]) C 1 dX11_layField_50 rfl (by rfl) (by decide) rfl rfl ?_
        refine jr_goto (tgt := 31) C dX11_layField_53 (by decide) ?_
        refine jr_sub [1, 0] rfl ?_
        exact hK31 _ _ h
    have x31_56 : ∀ (μ : mm_T), (lp_ (fun (K9 : mm_T × Int32 → Prop) (t9 : mm_T × Int32) => pX11_layField_l58 Po (fun μ => lp_ (fun (K9 : mm_T × Int32 → Prop) (t9 : mm_T × Int32) => pX11_layField_l107 Po (fun μ => ∀ μ2 : mm_T, μ2 = mm_I μ 26 0 17 (0 : Int32) → (∀ μ3 : mm_T, μ3 = mm_I μ2 26 0 18 (4 : Int32) → (∀ μ4 : mm_T, μ4 = mm_I μ3 26 0 19 (400 : Int32) → (∀ μ5 : mm_T, μ5 = mm_I μ4 26 0 20 (0 : Int32) → (Po μ5))))) (fun μ a1 => K9 (μ, a1)) t9.1 t9.2) (μ, (0 : Int32))) (fun μ a1 => K9 (μ, a1)) t9.1 t9.2) (μ, (0 : Int32))) → jJ p l e ({ frames := 1, cells := 0, slots := 0, locals := 22 }) s m args below meth c D cy z (MQ below (va_Qv Po (mm_Po D cy z) (mm_A z)) args s 0 0 (mm_A z)) 2 μ 56 [(0, .ref (z + mm_ad 26 0))] [] := by
      intro μ h
      refine jr_iconst (q := 57) (v := (0 : Int32)) C dX11_layField_56 (by decide) rfl ?_
      refine jr_istore_n (q := 58) (lv' := [(1, .int (0 : Int32)), (0, .ref (z + mm_ad 26 0))]) C dX11_layField_57 rfl (by decide) rfl rfl ?_
      have l58 : ∀ (E58_105 : mm_T → Prop) (hE58_105 : ∀ (μ : mm_T), E58_105 μ → jJ p l e ({ frames := 1, cells := 0, slots := 0, locals := 22 }) s m args below meth c D cy z (MQ below (va_Qv Po (mm_Po D cy z) (mm_A z)) args s 0 0 (mm_A z)) 2 μ 105 [(0, .ref (z + mm_ad 26 0))] []), ∀ t9 : mm_T × Int32, lp_ (fun (K9 : mm_T × Int32 → Prop) (t9 : mm_T × Int32) => pX11_layField_l58 Po E58_105 (fun μ a1 => K9 (μ, a1)) t9.1 t9.2) t9 → jJ p l e ({ frames := 1, cells := 0, slots := 0, locals := 22 }) s m args below meth c D cy z (MQ below (va_Qv Po (mm_Po D cy z) (mm_A z)) args s 0 0 (mm_A z)) 2 t9.1 58 [(0, .ref (z + mm_ad 26 0)), (1, .int t9.2)] [] := by
        intro E58_105 hE58_105 t9 h
        refine lp_go (P := fun t9 : mm_T × Int32 => jJ p l e ({ frames := 1, cells := 0, slots := 0, locals := 22 }) s m args below meth c D cy z (MQ below (va_Qv Po (mm_Po D cy z) (mm_A z)) args s 0 0 (mm_A z)) 2 t9.1 58 [(0, .ref (z + mm_ad 26 0)), (1, .int t9.2)] []) (fun K9 t9 hK h => ?_) t9 h
        obtain ⟨μ, a1⟩ := t9
        obtain ⟨K58, eK58⟩ : ∃ K : mm_T → Int32 → Prop, K = (fun μ a1 => K9 (μ, a1)) := ⟨_, rfl⟩
        have hK58 : ∀ (μ : mm_T) (a1 : Int32), K58 μ a1 → jJ p l e ({ frames := 1, cells := 0, slots := 0, locals := 22 }) s m args below meth c D cy z (MQ below (va_Qv Po (mm_Po D cy z) (mm_A z)) args s 0 0 (mm_A z)) 2 μ 58 [(0, .ref (z + mm_ad 26 0)), (1, .int a1)] [] := fun μ a1 h9 => hK (μ, a1) (by rw [eK58] at h9; exact h9)
        replace h : pX11_layField_l58 Po E58_105 K58 μ a1 := by rw [eK58]; exact h
        unfold pX11_layField_l58 at h
        refine jr_iload_n (q := 59) C 1 dX11_layField_58 rfl rfl rfl ?_
        refine jr_bipush (q := 61) (v := (49 : Int32)) C dX11_layField_59 (by decide) rfl ?_
        refine jr_icmp_ge (q := 64) (tgt := 105) C dX11_layField_61 (by decide) rfl (fun c17 => ?_) (fun c17 => ?_)
        · replace h := h.1 c17
          refine jr_sub [0] rfl ?_
          exact hE58_105 _ h
        · replace h := h.2 c17
          refine jr_aload_n (q := 65) C 0 dX11_layField_64 rfl rfl rfl ?_
          refine jr_getR (q := 68) (ci := 11) (Cn := RX11) (T := TX11) (N := 42) (j := 11) C mf_26 rfl rfl (by decide) rfl 36 0 rfl rfl rfl nX11_layField_11 mX11_layField_8 dX11_layField_65 rfl rfl ?_
          refine jr_iload_n (q := 69) C 1 dX11_layField_68 rfl rfl rfl ?_
          refine jr_iconst (q := 70) (v := (1 : Int32)) C dX11_layField_69 (by decide) rfl ?_
          obtain ⟨g9, h⟩ := h
          refine jr_iast (q := 71) C mf_36 rfl g9 dX11_layField_70 rfl ?_
          refine jn_mem (fun μ10 eμ10 => ?_)
          replace h := h μ10 eμ10
          refine jr_aload_n (q := 72) C 0 dX11_layField_71 rfl rfl rfl ?_
          refine jr_getR (q := 75) (ci := 11) (Cn := RX11) (T := TX11) (N := 42) (j := 12) C mf_26 rfl rfl (by decide) rfl 37 0 rfl rfl rfl nX11_layField_11 mX11_layField_9 dX11_layField_72 rfl rfl ?_
          refine jr_bipush (q := 77) (v := (6 : Int32)) C dX11_layField_75 (by decide) rfl ?_
          refine jr_iload_n (q := 78) C 1 dX11_layField_77 rfl rfl rfl ?_
          refine jr_imul (q := 79) C dX11_layField_78 rfl ?_
          refine jr_iconst (q := 80) (v := (0 : Int32)) C dX11_layField_79 (by decide) rfl ?_
          obtain ⟨g11, h⟩ := h
          refine jr_iast (q := 81) C mf_37 rfl g11 dX11_layField_80 rfl ?_
          refine jn_mem (fun μ12 eμ12 => ?_)
          replace h := h μ12 eμ12
          refine jr_aload_n (q := 82) C 0 dX11_layField_81 rfl rfl rfl ?_
          refine jr_getR (q := 85) (ci := 11) (Cn := RX11) (T := TX11) (N := 42) (j := 13) C mf_26 rfl rfl (by decide) rfl 38 0 rfl rfl rfl nX11_layField_11 mX11_layField_10 dX11_layField_82 rfl rfl ?_
          refine jr_bipush (q := 87) (v := (6 : Int32)) C dX11_layField_85 (by decide) rfl ?_
          refine jr_iload_n (q := 88) C 1 dX11_layField_87 rfl rfl rfl ?_
          refine jr_imul (q := 89) C dX11_layField_88 rfl ?_
          refine jr_bipush (q := 91) (v := (9 : Int32)) C dX11_layField_89 (by decide) rfl ?_
          obtain ⟨g13, h⟩ := h
          refine jr_iast (q := 92) C mf_38 rfl g13 dX11_layField_91 rfl ?_
          refine jn_mem (fun μ14 eμ14 => ?_)
          replace h := h μ14 eμ14
          refine jr_aload_n (q := 93) C 0 dX11_layField_92 rfl rfl rfl ?_
          refine jr_getR (q := 96) (ci := 11) (Cn := RX11) (T := TX11) (N := 42) (j := 14) C mf_26 rfl rfl (by decide) rfl 39 0 rfl rfl rfl nX11_layField_11 mX11_layField_11 dX11_layField_93 rfl rfl ?_
          refine jr_iload_n (q := 97) C 1 dX11_layField_96 rfl rfl rfl ?_
          refine jr_iconst (q := 98) (v := (0 : Int32)) C dX11_layField_97 (by decide) rfl ?_
          obtain ⟨g15, h⟩ := h
          refine jr_zast (q := 99) C mf_39 (by decide) rfl g15 dX11_layField_98 rfl ?_
          refine jn_mem (fun μ16 eμ16 => ?_)
          replace h := h μ16 eμ16
          refine jr_iinc (q := 102) (lv' := [(1, .int (a1 + (1 : Int32))), (0, .ref (z + mm_ad 26 0))]) C 1 dX11_layField_99 rfl (by rfl) (by decide) rfl rfl ?_
          refine jr_goto (tgt := 58) C dX11_layField_102 (by decide) ?_
          refine jr_sub [1, 0] rfl ?_
          exact hK58 _ _ h
      have x58_105 : ∀ (μ : mm_T), (lp_ (fun (K9 : mm_T × Int32 → Prop) (t9 : mm_T × Int32) => pX11_layField_l107 Po (fun μ => ∀ μ2 : mm_T, μ2 = mm_I μ 26 0 17 (0 : Int32) → (∀ μ3 : mm_T, μ3 = mm_I μ2 26 0 18 (4 : Int32) → (∀ μ4 : mm_T, μ4 = mm_I μ3 26 0 19 (400 : Int32) → (∀ μ5 : mm_T, μ5 = mm_I μ4 26 0 20 (0 : Int32) → (Po μ5))))) (fun μ a1 => K9 (μ, a1)) t9.1 t9.2) (μ, (0 : Int32))) → jJ p l e ({ frames := 1, cells := 0, slots := 0, locals := 22 }) s m args below meth c D cy z (MQ below (va_Qv Po (mm_Po D cy z) (mm_A z)) args s 0 0 (mm_A z)) 2 μ 105 [(0, .ref (z + mm_ad 26 0))] [] := by
        intro μ h
        refine jr_iconst (q := 106) (v := (0 : Int32)) C dX11_layField_105 (by decide) rfl ?_
        refine jr_istore_n (q := 107) (lv' := [(1, .int (0 : Int32)), (0, .ref (z + mm_ad 26 0))]) C dX11_layField_106 rfl (by decide) rfl rfl ?_
        have l107 : ∀ (E107_126 : mm_T → Prop) (hE107_126 : ∀ (μ : mm_T), E107_126 μ → jJ p l e ({ frames := 1, cells := 0, slots := 0, locals := 22 }) s m args below meth c D cy z (MQ below (va_Qv Po (mm_Po D cy z) (mm_A z)) args s 0 0 (mm_A z)) 2 μ 126 [(0, .ref (z + mm_ad 26 0))] []), ∀ t9 : mm_T × Int32, lp_ (fun (K9 : mm_T × Int32 → Prop) (t9 : mm_T × Int32) => pX11_layField_l107 Po E107_126 (fun μ a1 => K9 (μ, a1)) t9.1 t9.2) t9 → jJ p l e ({ frames := 1, cells := 0, slots := 0, locals := 22 }) s m args below meth c D cy z (MQ below (va_Qv Po (mm_Po D cy z) (mm_A z)) args s 0 0 (mm_A z)) 2 t9.1 107 [(0, .ref (z + mm_ad 26 0)), (1, .int t9.2)] [] := by
          intro E107_126 hE107_126 t9 h
          refine lp_go (P := fun t9 : mm_T × Int32 => jJ p l e ({ frames := 1, cells := 0, slots := 0, locals := 22 }) s m args below meth c D cy z (MQ below (va_Qv Po (mm_Po D cy z) (mm_A z)) args s 0 0 (mm_A z)) 2 t9.1 107 [(0, .ref (z + mm_ad 26 0)), (1, .int t9.2)] []) (fun K9 t9 hK h => ?_) t9 h
          obtain ⟨μ, a1⟩ := t9
          obtain ⟨K107, eK107⟩ : ∃ K : mm_T → Int32 → Prop, K = (fun μ a1 => K9 (μ, a1)) := ⟨_, rfl⟩
          have hK107 : ∀ (μ : mm_T) (a1 : Int32), K107 μ a1 → jJ p l e ({ frames := 1, cells := 0, slots := 0, locals := 22 }) s m args below meth c D cy z (MQ below (va_Qv Po (mm_Po D cy z) (mm_A z)) args s 0 0 (mm_A z)) 2 μ 107 [(0, .ref (z + mm_ad 26 0)), (1, .int a1)] [] := fun μ a1 h9 => hK (μ, a1) (by rw [eK107] at h9; exact h9)
          replace h : pX11_layField_l107 Po E107_126 K107 μ a1 := by rw [eK107]; exact h
          unfold pX11_layField_l107 at h
          refine jr_iload_n (q := 108) C 1 dX11_layField_107 rfl rfl rfl ?_
          refine jr_bipush (q := 110) (v := (16 : Int32)) C dX11_layField_108 (by decide) rfl ?_
          refine jr_icmp_ge (q := 113) (tgt := 126) C dX11_layField_110 (by decide) rfl (fun c8 => ?_) (fun c8 => ?_)
          · replace h := h.1 c8
            refine jr_sub [0] rfl ?_
            exact hE107_126 _ h
          · replace h := h.2 c8
            refine jr_aload_n (q := 114) C 0 dX11_layField_113 rfl rfl rfl ?_
            refine jr_getR (q := 117) (ci := 11) (Cn := RX11) (T := TX11) (N := 42) (j := 16) C mf_26 rfl rfl (by decide) rfl 41 0 rfl rfl rfl nX11_layField_11 mX11_layField_7 dX11_layField_114 rfl rfl ?_
            refine jr_iload_n (q := 118) C 1 dX11_layField_117 rfl rfl rfl ?_
            refine jr_iconst (q := 119) (v := (-1 : Int32)) C dX11_layField_118 (by decide) rfl ?_
            obtain ⟨g6, h⟩ := h
            refine jr_iast (q := 120) C mf_41 rfl g6 dX11_layField_119 rfl ?_
            refine jn_mem (fun μ7 eμ7 => ?_)
            replace h := h μ7 eμ7
            refine jr_iinc (q := 123) (lv' := [(1, .int (a1 + (1 : Int32))), (0, .ref (z + mm_ad 26 0))]) C 1 dX11_layField_120 rfl (by rfl) (by decide) rfl rfl ?_
            refine jr_goto (tgt := 107) C dX11_layField_123 (by decide) ?_
            refine jr_sub [1, 0] rfl ?_
            exact hK107 _ _ h
        have x107_126 : ∀ (μ : mm_T), (∀ μ2 : mm_T, μ2 = mm_I μ 26 0 17 (0 : Int32) → (∀ μ3 : mm_T, μ3 = mm_I μ2 26 0 18 (4 : Int32) → (∀ μ4 : mm_T, μ4 = mm_I μ3 26 0 19 (400 : Int32) → (∀ μ5 : mm_T, μ5 = mm_I μ4 26 0 20 (0 : Int32) → (Po μ5))))) → jJ p l e ({ frames := 1, cells := 0, slots := 0, locals := 22 }) s m args below meth c D cy z (MQ below (va_Qv Po (mm_Po D cy z) (mm_A z)) args s 0 0 (mm_A z)) 2 μ 126 [(0, .ref (z + mm_ad 26 0))] [] := by
          intro μ h
          refine jr_aload_n (q := 127) C 0 dX11_layField_126 rfl rfl rfl ?_
          refine jr_iconst (q := 128) (v := (0 : Int32)) C dX11_layField_127 (by decide) rfl ?_
          refine jr_putI (q := 131) (ci := 11) (Cn := RX11) (T := TX11) (N := 42) (j := 17) C mf_26 rfl rfl (by decide) rfl rfl tyX11 tyX11_ok nmX11 rfl (by decide +kernel) nX11_layField_11 mX11_layField_3 dX11_layField_128 rfl rfl ?_
          refine jn_mem (fun μ2 eμ2 => ?_)
          replace h := h μ2 eμ2
          refine jr_aload_n (q := 132) C 0 dX11_layField_131 rfl rfl rfl ?_
          refine jr_iconst (q := 133) (v := (4 : Int32)) C dX11_layField_132 (by decide) rfl ?_
          refine jr_putI (q := 136) (ci := 11) (Cn := RX11) (T := TX11) (N := 42) (j := 18) C mf_26 rfl rfl (by decide) rfl rfl tyX11 tyX11_ok nmX11 rfl (by decide +kernel) nX11_layField_11 mX11_layField_4 dX11_layField_133 rfl rfl ?_
          refine jn_mem (fun μ3 eμ3 => ?_)
          replace h := h μ3 eμ3
          refine jr_aload_n (q := 137) C 0 dX11_layField_136 rfl rfl rfl ?_
          refine jr_sipush (q := 140) (v := (400 : Int32)) C dX11_layField_137 (by decide) rfl ?_
          refine jr_putI (q := 143) (ci := 11) (Cn := RX11) (T := TX11) (N := 42) (j := 19) C mf_26 rfl rfl (by decide) rfl rfl tyX11 tyX11_ok nmX11 rfl (by decide +kernel) nX11_layField_11 mX11_layField_5 dX11_layField_140 rfl rfl ?_
          refine jn_mem (fun μ4 eμ4 => ?_)
          replace h := h μ4 eμ4
          refine jr_aload_n (q := 144) C 0 dX11_layField_143 rfl rfl rfl ?_
          refine jr_iconst (q := 145) (v := (0 : Int32)) C dX11_layField_144 (by decide) rfl ?_
          refine jr_putZ (q := 148) (ci := 11) (Cn := RX11) (T := TX11) (N := 42) (j := 20) C mf_26 rfl rfl (by decide) rfl (by decide) rfl tyX11 tyX11_ok nmX11 rfl (by decide +kernel) nX11_layField_11 mX11_layField_6 dX11_layField_145 rfl rfl ?_
          refine jn_mem (fun μ5 eμ5 => ?_)
          replace h := h μ5 eμ5
          exact jr_vret C hr hk dX11_layField_148 h
        refine jr_sub [1, 0] rfl ?_
        exact l107 _ x107_126 _ h
      refine jr_sub [1, 0] rfl ?_
      exact l58 _ x58_105 _ h
    refine jr_sub [1, 0] rfl ?_
    exact l31 _ x31_56 _ h
  refine jr_sub [1, 0] rfl ?_
  exact l10 _ x10_29 _ h
theorem nX11_field_11 : ∀ w ∈ wsX110, w ∈ wsX11_field := fun _ h => List.mem_cons_of_mem _ (List.mem_append_right _ h)
theorem mX11_field_1 : Cond.fieldLink RX11 82 RX11 (TX11 0).2.1 (TX11 0).2.2.1 ∈ wsX11_field := List.mem_of_getElem? (i := 1) (by decide +kernel)
theorem mX11_field_2 : Cond.fieldLink RX11 156 RX11 (TX11 29).2.1 (TX11 29).2.2.1 ∈ wsX11_field := List.mem_of_getElem? (i := 7) (by decide +kernel)
theorem mX11_field_3 : Cond.fieldLink RX11 129 RX11 (TX11 2).2.1 (TX11 2).2.2.1 ∈ wsX11_field := List.mem_of_getElem? (i := 8) (by decide +kernel)
theorem mX11_field_4 : Cond.constant RX11 152 (-1000003) ∈ wsX11_field := List.mem_of_getElem? (i := 6) (by decide +kernel)
theorem mX11_field_5 : Cond.fieldLink RX11 93 RX11 (TX11 31).2.1 (TX11 31).2.2.1 ∈ wsX11_field := List.mem_of_getElem? (i := 2) (by decide +kernel)
theorem mX11_field_6 : Cond.fieldLink RX11 96 RX11 (TX11 32).2.1 (TX11 32).2.2.1 ∈ wsX11_field := List.mem_of_getElem? (i := 3) (by decide +kernel)
theorem mX11_field_7 : Cond.fieldLink RX11 87 RX11 (TX11 34).2.1 (TX11 34).2.2.1 ∈ wsX11_field := List.mem_of_getElem? (i := 4) (by decide +kernel)
theorem mX11_field_8 : Cond.fieldLink RX11 90 RX11 (TX11 33).2.1 (TX11 33).2.2.1 ∈ wsX11_field := List.mem_of_getElem? (i := 5) (by decide +kernel)
theorem dsc_X11_field : yX11_field.cls ≠ "java/lang/invoke/MethodHandle" ∧ yX11_field.cls ≠ "java/lang/invoke/VarHandle" ∧ (parseMethodDescriptor yX11_field.desc).map (fun d => d.parameters.length) = some 0 := by decide +kernel
def pX11_field_b50 (Po : Int32 → mm_T → Prop) (μ : mm_T) (as0 : Int32) : Prop := (¬ as0 = 0 → pX11_keepNumber (fun μ3 => pX11_layField (fun μ4 => ∀ μ5 : mm_T, μ5 = mm_I μ4 26 0 29 ((μ4.1 26 0 29) + (1 : Int32)) → (∀ μ6 : mm_T, μ6 = mm_I μ5 26 0 0 (0 : Int32) → (Po (μ6.1 26 0 2) μ6))) μ3 ) μ ) ∧ (as0 = 0 → Po (-1000003 : Int32) μ)
def pX11_field_b49 (Po : Int32 → mm_T → Prop) (μ : mm_T) : Prop := pX11_field_b50 Po μ (0 : Int32)
def pX11_field (Po : Int32 → mm_T → Prop) (μ : mm_T) : Prop := pX11_read (fun r2 μ1 => (¬ r2 = (μ1.1 26 0 0) → pX11_field_b49 Po μ1) ∧ (r2 = (μ1.1 26 0 0) → (¬ (μ1.1 26 0 31) = (4 : Int32) → pX11_field_b49 Po μ1) ∧ ((μ1.1 26 0 31) = (4 : Int32) → ((μ1.1 26 0 32) = (-1 : Int32) → pX11_field_b49 Po μ1) ∧ (¬ ((μ1.1 26 0 32) = (-1 : Int32)) → ((μ1.1 26 0 34) ≤ 0 → pX11_field_b49 Po μ1) ∧ (¬ ((μ1.1 26 0 34) ≤ 0) → ((μ1.1 26 0 33) ≤ (μ1.1 26 0 34) → pX11_field_b49 Po μ1) ∧ (¬ ((μ1.1 26 0 33) ≤ (μ1.1 26 0 34)) → pX11_field_b50 Po μ1 (1 : Int32))))))) μ 
set_option maxHeartbeats 4000000 in
set_option maxRecDepth 100000 in
theorem kX11_field (l : Launch) : mm_CI l yX11_field wsX11_field ({ frames := 4, cells := 0, slots := 0, locals := 85 }) (fun z => [.ref (z + mm_ad 26 0)]) (fun μ Po => pX11_field Po μ) := by
  refine je_I (cc := cX11_field) (nL := 2) (own := RX11) (plainFor_of_name (by decide)) rfl rfl (fun _ => Nat.le_of_ble_eq_true rfl) ?_
  intro p e s m args below meth c D cy z μ Po C hr hk h
  change jJ p l e ({ frames := 4, cells := 0, slots := 0, locals := 85 }) s m args below meth c D cy z (MQ below (va_Qi Po (mm_Po D cy z) (mm_A z)) args s 0 0 (mm_A z)) 2 μ 0 [(0, .ref (z + mm_ad 26 0))] []
  replace h : pX11_field Po μ := h
  unfold pX11_field at h
  refine jr_aload_n (q := 1) C 0 dX11_field_0 rfl rfl rfl ?_
  refine jr_cvI (q := 4) (As := []) (rest := []) C (f := 26) (i := 0) (ci := 11) mf_26 rfl rfl rfl (kX11_read l) rfl gX11_field_X11_read rfl dsc_X11_read ⟨rfl, rfl⟩ ⟨by decide, by decide⟩ rfl rfl (Nat.le_of_ble_eq_true rfl) dX11_field_1 rfl h (fun r2 μ1 h => ?_)
  refine jr_aload_n (q := 5) C 0 dX11_field_4 rfl rfl rfl ?_
  refine jr_getI (q := 8) (ci := 11) (Cn := RX11) (T := TX11) (N := 42) (j := 0) C mf_26 rfl rfl (by decide) rfl rfl nX11_field_11 mX11_field_1 dX11_field_5 rfl rfl ?_
  have b50 : ∀ (μ : mm_T) (as0 : Int32), pX11_field_b50 Po μ as0 → jJ p l e ({ frames := 4, cells := 0, slots := 0, locals := 85 }) s m args below meth c D cy z (MQ below (va_Qi Po (mm_Po D cy z) (mm_A z)) args s 0 0 (mm_A z)) 2 μ 50 [(0, .ref (z + mm_ad 26 0))] [.int as0] := by
    intro μ as0 h
    unfold pX11_field_b50 at h
    refine jr_istore_n (q := 51) (lv' := [(1, .int as0), (0, .ref (z + mm_ad 26 0))]) C dX11_field_50 rfl (by decide) rfl rfl ?_
    refine jr_iload_n (q := 52) C 0 dX11_field_51 rfl rfl rfl ?_
    refine jr_if_ne (q := 55) (tgt := 58) C dX11_field_52 (by decide) rfl (fun c7 => ?_) (fun c7 => ?_)
    · replace h := h.1 c7
      refine jr_aload_n (q := 59) C 1 dX11_field_58 rfl rfl rfl ?_
      refine jr_cvV (q := 62) (As := []) (rest := []) C (f := 26) (i := 0) (ci := 11) mf_26 rfl rfl rfl (kX11_keepNumber l) rfl gX11_field_X11_keepNumber rfl dsc_X11_keepNumber ⟨rfl, rfl⟩ ⟨by decide, by decide⟩ rfl rfl (Nat.le_of_ble_eq_true rfl) dX11_field_59 rfl h (fun μ3 h => ?_)
      refine jr_aload_n (q := 63) C 1 dX11_field_62 rfl rfl rfl ?_
      refine jr_cvV (q := 66) (As := []) (rest := []) C (f := 26) (i := 0) (ci := 11) mf_26 rfl rfl rfl (kX11_layField l) rfl gX11_field_X11_layField rfl dsc_X11_layField ⟨rfl, rfl⟩ ⟨by decide, by decide⟩ rfl rfl (Nat.le_of_ble_eq_true rfl) dX11_field_63 rfl h (fun μ4 h => ?_)
      refine jr_aload_n (q := 67) C 1 dX11_field_66 rfl rfl rfl ?_
      refine jr_dup (q := 68) C dX11_field_67 rfl rfl ?_
      refine jr_getI (q := 71) (ci := 11) (Cn := RX11) (T := TX11) (N := 42) (j := 29) C mf_26 rfl rfl (by decide) rfl rfl nX11_field_11 mX11_field_2 dX11_field_68 rfl rfl ?_
      refine jr_iconst (q := 72) (v := (1 : Int32)) C dX11_field_71 (by decide) rfl ?_
      refine jr_iadd (q := 73) C dX11_field_72 rfl ?_
      refine jr_putI (q := 76) (ci := 11) (Cn := RX11) (T := TX11) (N := 42) (j := 29) C mf_26 rfl rfl (by decide) rfl rfl tyX11 tyX11_ok nmX11 rfl (by decide +kernel) nX11_field_11 mX11_field_2 dX11_field_73 rfl rfl ?_
      refine jn_mem (fun μ5 eμ5 => ?_)
      replace h := h μ5 eμ5
      refine jr_aload_n (q := 77) C 1 dX11_field_76 rfl rfl rfl ?_
      refine jr_iconst (q := 78) (v := (0 : Int32)) C dX11_field_77 (by decide) rfl ?_
      refine jr_putI (q := 81) (ci := 11) (Cn := RX11) (T := TX11) (N := 42) (j := 0) C mf_26 rfl rfl (by decide) rfl rfl tyX11 tyX11_ok nmX11 rfl (by decide +kernel) nX11_field_11 mX11_field_1 dX11_field_78 rfl rfl ?_
      refine jn_mem (fun μ6 eμ6 => ?_)
      replace h := h μ6 eμ6
      refine jr_aload_n (q := 82) C 1 dX11_field_81 rfl rfl rfl ?_
      refine jr_getI (q := 85) (ci := 11) (Cn := RX11) (T := TX11) (N := 42) (j := 2) C mf_26 rfl rfl (by decide) rfl rfl nX11_field_11 mX11_field_3 dX11_field_82 rfl rfl ?_
      exact jr_iret C hr hk dX11_field_85 h
    · replace h := h.2 c7
      refine jr_ldc (q := 57) (v := (-1000003 : Int32)) C dX11_field_55 mX11_field_4 rfl ?_
      exact jr_iret C hr hk dX11_field_57 h
  have b49 : ∀ (μ : mm_T), pX11_field_b49 Po μ → jJ p l e ({ frames := 4, cells := 0, slots := 0, locals := 85 }) s m args below meth c D cy z (MQ below (va_Qi Po (mm_Po D cy z) (mm_A z)) args s 0 0 (mm_A z)) 2 μ 49 [(0, .ref (z + mm_ad 26 0))] [] := by
    intro μ h
    unfold pX11_field_b49 at h
    refine jr_iconst (q := 50) (v := (0 : Int32)) C dX11_field_49 (by decide) rfl ?_
    refine jr_sub [0] rfl ?_
    exact b50 _ _ h
  refine jr_icmp_ne (q := 11) (tgt := 49) C dX11_field_8 (by decide) rfl (fun c12 => ?_) (fun c12 => ?_)
  · replace h := h.1 c12
    refine jr_sub [0] rfl ?_
    exact b49 _ h
  · replace h := h.2 c12
    refine jr_aload_n (q := 12) C 0 dX11_field_11 rfl rfl rfl ?_
    refine jr_getI (q := 15) (ci := 11) (Cn := RX11) (T := TX11) (N := 42) (j := 31) C mf_26 rfl rfl (by decide) rfl rfl nX11_field_11 mX11_field_5 dX11_field_12 rfl rfl ?_
    refine jr_iconst (q := 16) (v := (4 : Int32)) C dX11_field_15 (by decide) rfl ?_
    refine jr_icmp_ne (q := 19) (tgt := 49) C dX11_field_16 (by decide) rfl (fun c11 => ?_) (fun c11 => ?_)
    · replace h := h.1 c11
      refine jr_sub [0] rfl ?_
      exact b49 _ h
    · replace h := h.2 c11
      refine jr_aload_n (q := 20) C 0 dX11_field_19 rfl rfl rfl ?_
      refine jr_getI (q := 23) (ci := 11) (Cn := RX11) (T := TX11) (N := 42) (j := 32) C mf_26 rfl rfl (by decide) rfl rfl nX11_field_11 mX11_field_6 dX11_field_20 rfl rfl ?_
      refine jr_iconst (q := 24) (v := (-1 : Int32)) C dX11_field_23 (by decide) rfl ?_
      refine jr_icmp_eq (q := 27) (tgt := 49) C dX11_field_24 (by decide) rfl (fun c10 => ?_) (fun c10 => ?_)
      · replace h := h.1 c10
        refine jr_sub [0] rfl ?_
        exact b49 _ h
      · replace h := h.2 c10
        refine jr_aload_n (q := 28) C 0 dX11_field_27 rfl rfl rfl ?_
        refine jr_getI (q := 31) (ci := 11) (Cn := RX11) (T := TX11) (N := 42) (j := 34) C mf_26 rfl rfl (by decide) rfl rfl nX11_field_11 mX11_field_7 dX11_field_28 rfl rfl ?_
        refine jr_if_le (q := 34) (tgt := 49) C dX11_field_31 (by decide) rfl (fun c9 => ?_) (fun c9 => ?_)
        · replace h := h.1 c9
          refine jr_sub [0] rfl ?_
          exact b49 _ h
        · replace h := h.2 c9
          refine jr_aload_n (q := 35) C 0 dX11_field_34 rfl rfl rfl ?_
          refine jr_getI (q := 38) (ci := 11) (Cn := RX11) (T := TX11) (N := 42) (j := 34) C mf_26 rfl rfl (by decide) rfl rfl nX11_field_11 mX11_field_7 dX11_field_35 rfl rfl ?_
          refine jr_aload_n (q := 39) C 0 dX11_field_38 rfl rfl rfl ?_
          refine jr_getI (q := 42) (ci := 11) (Cn := RX11) (T := TX11) (N := 42) (j := 33) C mf_26 rfl rfl (by decide) rfl rfl nX11_field_11 mX11_field_8 dX11_field_39 rfl rfl ?_
          refine jr_icmp_ge (q := 45) (tgt := 49) C dX11_field_42 (by decide) rfl (fun c8 => ?_) (fun c8 => ?_)
          · replace h := h.1 c8
            refine jr_sub [0] rfl ?_
            exact b49 _ h
          · replace h := h.2 c8
            refine jr_iconst (q := 46) (v := (1 : Int32)) C dX11_field_45 (by decide) rfl ?_
            refine jr_goto (tgt := 50) C dX11_field_46 (by decide) ?_
            refine jr_sub [0] rfl ?_
            exact b50 _ _ h
theorem nX11_isField_11 : ∀ w ∈ wsX110, w ∈ wsX11_isField := fun _ h => List.mem_cons_of_mem _ (List.mem_append_right _ h)
theorem mX11_isField_1 : Cond.fieldLink RX11 129 RX11 (TX11 2).2.1 (TX11 2).2.2.1 ∈ wsX11_isField := List.mem_of_getElem? (i := 1) (by decide +kernel)
theorem dsc_X11_isField : yX11_isField.cls ≠ "java/lang/invoke/MethodHandle" ∧ yX11_isField.cls ≠ "java/lang/invoke/VarHandle" ∧ (parseMethodDescriptor yX11_isField.desc).map (fun d => d.parameters.length) = some 0 := by decide +kernel
def pX11_isField (Po : Int32 → mm_T → Prop) (μ : mm_T) : Prop := ((μ.1 26 0 2) ≤ 0 → Po (0 : Int32) μ) ∧ (¬ ((μ.1 26 0 2) ≤ 0) → Po (1 : Int32) μ)
set_option maxHeartbeats 4000000 in
set_option maxRecDepth 100000 in
theorem kX11_isField (l : Launch) : mm_CI l yX11_isField wsX11_isField ({ frames := 0, cells := 0, slots := 0, locals := 0 }) (fun z => [.ref (z + mm_ad 26 0)]) (fun μ Po => pX11_isField Po μ) := by
  refine je_Z (cc := cX11_isField) (nL := 1) (own := RX11) (plainFor_of_name (by decide)) rfl rfl (fun _ => Nat.le_of_ble_eq_true rfl) ?_
  intro p e s m args below meth c D cy z μ Po C hr hk h
  change jJ p l e ({ frames := 0, cells := 0, slots := 0, locals := 0 }) s m args below meth c D cy z (MQ below (va_Qi Po (mm_Po D cy z) (mm_A z)) args s 0 0 (mm_A z)) 1 μ 0 [(0, .ref (z + mm_ad 26 0))] []
  replace h : pX11_isField Po μ := h
  unfold pX11_isField at h
  refine jr_aload_n (q := 1) C 0 dX11_isField_0 rfl rfl rfl ?_
  refine jr_getI (q := 4) (ci := 11) (Cn := RX11) (T := TX11) (N := 42) (j := 2) C mf_26 rfl rfl (by decide) rfl rfl nX11_isField_11 mX11_isField_1 dX11_isField_1 rfl rfl ?_
  refine jr_if_le (q := 7) (tgt := 11) C dX11_isField_4 (by decide) rfl (fun c1 => ?_) (fun c1 => ?_)
  · replace h := h.1 c1
    refine jr_iconst (q := 12) (v := (0 : Int32)) C dX11_isField_11 (by decide) rfl ?_
    exact jr_zret C hr hk dX11_isField_12 (by decide) h
  · replace h := h.2 c1
    refine jr_iconst (q := 8) (v := (1 : Int32)) C dX11_isField_7 (by decide) rfl ?_
    refine jr_goto (tgt := 12) C dX11_isField_8 (by decide) ?_
    exact jr_zret C hr hk dX11_isField_12 (by decide) h
theorem nX11_isNode_11 : ∀ w ∈ wsX110, w ∈ wsX11_isNode := fun _ h => List.mem_cons_of_mem _ (List.mem_append_right _ h)
theorem mX11_isNode_1 : Cond.fieldLink RX11 129 RX11 (TX11 2).2.1 (TX11 2).2.2.1 ∈ wsX11_isNode := List.mem_of_getElem? (i := 1) (by decide +kernel)
theorem dsc_X11_isNode : yX11_isNode.cls ≠ "java/lang/invoke/MethodHandle" ∧ yX11_isNode.cls ≠ "java/lang/invoke/VarHandle" ∧ (parseMethodDescriptor yX11_isNode.desc).map (fun d => d.parameters.length) = some 1 := by decide +kernel
def pX11_isNode (Po : Int32 → mm_T → Prop) (μ : mm_T) (p1 : Int32) : Prop := pX11_within (fun r2 μ1 => (r2 = 0 ∨ r2 = 1) ∧ Po r2 μ1) μ p1 (0 : Int32) ((μ.1 26 0 2) - (1 : Int32))
set_option maxHeartbeats 4000000 in
set_option maxRecDepth 100000 in
theorem kX11_isNode (l : Launch) (p1 : Int32) : mm_CI l yX11_isNode wsX11_isNode ({ frames := 1, cells := 0, slots := 0, locals := 22 }) (fun z => [.ref (z + mm_ad 26 0), .int p1]) (fun μ Po => pX11_isNode Po μ p1) := by
  refine je_Z (cc := cX11_isNode) (nL := 2) (own := RX11) (plainFor_of_name (by decide)) rfl rfl (fun _ => Nat.le_of_ble_eq_true rfl) ?_
  intro p e s m args below meth c D cy z μ Po C hr hk h
  change jJ p l e ({ frames := 1, cells := 0, slots := 0, locals := 22 }) s m args below meth c D cy z (MQ below (va_Qi Po (mm_Po D cy z) (mm_A z)) args s 0 0 (mm_A z)) 2 μ 0 [(0, .ref (z + mm_ad 26 0)), (1, .int p1)] []
  replace h : pX11_isNode Po μ p1 := h
  unfold pX11_isNode at h
  refine jr_iload_n (q := 1) C 1 dX11_isNode_0 rfl rfl rfl ?_
  refine jr_iconst (q := 2) (v := (0 : Int32)) C dX11_isNode_1 (by decide) rfl ?_
  refine jr_aload_n (q := 3) C 0 dX11_isNode_2 rfl rfl rfl ?_
  refine jr_getI (q := 6) (ci := 11) (Cn := RX11) (T := TX11) (N := 42) (j := 2) C mf_26 rfl rfl (by decide) rfl rfl nX11_isNode_11 mX11_isNode_1 dX11_isNode_3 rfl rfl ?_
  refine jr_iconst (q := 7) (v := (1 : Int32)) C dX11_isNode_6 (by decide) rfl ?_
  refine jr_isub (q := 8) C dX11_isNode_7 rfl ?_
  refine jr_csI (q := 11) (As := [.int p1, .int (0 : Int32), .int ((μ.1 26 0 2) - (1 : Int32))]) (rest := []) C  (kX11_within l p1 (0 : Int32) ((μ.1 26 0 2) - (1 : Int32))) rfl gX11_isNode_X11_within rfl dsc_X11_within ⟨rfl, rfl⟩ ⟨by decide, by decide⟩ rfl rfl (Nat.le_of_ble_eq_true rfl) dX11_isNode_8 rfl h (fun r2 μ1 h => ?_)
  exact jr_zret C hr hk dX11_isNode_11 h.1 h.2
theorem nX11_isPair_11 : ∀ w ∈ wsX110, w ∈ wsX11_isPair := fun _ h => List.mem_cons_of_mem _ (List.mem_append_right _ h)
theorem mX11_isPair_1 : Cond.fieldLink RX11 13 RX11 (TX11 3).2.1 (TX11 3).2.2.1 ∈ wsX11_isPair := List.mem_of_getElem? (i := 1) (by decide +kernel)
theorem dsc_X11_isPair : yX11_isPair.cls ≠ "java/lang/invoke/MethodHandle" ∧ yX11_isPair.cls ≠ "java/lang/invoke/VarHandle" ∧ (parseMethodDescriptor yX11_isPair.desc).map (fun d => d.parameters.length) = some 2 := by decide +kernel
def pX11_isPair (Po : Int32 → mm_T → Prop) (μ : mm_T) (p1 : Int32) (p2 : Int32) : Prop := pX11_isNode (fun r2 μ1 => (r2 = 0 → Po (0 : Int32) μ1) ∧ (¬ (r2 = 0) → pX11_isNode (fun r4 μ3 => (r4 = 0 → Po (0 : Int32) μ3) ∧ (¬ (r4 = 0) → (vp_in p1 7) ∧ (((μ3.1 28 0 p1.toNatClampNeg) = 0 → Po (0 : Int32) μ3) ∧ (¬ ((μ3.1 28 0 p1.toNatClampNeg) = 0) → (vp_in p2 7) ∧ ((¬ (μ3.1 28 0 p2.toNatClampNeg) = 0 → Po (0 : Int32) μ3) ∧ ((μ3.1 28 0 p2.toNatClampNeg) = 0 → Po (1 : Int32) μ3)))))) μ1 p2)) μ p1
set_option maxHeartbeats 4000000 in
set_option maxRecDepth 100000 in
theorem kX11_isPair (l : Launch) (p1 : Int32) (p2 : Int32) : mm_CI l yX11_isPair wsX11_isPair ({ frames := 2, cells := 0, slots := 0, locals := 43 }) (fun z => [.ref (z + mm_ad 26 0), .int p1, .int p2]) (fun μ Po => pX11_isPair Po μ p1 p2) := by
  refine je_Z (cc := cX11_isPair) (nL := 3) (own := RX11) (plainFor_of_name (by decide)) rfl rfl (fun _ => Nat.le_of_ble_eq_true rfl) ?_
  intro p e s m args below meth c D cy z μ Po C hr hk h
  change jJ p l e ({ frames := 2, cells := 0, slots := 0, locals := 43 }) s m args below meth c D cy z (MQ below (va_Qi Po (mm_Po D cy z) (mm_A z)) args s 0 0 (mm_A z)) 3 μ 0 [(0, .ref (z + mm_ad 26 0)), (1, .int p1), (2, .int p2)] []
  replace h : pX11_isPair Po μ p1 p2 := h
  unfold pX11_isPair at h
  refine jr_aload_n (q := 1) C 0 dX11_isPair_0 rfl rfl rfl ?_
  refine jr_iload_n (q := 2) C 1 dX11_isPair_1 rfl rfl rfl ?_
  refine jr_cvI (q := 5) (As := [.int p1]) (rest := []) C (f := 26) (i := 0) (ci := 11) mf_26 rfl rfl rfl (kX11_isNode l p1) rfl gX11_isPair_X11_isNode rfl dsc_X11_isNode ⟨rfl, rfl⟩ ⟨by decide, by decide⟩ rfl rfl (Nat.le_of_ble_eq_true rfl) dX11_isPair_2 rfl h (fun r2 μ1 h => ?_)
  refine jr_if_eq (q := 8) (tgt := 38) C dX11_isPair_5 (by decide) rfl (fun c10 => ?_) (fun c10 => ?_)
  · replace h := h.1 c10
    refine jr_iconst (q := 39) (v := (0 : Int32)) C dX11_isPair_38 (by decide) rfl ?_
    exact jr_zret C hr hk dX11_isPair_39 (by decide) h
  · replace h := h.2 c10
    refine jr_aload_n (q := 9) C 0 dX11_isPair_8 rfl rfl rfl ?_
    refine jr_iload_n (q := 10) C 2 dX11_isPair_9 rfl rfl rfl ?_
    refine jr_cvI (q := 13) (As := [.int p2]) (rest := []) C (f := 26) (i := 0) (ci := 11) mf_26 rfl rfl rfl (kX11_isNode l p2) rfl gX11_isPair_X11_isNode rfl dsc_X11_isNode ⟨rfl, rfl⟩ ⟨by decide, by decide⟩ rfl rfl (Nat.le_of_ble_eq_true rfl) dX11_isPair_10 rfl h (fun r4 μ3 h => ?_)
    refine jr_if_eq (q := 16) (tgt := 38) C dX11_isPair_13 (by decide) rfl (fun c9 => ?_) (fun c9 => ?_)
    · replace h := h.1 c9
      refine jr_iconst (q := 39) (v := (0 : Int32)) C dX11_isPair_38 (by decide) rfl ?_
      exact jr_zret C hr hk dX11_isPair_39 (by decide) h
    · replace h := h.2 c9
      refine jr_aload_n (q := 17) C 0 dX11_isPair_16 rfl rfl rfl ?_
      refine jr_getR (q := 20) (ci := 11) (Cn := RX11) (T := TX11) (N := 42) (j := 3) C mf_26 rfl rfl (by decide) rfl 28 0 rfl rfl rfl nX11_isPair_11 mX11_isPair_1 dX11_isPair_17 rfl rfl ?_
      refine jr_iload_n (q := 21) C 1 dX11_isPair_20 rfl rfl rfl ?_
      obtain ⟨g5, h⟩ := h
      refine jr_zald (q := 22) C mf_28 rfl g5 dX11_isPair_21 rfl ?_
      refine jr_if_eq (q := 25) (tgt := 38) C dX11_isPair_22 (by decide) rfl (fun c8 => ?_) (fun c8 => ?_)
      · replace h := h.1 c8
        refine jr_iconst (q := 39) (v := (0 : Int32)) C dX11_isPair_38 (by decide) rfl ?_
        exact jr_zret C hr hk dX11_isPair_39 (by decide) h
      · replace h := h.2 c8
        refine jr_aload_n (q := 26) C 0 dX11_isPair_25 rfl rfl rfl ?_
        refine jr_getR (q := 29) (ci := 11) (Cn := RX11) (T := TX11) (N := 42) (j := 3) C mf_26 rfl rfl (by decide) rfl 28 0 rfl rfl rfl nX11_isPair_11 mX11_isPair_1 dX11_isPair_26 rfl rfl ?_
        refine jr_iload_n (q := 30) C 2 dX11_isPair_29 rfl rfl rfl ?_
        obtain ⟨g6, h⟩ := h
        refine jr_zald (q := 31) C mf_28 rfl g6 dX11_isPair_30 rfl ?_
        refine jr_if_ne (q := 34) (tgt := 38) C dX11_isPair_31 (by decide) rfl (fun c7 => ?_) (fun c7 => ?_)
        · replace h := h.1 c7
          refine jr_iconst (q := 39) (v := (0 : Int32)) C dX11_isPair_38 (by decide) rfl ?_
          exact jr_zret C hr hk dX11_isPair_39 (by decide) h
        · replace h := h.2 c7
          refine jr_iconst (q := 35) (v := (1 : Int32)) C dX11_isPair_34 (by decide) rfl ?_
          refine jr_goto (tgt := 39) C dX11_isPair_35 (by decide) ?_
          exact jr_zret C hr hk dX11_isPair_39 (by decide) h
theorem dsc_X11_rootOf : yX11_rootOf.cls ≠ "java/lang/invoke/MethodHandle" ∧ yX11_rootOf.cls ≠ "java/lang/invoke/VarHandle" ∧ (parseMethodDescriptor yX11_rootOf.desc).map (fun d => d.parameters.length) = some 1 := by decide +kernel
def pX11_rootOf_l2 (Po : Int32 → mm_T → Prop) (E2_19 : mm_T → Int32 → Prop) (K2 : mm_T → Int32 → Int32 → Prop) (μ : mm_T) (a0 : Int32) (a1 : Int32) : Prop := (a0 < ((a1 + (1 : Int32)) * (a1 + (1 : Int32))) → E2_19 μ a1) ∧ (¬ (a0 < ((a1 + (1 : Int32)) * (a1 + (1 : Int32)))) → K2 μ a0 (a1 + (1 : Int32)))
def pX11_rootOf (Po : Int32 → mm_T → Prop) (μ : mm_T) (p1 : Int32) : Prop := lp_ (fun (K9 : mm_T × Int32 × Int32 → Prop) (t9 : mm_T × Int32 × Int32) => pX11_rootOf_l2 Po (fun μ c1 => Po c1 μ) (fun μ a0 a1 => K9 (μ, a0, a1)) t9.1 t9.2.1 t9.2.2) (μ, p1, (0 : Int32))
set_option maxHeartbeats 4000000 in
set_option maxRecDepth 100000 in
theorem kX11_rootOf (l : Launch) (p1 : Int32) : mm_CI l yX11_rootOf wsX11_rootOf ({ frames := 0, cells := 0, slots := 0, locals := 0 }) (fun z => [.int p1]) (fun μ Po => pX11_rootOf Po μ p1) := by
  refine je_I (cc := cX11_rootOf) (nL := 2) (own := RX11) (plainFor_of_name (by decide)) rfl rfl (fun _ => Nat.le_of_ble_eq_true rfl) ?_
  intro p e s m args below meth c D cy z μ Po C hr hk h
  change jJ p l e ({ frames := 0, cells := 0, slots := 0, locals := 0 }) s m args below meth c D cy z (MQ below (va_Qi Po (mm_Po D cy z) (mm_A z)) args s 0 0 (mm_A z)) 2 μ 0 [(0, .int p1)] []
  replace h : pX11_rootOf Po μ p1 := h
  unfold pX11_rootOf at h
  refine jr_iconst (q := 1) (v := (0 : Int32)) C dX11_rootOf_0 (by decide) rfl ?_
  refine jr_istore_n (q := 2) (lv' := [(1, .int (0 : Int32)), (0, .int p1)]) C dX11_rootOf_1 rfl (by decide) rfl rfl ?_
  have l2 : ∀ (E2_19 : mm_T → Int32 → Prop) (hE2_19 : ∀ (μ : mm_T) (c1 : Int32), E2_19 μ c1 → jJ p l e ({ frames := 0, cells := 0, slots := 0, locals := 0 }) s m args below meth c D cy z (MQ below (va_Qi Po (mm_Po D cy z) (mm_A z)) args s 0 0 (mm_A z)) 2 μ 19 [(1, .int c1)] []), ∀ t9 : mm_T × Int32 × Int32, lp_ (fun (K9 : mm_T × Int32 × Int32 → Prop) (t9 : mm_T × Int32 × Int32) => pX11_rootOf_l2 Po E2_19 (fun μ a0 a1 => K9 (μ, a0, a1)) t9.1 t9.2.1 t9.2.2) t9 → jJ p l e ({ frames := 0, cells := 0, slots := 0, locals := 0 }) s m args below meth c D cy z (MQ below (va_Qi Po (mm_Po D cy z) (mm_A z)) args s 0 0 (mm_A z)) 2 t9.1 2 [(0, .int t9.2.1), (1, .int t9.2.2)] [] := by
    intro E2_19 hE2_19 t9 h
    refine lp_go (P := fun t9 : mm_T × Int32 × Int32 => jJ p l e ({ frames := 0, cells := 0, slots := 0, locals := 0 }) s m args below meth c D cy z (MQ below (va_Qi Po (mm_Po D cy z) (mm_A z)) args s 0 0 (mm_A z)) 2 t9.1 2 [(0, .int t9.2.1), (1, .int t9.2.2)] []) (fun K9 t9 hK h => ?_) t9 h
    obtain ⟨μ, a0, a1⟩ := t9
    obtain ⟨K2, eK2⟩ : ∃ K : mm_T → Int32 → Int32 → Prop, K = (fun μ a0 a1 => K9 (μ, a0, a1)) := ⟨_, rfl⟩
    have hK2 : ∀ (μ : mm_T) (a0 : Int32) (a1 : Int32), K2 μ a0 a1 → jJ p l e ({ frames := 0, cells := 0, slots := 0, locals := 0 }) s m args below meth c D cy z (MQ below (va_Qi Po (mm_Po D cy z) (mm_A z)) args s 0 0 (mm_A z)) 2 μ 2 [(0, .int a0), (1, .int a1)] [] := fun μ a0 a1 h9 => hK (μ, a0, a1) (by rw [eK2] at h9; exact h9)
    replace h : pX11_rootOf_l2 Po E2_19 K2 μ a0 a1 := by rw [eK2]; exact h
    unfold pX11_rootOf_l2 at h
    refine jr_iload_n (q := 3) C 1 dX11_rootOf_2 rfl rfl rfl ?_
    refine jr_iconst (q := 4) (v := (1 : Int32)) C dX11_rootOf_3 (by decide) rfl ?_
    refine jr_iadd (q := 5) C dX11_rootOf_4 rfl ?_
    refine jr_iload_n (q := 6) C 1 dX11_rootOf_5 rfl rfl rfl ?_
    refine jr_iconst (q := 7) (v := (1 : Int32)) C dX11_rootOf_6 (by decide) rfl ?_
    refine jr_iadd (q := 8) C dX11_rootOf_7 rfl ?_
    refine jr_imul (q := 9) C dX11_rootOf_8 rfl ?_
    refine jr_iload_n (q := 10) C 0 dX11_rootOf_9 rfl rfl rfl ?_
    refine jr_icmp_gt (q := 13) (tgt := 19) C dX11_rootOf_10 (by decide) rfl (fun c1 => ?_) (fun c1 => ?_)
    · replace h := h.1 c1
      refine jr_sub [1] rfl ?_
      exact hE2_19 _ _ h
    · replace h := h.2 c1
      refine jr_iinc (q := 16) (lv' := [(1, .int (a1 + (1 : Int32))), (0, .int a0)]) C 1 dX11_rootOf_13 rfl (by rfl) (by decide) rfl rfl ?_
      refine jr_goto (tgt := 2) C dX11_rootOf_16 (by decide) ?_
      refine jr_sub [1, 0] rfl ?_
      exact hK2 _ _ _ h
  have x2_19 : ∀ (μ : mm_T) (c1 : Int32), (Po c1 μ) → jJ p l e ({ frames := 0, cells := 0, slots := 0, locals := 0 }) s m args below meth c D cy z (MQ below (va_Qi Po (mm_Po D cy z) (mm_A z)) args s 0 0 (mm_A z)) 2 μ 19 [(1, .int c1)] [] := by
    intro μ c1 h
    refine jr_iload_n (q := 20) C 0 dX11_rootOf_19 rfl rfl rfl ?_
    exact jr_iret C hr hk dX11_rootOf_20 h
  refine jr_sub [1, 0] rfl ?_
  exact l2 _ x2_19 _ h
theorem dsc_X11_flightBy : yX11_flightBy.cls ≠ "java/lang/invoke/MethodHandle" ∧ yX11_flightBy.cls ≠ "java/lang/invoke/VarHandle" ∧ (parseMethodDescriptor yX11_flightBy.desc).map (fun d => d.parameters.length) = some 2 := by decide +kernel
def pX11_flightBy (Po : Int32 → mm_T → Prop) (μ : mm_T) (p1 : Int32) (p2 : Int32) : Prop := pX11_rootOf (fun r2 μ1 => Po r2 μ1) μ ((100 : Int32) * ((p1 * p1) + (p2 * p2)))
set_option maxHeartbeats 4000000 in
set_option maxRecDepth 100000 in
theorem kX11_flightBy (l : Launch) (p1 : Int32) (p2 : Int32) : mm_CI l yX11_flightBy wsX11_flightBy ({ frames := 1, cells := 0, slots := 0, locals := 21 }) (fun z => [.int p1, .int p2]) (fun μ Po => pX11_flightBy Po μ p1 p2) := by
  refine je_I (cc := cX11_flightBy) (nL := 2) (own := RX11) (plainFor_of_name (by decide)) rfl rfl (fun _ => Nat.le_of_ble_eq_true rfl) ?_
  intro p e s m args below meth c D cy z μ Po C hr hk h
  change jJ p l e ({ frames := 1, cells := 0, slots := 0, locals := 21 }) s m args below meth c D cy z (MQ below (va_Qi Po (mm_Po D cy z) (mm_A z)) args s 0 0 (mm_A z)) 2 μ 0 [(0, .int p1), (1, .int p2)] []
  replace h : pX11_flightBy Po μ p1 p2 := h
  unfold pX11_flightBy at h
  refine jr_bipush (q := 2) (v := (100 : Int32)) C dX11_flightBy_0 (by decide) rfl ?_
  refine jr_iload_n (q := 3) C 0 dX11_flightBy_2 rfl rfl rfl ?_
  refine jr_iload_n (q := 4) C 0 dX11_flightBy_3 rfl rfl rfl ?_
  refine jr_imul (q := 5) C dX11_flightBy_4 rfl ?_
  refine jr_iload_n (q := 6) C 1 dX11_flightBy_5 rfl rfl rfl ?_
  refine jr_iload_n (q := 7) C 1 dX11_flightBy_6 rfl rfl rfl ?_
  refine jr_imul (q := 8) C dX11_flightBy_7 rfl ?_
  refine jr_iadd (q := 9) C dX11_flightBy_8 rfl ?_
  refine jr_imul (q := 10) C dX11_flightBy_9 rfl ?_
  refine jr_csI (q := 13) (As := [.int ((100 : Int32) * ((p1 * p1) + (p2 * p2)))]) (rest := []) C  (kX11_rootOf l ((100 : Int32) * ((p1 * p1) + (p2 * p2)))) rfl gX11_flightBy_X11_rootOf rfl dsc_X11_rootOf ⟨rfl, rfl⟩ ⟨by decide, by decide⟩ rfl rfl (Nat.le_of_ble_eq_true rfl) dX11_flightBy_10 rfl h (fun r2 μ1 h => ?_)
  exact jr_iret C hr hk dX11_flightBy_13 h
theorem nX11_flightOf_11 : ∀ w ∈ wsX110, w ∈ wsX11_flightOf := fun _ h => List.mem_cons_of_mem _ (List.mem_append_right _ h)
theorem mX11_flightOf_1 : Cond.fieldLink RX11 17 RX11 (TX11 4).2.1 (TX11 4).2.2.1 ∈ wsX11_flightOf := List.mem_of_getElem? (i := 1) (by decide +kernel)
theorem mX11_flightOf_2 : Cond.fieldLink RX11 20 RX11 (TX11 5).2.1 (TX11 5).2.2.1 ∈ wsX11_flightOf := List.mem_of_getElem? (i := 2) (by decide +kernel)
theorem dsc_X11_flightOf : yX11_flightOf.cls ≠ "java/lang/invoke/MethodHandle" ∧ yX11_flightOf.cls ≠ "java/lang/invoke/VarHandle" ∧ (parseMethodDescriptor yX11_flightOf.desc).map (fun d => d.parameters.length) = some 2 := by decide +kernel
def pX11_flightOf (Po : Int32 → mm_T → Prop) (μ : mm_T) (p1 : Int32) (p2 : Int32) : Prop := (vp_in p1 7) ∧ ((vp_in p2 7) ∧ ((vp_in p1 7) ∧ ((vp_in p2 7) ∧ (pX11_flightBy (fun r6 μ5 => Po r6 μ5) μ ((μ.1 29 0 p1.toNatClampNeg) - (μ.1 29 0 p2.toNatClampNeg)) ((μ.1 30 0 p1.toNatClampNeg) - (μ.1 30 0 p2.toNatClampNeg))))))
set_option maxHeartbeats 4000000 in
set_option maxRecDepth 100000 in
theorem kX11_flightOf (l : Launch) (p1 : Int32) (p2 : Int32) : mm_CI l yX11_flightOf wsX11_flightOf ({ frames := 2, cells := 0, slots := 0, locals := 42 }) (fun z => [.ref (z + mm_ad 26 0), .int p1, .int p2]) (fun μ Po => pX11_flightOf Po μ p1 p2) := by
  refine je_I (cc := cX11_flightOf) (nL := 3) (own := RX11) (plainFor_of_name (by decide)) rfl rfl (fun _ => Nat.le_of_ble_eq_true rfl) ?_
  intro p e s m args below meth c D cy z μ Po C hr hk h
  change jJ p l e ({ frames := 2, cells := 0, slots := 0, locals := 42 }) s m args below meth c D cy z (MQ below (va_Qi Po (mm_Po D cy z) (mm_A z)) args s 0 0 (mm_A z)) 3 μ 0 [(0, .ref (z + mm_ad 26 0)), (1, .int p1), (2, .int p2)] []
  replace h : pX11_flightOf Po μ p1 p2 := h
  unfold pX11_flightOf at h
  refine jr_aload_n (q := 1) C 0 dX11_flightOf_0 rfl rfl rfl ?_
  refine jr_getR (q := 4) (ci := 11) (Cn := RX11) (T := TX11) (N := 42) (j := 4) C mf_26 rfl rfl (by decide) rfl 29 0 rfl rfl rfl nX11_flightOf_11 mX11_flightOf_1 dX11_flightOf_1 rfl rfl ?_
  refine jr_iload_n (q := 5) C 1 dX11_flightOf_4 rfl rfl rfl ?_
  obtain ⟨g1, h⟩ := h
  refine jr_iald (q := 6) C mf_29 rfl g1 dX11_flightOf_5 rfl ?_
  refine jr_aload_n (q := 7) C 0 dX11_flightOf_6 rfl rfl rfl ?_
  refine jr_getR (q := 10) (ci := 11) (Cn := RX11) (T := TX11) (N := 42) (j := 4) C mf_26 rfl rfl (by decide) rfl 29 0 rfl rfl rfl nX11_flightOf_11 mX11_flightOf_1 dX11_flightOf_7 rfl rfl ?_
  refine jr_iload_n (q := 11) C 2 dX11_flightOf_10 rfl rfl rfl ?_
  obtain ⟨g2, h⟩ := h
  refine jr_iald (q := 12) C mf_29 rfl g2 dX11_flightOf_11 rfl ?_
  refine jr_isub (q := 13) C dX11_flightOf_12 rfl ?_
  refine jr_aload_n (q := 14) C 0 dX11_flightOf_13 rfl rfl rfl ?_
  refine jr_getR (q := 17) (ci := 11) (Cn := RX11) (T := TX11) (N := 42) (j := 5) C mf_26 rfl rfl (by decide) rfl 30 0 rfl rfl rfl nX11_flightOf_11 mX11_flightOf_2 dX11_flightOf_14 rfl rfl ?_
  refine jr_iload_n (q := 18) C 1 dX11_flightOf_17 rfl rfl rfl ?_
  obtain ⟨g3, h⟩ := h
  refine jr_iald (q := 19) C mf_30 rfl g3 dX11_flightOf_18 rfl ?_
  refine jr_aload_n (q := 20) C 0 dX11_flightOf_19 rfl rfl rfl ?_
  refine jr_getR (q := 23) (ci := 11) (Cn := RX11) (T := TX11) (N := 42) (j := 5) C mf_26 rfl rfl (by decide) rfl 30 0 rfl rfl rfl nX11_flightOf_11 mX11_flightOf_2 dX11_flightOf_20 rfl rfl ?_
  refine jr_iload_n (q := 24) C 2 dX11_flightOf_23 rfl rfl rfl ?_
  obtain ⟨g4, h⟩ := h
  refine jr_iald (q := 25) C mf_30 rfl g4 dX11_flightOf_24 rfl ?_
  refine jr_isub (q := 26) C dX11_flightOf_25 rfl ?_
  refine jr_csI (q := 29) (As := [.int ((μ.1 29 0 p1.toNatClampNeg) - (μ.1 29 0 p2.toNatClampNeg)), .int ((μ.1 30 0 p1.toNatClampNeg) - (μ.1 30 0 p2.toNatClampNeg))]) (rest := []) C  (kX11_flightBy l ((μ.1 29 0 p1.toNatClampNeg) - (μ.1 29 0 p2.toNatClampNeg)) ((μ.1 30 0 p1.toNatClampNeg) - (μ.1 30 0 p2.toNatClampNeg))) rfl gX11_flightOf_X11_flightBy rfl dsc_X11_flightBy ⟨rfl, rfl⟩ ⟨by decide, by decide⟩ rfl rfl (Nat.le_of_ble_eq_true rfl) dX11_flightOf_26 rfl h (fun r6 μ5 h => ?_)
  exact jr_iret C hr hk dX11_flightOf_29 h
theorem dsc_X11_down : yX11_down.cls ≠ "java/lang/invoke/MethodHandle" ∧ yX11_down.cls ≠ "java/lang/invoke/VarHandle" ∧ (parseMethodDescriptor yX11_down.desc).map (fun d => d.parameters.length) = some 2 := by decide +kernel
def pX11_down_b35 (Po : Int32 → mm_T → Prop) (μ : mm_T) (a4 : Int64) (as0 : Int32) (as1 : Int32) : Prop := (as1 = as0 → Po a4.toInt32 μ) ∧ (¬ (as1 = as0) → Po ((a4 - (1 : Int64)).toInt32) μ)
def pX11_down_b24 (Po : Int32 → mm_T → Prop) (μ : mm_T) (a2 : Int64) (a4 : Int64) (as0 : Int32) : Prop := (0 ≤ (lg_cmp a2 (0 : Int64)) → pX11_down_b35 Po μ a4 (0 : Int32) as0) ∧ (¬ (0 ≤ (lg_cmp a2 (0 : Int64))) → pX11_down_b35 Po μ a4 (1 : Int32) as0)
def pX11_down (Po : Int32 → mm_T → Prop) (μ : mm_T) (p1 : Int64) (p2 : Int64) : Prop := (¬ p2 = 0) ∧ (∀ x2 : Int64, x2 = p1 / p2 → ((¬ p2 = 0) ∧ (((lg_cmp (p1 - p1 / p2 * p2) (0 : Int64)) = 0 → Po x2.toInt32 μ) ∧ (¬ ((lg_cmp (p1 - p1 / p2 * p2) (0 : Int64)) = 0) → (0 ≤ (lg_cmp p1 (0 : Int64)) → pX11_down_b24 Po μ p2 x2 (0 : Int32)) ∧ (¬ (0 ≤ (lg_cmp p1 (0 : Int64))) → pX11_down_b24 Po μ p2 x2 (1 : Int32))))))
set_option maxHeartbeats 4000000 in
set_option maxRecDepth 100000 in
theorem kX11_down (l : Launch) (p1 : Int64) (p2 : Int64) : mm_CI l yX11_down wsX11_down ({ frames := 0, cells := 0, slots := 0, locals := 0 }) (fun z => [.long p1, .long p2]) (fun μ Po => pX11_down Po μ p1 p2) := by
  refine je_I (cc := cX11_down) (nL := 6) (own := RX11) (plainFor_of_name (by decide)) rfl rfl (fun _ => Nat.le_of_ble_eq_true rfl) ?_
  intro p e s m args below meth c D cy z μ Po C hr hk h
  change jJ p l e ({ frames := 0, cells := 0, slots := 0, locals := 0 }) s m args below meth c D cy z (MQ below (va_Qi Po (mm_Po D cy z) (mm_A z)) args s 0 0 (mm_A z)) 6 μ 0 [(0, .long p1), (2, .long p2)] []
  replace h : pX11_down Po μ p1 p2 := h
  unfold pX11_down at h
  refine jr_lload_n (q := 1) C 0 dX11_down_0 rfl rfl rfl ?_
  refine jr_lload_n (q := 2) C 1 dX11_down_1 rfl rfl rfl ?_
  obtain ⟨g1, h⟩ := h
  refine jr_ldiv (q := 3) C dX11_down_2 g1 rfl ?_
  refine jn_lng (fun x2 ex2 => ?_)
  replace h := h x2 ex2
  refine jr_lstore (q := 5) (lv' := [(4, .long x2), (0, .long p1), (2, .long p2)]) C dX11_down_3 (by decide) rfl rfl ?_
  refine jr_lload_n (q := 6) C 1 dX11_down_5 rfl rfl rfl ?_
  refine jr_lload_n (q := 7) C 2 dX11_down_6 rfl rfl rfl ?_
  obtain ⟨g3, h⟩ := h
  refine jr_lrem (q := 8) C dX11_down_7 g3 rfl ?_
  refine jr_lconst (q := 9) (v := (0 : Int64)) C dX11_down_8 (by decide) rfl ?_
  refine jr_lcmp (q := 10) C dX11_down_9 rfl ?_
  refine jr_if_eq (q := 13) (tgt := 45) C dX11_down_10 (by decide) rfl (fun c7 => ?_) (fun c7 => ?_)
  · replace h := h.1 c7
    refine jr_lload (q := 47) C 0 dX11_down_45 rfl rfl ?_
    refine jr_l2i (q := 48) C dX11_down_47 rfl ?_
    exact jr_iret C hr hk dX11_down_48 h
  · replace h := h.2 c7
    refine jr_lload_n (q := 14) C 1 dX11_down_13 rfl rfl rfl ?_
    refine jr_lconst (q := 15) (v := (0 : Int64)) C dX11_down_14 (by decide) rfl ?_
    refine jr_lcmp (q := 16) C dX11_down_15 rfl ?_
    have b24 : ∀ (μ : mm_T) (a2 : Int64) (a4 : Int64) (as0 : Int32), pX11_down_b24 Po μ a2 a4 as0 → jJ p l e ({ frames := 0, cells := 0, slots := 0, locals := 0 }) s m args below meth c D cy z (MQ below (va_Qi Po (mm_Po D cy z) (mm_A z)) args s 0 0 (mm_A z)) 6 μ 24 [(2, .long a2), (4, .long a4)] [.int as0] := by
      intro μ a2 a4 as0 h
      unfold pX11_down_b24 at h
      refine jr_lload_n (q := 25) C 0 dX11_down_24 rfl rfl rfl ?_
      refine jr_lconst (q := 26) (v := (0 : Int64)) C dX11_down_25 (by decide) rfl ?_
      refine jr_lcmp (q := 27) C dX11_down_26 rfl ?_
      have b35 : ∀ (μ : mm_T) (a4 : Int64) (as0 : Int32) (as1 : Int32), pX11_down_b35 Po μ a4 as0 as1 → jJ p l e ({ frames := 0, cells := 0, slots := 0, locals := 0 }) s m args below meth c D cy z (MQ below (va_Qi Po (mm_Po D cy z) (mm_A z)) args s 0 0 (mm_A z)) 6 μ 35 [(4, .long a4)] [.int as0, .int as1] := by
        intro μ a4 as0 as1 h
        unfold pX11_down_b35 at h
        refine jr_icmp_eq (q := 38) (tgt := 45) C dX11_down_35 (by decide) rfl (fun c4 => ?_) (fun c4 => ?_)
        · replace h := h.1 c4
          refine jr_lload (q := 47) C 0 dX11_down_45 rfl rfl ?_
          refine jr_l2i (q := 48) C dX11_down_47 rfl ?_
          exact jr_iret C hr hk dX11_down_48 h
        · replace h := h.2 c4
          refine jr_lload (q := 40) C 0 dX11_down_38 rfl rfl ?_
          refine jr_lconst (q := 41) (v := (1 : Int64)) C dX11_down_40 (by decide) rfl ?_
          refine jr_lsub (q := 42) C dX11_down_41 rfl ?_
          refine jr_goto (tgt := 47) C dX11_down_42 (by decide) ?_
          refine jr_l2i (q := 48) C dX11_down_47 rfl ?_
          exact jr_iret C hr hk dX11_down_48 h
      refine jr_if_ge (q := 30) (tgt := 34) C dX11_down_27 (by decide) rfl (fun c5 => ?_) (fun c5 => ?_)
      · replace h := h.1 c5
        refine jr_iconst (q := 35) (v := (0 : Int32)) C dX11_down_34 (by decide) rfl ?_
        refine jr_sub [1] rfl ?_
        exact b35 _ _ _ _ h
      · replace h := h.2 c5
        refine jr_iconst (q := 31) (v := (1 : Int32)) C dX11_down_30 (by decide) rfl ?_
        refine jr_goto (tgt := 35) C dX11_down_31 (by decide) ?_
        refine jr_sub [1] rfl ?_
        exact b35 _ _ _ _ h
    refine jr_if_ge (q := 19) (tgt := 23) C dX11_down_16 (by decide) rfl (fun c6 => ?_) (fun c6 => ?_)
    · replace h := h.1 c6
      refine jr_iconst (q := 24) (v := (0 : Int32)) C dX11_down_23 (by decide) rfl ?_
      refine jr_sub [2, 0] rfl ?_
      exact b24 _ _ _ _ h
    · replace h := h.2 c6
      refine jr_iconst (q := 20) (v := (1 : Int32)) C dX11_down_19 (by decide) rfl ?_
      refine jr_goto (tgt := 24) C dX11_down_20 (by decide) ?_
      refine jr_sub [2, 0] rfl ?_
      exact b24 _ _ _ _ h
theorem nX11_clockOf_11 : ∀ w ∈ wsX110, w ∈ wsX11_clockOf := fun _ h => List.mem_cons_of_mem _ (List.mem_append_right _ h)
theorem mX11_clockOf_1 : Cond.fieldLink RX11 26 RX11 (TX11 7).2.1 (TX11 7).2.2.1 ∈ wsX11_clockOf := List.mem_of_getElem? (i := 1) (by decide +kernel)
theorem mX11_clockOf_2 : Cond.fieldLink RX11 23 RX11 (TX11 6).2.1 (TX11 6).2.2.1 ∈ wsX11_clockOf := List.mem_of_getElem? (i := 2) (by decide +kernel)
theorem mX11_clockOf_3 : Cond.constantLong RX11 169 (10000) ∈ wsX11_clockOf := List.mem_of_getElem? (i := 3) (by decide +kernel)
theorem dsc_X11_clockOf : yX11_clockOf.cls ≠ "java/lang/invoke/MethodHandle" ∧ yX11_clockOf.cls ≠ "java/lang/invoke/VarHandle" ∧ (parseMethodDescriptor yX11_clockOf.desc).map (fun d => d.parameters.length) = some 2 := by decide +kernel
def pX11_clockOf (Po : Int32 → mm_T → Prop) (μ : mm_T) (p1 : Int32) (p2 : Int32) : Prop := (vp_in p1 7) ∧ ((vp_in p1 7) ∧ (pX11_down (fun r4 μ3 => Po (((μ.1 32 0 p1.toNatClampNeg) + p2) + r4) μ3) μ (((μ.1 31 0 p1.toNatClampNeg).toInt64) * p2.toInt64) (10000 : Int64)))
set_option maxHeartbeats 4000000 in
set_option maxRecDepth 100000 in
theorem kX11_clockOf (l : Launch) (p1 : Int32) (p2 : Int32) : mm_CI l yX11_clockOf wsX11_clockOf ({ frames := 1, cells := 0, slots := 0, locals := 25 }) (fun z => [.ref (z + mm_ad 26 0), .int p1, .int p2]) (fun μ Po => pX11_clockOf Po μ p1 p2) := by
  refine je_I (cc := cX11_clockOf) (nL := 3) (own := RX11) (plainFor_of_name (by decide)) rfl rfl (fun _ => Nat.le_of_ble_eq_true rfl) ?_
  intro p e s m args below meth c D cy z μ Po C hr hk h
  change jJ p l e ({ frames := 1, cells := 0, slots := 0, locals := 25 }) s m args below meth c D cy z (MQ below (va_Qi Po (mm_Po D cy z) (mm_A z)) args s 0 0 (mm_A z)) 3 μ 0 [(0, .ref (z + mm_ad 26 0)), (1, .int p1), (2, .int p2)] []
  replace h : pX11_clockOf Po μ p1 p2 := h
  unfold pX11_clockOf at h
  refine jr_aload_n (q := 1) C 0 dX11_clockOf_0 rfl rfl rfl ?_
  refine jr_getR (q := 4) (ci := 11) (Cn := RX11) (T := TX11) (N := 42) (j := 7) C mf_26 rfl rfl (by decide) rfl 32 0 rfl rfl rfl nX11_clockOf_11 mX11_clockOf_1 dX11_clockOf_1 rfl rfl ?_
  refine jr_iload_n (q := 5) C 1 dX11_clockOf_4 rfl rfl rfl ?_
  obtain ⟨g1, h⟩ := h
  refine jr_iald (q := 6) C mf_32 rfl g1 dX11_clockOf_5 rfl ?_
  refine jr_iload_n (q := 7) C 2 dX11_clockOf_6 rfl rfl rfl ?_
  refine jr_iadd (q := 8) C dX11_clockOf_7 rfl ?_
  refine jr_aload_n (q := 9) C 0 dX11_clockOf_8 rfl rfl rfl ?_
  refine jr_getR (q := 12) (ci := 11) (Cn := RX11) (T := TX11) (N := 42) (j := 6) C mf_26 rfl rfl (by decide) rfl 31 0 rfl rfl rfl nX11_clockOf_11 mX11_clockOf_2 dX11_clockOf_9 rfl rfl ?_
  refine jr_iload_n (q := 13) C 1 dX11_clockOf_12 rfl rfl rfl ?_
  obtain ⟨g2, h⟩ := h
  refine jr_iald (q := 14) C mf_31 rfl g2 dX11_clockOf_13 rfl ?_
  refine jr_i2l (q := 15) C dX11_clockOf_14 rfl ?_
  refine jr_iload_n (q := 16) C 2 dX11_clockOf_15 rfl rfl rfl ?_
  refine jr_i2l (q := 17) C dX11_clockOf_16 rfl ?_
  refine jr_lmul (q := 18) C dX11_clockOf_17 rfl ?_
  refine jr_ldc2 (q := 21) (v := (10000 : Int64)) C dX11_clockOf_18 mX11_clockOf_3 rfl ?_
  refine jr_csI (q := 24) (As := [.long (((μ.1 31 0 p1.toNatClampNeg).toInt64) * p2.toInt64), .long (10000 : Int64)]) (rest := [.int ((μ.1 32 0 p1.toNatClampNeg) + p2)]) C  (kX11_down l (((μ.1 31 0 p1.toNatClampNeg).toInt64) * p2.toInt64) (10000 : Int64)) rfl gX11_clockOf_X11_down rfl dsc_X11_down ⟨rfl, rfl⟩ ⟨by decide, by decide⟩ rfl rfl (Nat.le_of_ble_eq_true rfl) dX11_clockOf_21 rfl h (fun r4 μ3 h => ?_)
  refine jr_iadd (q := 25) C dX11_clockOf_24 rfl ?_
  exact jr_iret C hr hk dX11_clockOf_25 h
theorem nX11_nodeNow_11 : ∀ w ∈ wsX110, w ∈ wsX11_nodeNow := fun _ h => List.mem_cons_of_mem _ (List.mem_append_right _ h)
theorem mX11_nodeNow_1 : Cond.fieldLink RX11 13 RX11 (TX11 3).2.1 (TX11 3).2.2.1 ∈ wsX11_nodeNow := List.mem_of_getElem? (i := 1) (by decide +kernel)
theorem mX11_nodeNow_2 : Cond.fieldLink RX11 17 RX11 (TX11 4).2.1 (TX11 4).2.2.1 ∈ wsX11_nodeNow := List.mem_of_getElem? (i := 2) (by decide +kernel)
theorem mX11_nodeNow_3 : Cond.fieldLink RX11 20 RX11 (TX11 5).2.1 (TX11 5).2.2.1 ∈ wsX11_nodeNow := List.mem_of_getElem? (i := 3) (by decide +kernel)
theorem mX11_nodeNow_4 : Cond.fieldLink RX11 23 RX11 (TX11 6).2.1 (TX11 6).2.2.1 ∈ wsX11_nodeNow := List.mem_of_getElem? (i := 4) (by decide +kernel)
theorem mX11_nodeNow_5 : Cond.fieldLink RX11 26 RX11 (TX11 7).2.1 (TX11 7).2.2.1 ∈ wsX11_nodeNow := List.mem_of_getElem? (i := 5) (by decide +kernel)
theorem mX11_nodeNow_6 : Cond.fieldLink RX11 29 RX11 (TX11 8).2.1 (TX11 8).2.2.1 ∈ wsX11_nodeNow := List.mem_of_getElem? (i := 6) (by decide +kernel)
theorem mX11_nodeNow_7 : Cond.fieldLink RX11 140 RX11 (TX11 17).2.1 (TX11 17).2.2.1 ∈ wsX11_nodeNow := List.mem_of_getElem? (i := 7) (by decide +kernel)
theorem mX11_nodeNow_8 : Cond.fieldLink RX11 32 RX11 (TX11 9).2.1 (TX11 9).2.2.1 ∈ wsX11_nodeNow := List.mem_of_getElem? (i := 8) (by decide +kernel)
theorem mX11_nodeNow_9 : Cond.fieldLink RX11 35 RX11 (TX11 10).2.1 (TX11 10).2.2.1 ∈ wsX11_nodeNow := List.mem_of_getElem? (i := 9) (by decide +kernel)
theorem dsc_X11_nodeNow : yX11_nodeNow.cls ≠ "java/lang/invoke/MethodHandle" ∧ yX11_nodeNow.cls ≠ "java/lang/invoke/VarHandle" ∧ (parseMethodDescriptor yX11_nodeNow.desc).map (fun d => d.parameters.length) = some 2 := by decide +kernel
def pX11_nodeNow (Po : Int32 → mm_T → Prop) (μ : mm_T) (p1 : Int32) (p2 : Int32) : Prop := (p2 = (0 : Int32) → (vp_in p1 7) ∧ (((μ.1 28 0 p1.toNatClampNeg) = 0 → Po (0 : Int32) μ) ∧ (¬ ((μ.1 28 0 p1.toNatClampNeg) = 0) → Po (1 : Int32) μ))) ∧ (p2 = (1 : Int32) → (vp_in p1 7) ∧ (Po (μ.1 29 0 p1.toNatClampNeg) μ)) ∧ (p2 = (2 : Int32) → (vp_in p1 7) ∧ (Po (μ.1 30 0 p1.toNatClampNeg) μ)) ∧ (p2 = (3 : Int32) → (vp_in p1 7) ∧ (Po (μ.1 31 0 p1.toNatClampNeg) μ)) ∧ (p2 = (4 : Int32) → (vp_in p1 7) ∧ (Po (μ.1 32 0 p1.toNatClampNeg) μ)) ∧ (p2 = (5 : Int32) → (vp_in p1 7) ∧ (Po (μ.1 33 0 p1.toNatClampNeg) μ)) ∧ (p2 = (6 : Int32) → pX11_clockOf (fun r9 μ8 => Po r9 μ8) μ p1 (μ.1 26 0 17)) ∧ (p2 = (7 : Int32) → (vp_in p1 7) ∧ (((μ.1 28 0 p1.toNatClampNeg) = 0 → Po (-1 : Int32) μ) ∧ (¬ ((μ.1 28 0 p1.toNatClampNeg) = 0) → (vp_in p1 7) ∧ (Po (μ.1 34 0 p1.toNatClampNeg) μ)))) ∧ (¬ p2 = (0 : Int32) → ¬ p2 = (1 : Int32) → ¬ p2 = (2 : Int32) → ¬ p2 = (3 : Int32) → ¬ p2 = (4 : Int32) → ¬ p2 = (5 : Int32) → ¬ p2 = (6 : Int32) → ¬ p2 = (7 : Int32) → (vp_in p1 7) ∧ (((μ.1 28 0 p1.toNatClampNeg) = 0 → Po (-1 : Int32) μ) ∧ (¬ ((μ.1 28 0 p1.toNatClampNeg) = 0) → (vp_in p1 7) ∧ (Po (μ.1 35 0 p1.toNatClampNeg) μ))))
set_option maxHeartbeats 4000000 in
set_option maxRecDepth 100000 in
theorem kX11_nodeNow (l : Launch) (p1 : Int32) (p2 : Int32) : mm_CI l yX11_nodeNow wsX11_nodeNow ({ frames := 2, cells := 0, slots := 0, locals := 47 }) (fun z => [.ref (z + mm_ad 26 0), .int p1, .int p2]) (fun μ Po => pX11_nodeNow Po μ p1 p2) := by
  refine je_I (cc := cX11_nodeNow) (nL := 3) (own := RX11) (plainFor_of_name (by decide)) rfl rfl (fun _ => Nat.le_of_ble_eq_true rfl) ?_
  intro p e s m args below meth c D cy z μ Po C hr hk h
  change jJ p l e ({ frames := 2, cells := 0, slots := 0, locals := 47 }) s m args below meth c D cy z (MQ below (va_Qi Po (mm_Po D cy z) (mm_A z)) args s 0 0 (mm_A z)) 3 μ 0 [(0, .ref (z + mm_ad 26 0)), (1, .int p1), (2, .int p2)] []
  replace h : pX11_nodeNow Po μ p1 p2 := h
  unfold pX11_nodeNow at h
  refine jr_iload_n (q := 1) C 2 dX11_nodeNow_0 rfl rfl rfl ?_
  by_cases w0 : p2 = (0 : Int32)
  · replace h := h.1 w0
    refine jr_tabI (tgt := 48) C (0 : Int32) w0 dX11_nodeNow_1 (by decide) (by decide) rfl (by decide) ?_
    refine jr_aload_n (q := 49) C 0 dX11_nodeNow_48 rfl rfl rfl ?_
    refine jr_getR (q := 52) (ci := 11) (Cn := RX11) (T := TX11) (N := 42) (j := 3) C mf_26 rfl rfl (by decide) rfl 28 0 rfl rfl rfl nX11_nodeNow_11 mX11_nodeNow_1 dX11_nodeNow_49 rfl rfl ?_
    refine jr_iload_n (q := 53) C 1 dX11_nodeNow_52 rfl rfl rfl ?_
    obtain ⟨g1, h⟩ := h
    refine jr_zald (q := 54) C mf_28 rfl g1 dX11_nodeNow_53 rfl ?_
    refine jr_if_eq (q := 57) (tgt := 61) C dX11_nodeNow_54 (by decide) rfl (fun c2 => ?_) (fun c2 => ?_)
    · replace h := h.1 c2
      refine jr_iconst (q := 62) (v := (0 : Int32)) C dX11_nodeNow_61 (by decide) rfl ?_
      exact jr_iret C hr hk dX11_nodeNow_62 h
    · replace h := h.2 c2
      refine jr_iconst (q := 58) (v := (1 : Int32)) C dX11_nodeNow_57 (by decide) rfl ?_
      refine jr_goto (tgt := 62) C dX11_nodeNow_58 (by decide) ?_
      exact jr_iret C hr hk dX11_nodeNow_62 h
  by_cases w1 : p2 = (1 : Int32)
  · replace h := h.2.1 w1
    refine jr_tabI (tgt := 63) C (1 : Int32) w1 dX11_nodeNow_1 (by decide) (by decide) rfl (by decide) ?_
    refine jr_aload_n (q := 64) C 0 dX11_nodeNow_63 rfl rfl rfl ?_
    refine jr_getR (q := 67) (ci := 11) (Cn := RX11) (T := TX11) (N := 42) (j := 4) C mf_26 rfl rfl (by decide) rfl 29 0 rfl rfl rfl nX11_nodeNow_11 mX11_nodeNow_2 dX11_nodeNow_64 rfl rfl ?_
    refine jr_iload_n (q := 68) C 1 dX11_nodeNow_67 rfl rfl rfl ?_
    obtain ⟨g3, h⟩ := h
    refine jr_iald (q := 69) C mf_29 rfl g3 dX11_nodeNow_68 rfl ?_
    exact jr_iret C hr hk dX11_nodeNow_69 h
  by_cases w2 : p2 = (2 : Int32)
  · replace h := h.2.2.1 w2
    refine jr_tabI (tgt := 70) C (2 : Int32) w2 dX11_nodeNow_1 (by decide) (by decide) rfl (by decide) ?_
    refine jr_aload_n (q := 71) C 0 dX11_nodeNow_70 rfl rfl rfl ?_
    refine jr_getR (q := 74) (ci := 11) (Cn := RX11) (T := TX11) (N := 42) (j := 5) C mf_26 rfl rfl (by decide) rfl 30 0 rfl rfl rfl nX11_nodeNow_11 mX11_nodeNow_3 dX11_nodeNow_71 rfl rfl ?_
    refine jr_iload_n (q := 75) C 1 dX11_nodeNow_74 rfl rfl rfl ?_
    obtain ⟨g4, h⟩ := h
    refine jr_iald (q := 76) C mf_30 rfl g4 dX11_nodeNow_75 rfl ?_
    exact jr_iret C hr hk dX11_nodeNow_76 h
  by_cases w3 : p2 = (3 : Int32)
  · replace h := h.2.2.2.1 w3
    refine jr_tabI (tgt := 77) C (3 : Int32) w3 dX11_nodeNow_1 (by decide) (by decide) rfl (by decide) ?_
    refine jr_aload_n (q := 78) C 0 dX11_nodeNow_77 rfl rfl rfl ?_
    refine jr_getR (q := 81) (ci := 11) (Cn := RX11) (T := TX11) (N := 42) (j := 6) C mf_26 rfl rfl (by decide) rfl 31 0 rfl rfl rfl nX11_nodeNow_11 mX11_nodeNow_4 dX11_nodeNow_78 rfl rfl ?_
    refine jr_iload_n (q := 82) C 1 dX11_nodeNow_81 rfl rfl rfl ?_
    obtain ⟨g5, h⟩ := h
    refine jr_iald (q := 83) C mf_31 rfl g5 dX11_nodeNow_82 rfl ?_
    exact jr_iret C hr hk dX11_nodeNow_83 h
  by_cases w4 : p2 = (4 : Int32)
  · replace h := h.2.2.2.2.1 w4
    refine jr_tabI (tgt := 84) C (4 : Int32) w4 dX11_nodeNow_1 (by decide) (by decide) rfl (by decide) ?_
    refine jr_aload_n (q := 85) C 0 dX11_nodeNow_84 rfl rfl rfl ?_
    refine jr_getR (q := 88) (ci := 11) (Cn := RX11) (T := TX11) (N := 42) (j := 7) C mf_26 rfl rfl (by decide) rfl 32 0 rfl rfl rfl nX11_nodeNow_11 mX11_nodeNow_5 dX11_nodeNow_85 rfl rfl ?_
    refine jr_iload_n (q := 89) C 1 dX11_nodeNow_88 rfl rfl rfl ?_
    obtain ⟨g6, h⟩ := h
    refine jr_iald (q := 90) C mf_32 rfl g6 dX11_nodeNow_89 rfl ?_
    exact jr_iret C hr hk dX11_nodeNow_90 h
  by_cases w5 : p2 = (5 : Int32)
  · replace h := h.2.2.2.2.2.1 w5
    refine jr_tabI (tgt := 91) C (5 : Int32) w5 dX11_nodeNow_1 (by decide) (by decide) rfl (by decide) ?_
    refine jr_aload_n (q := 92) C 0 dX11_nodeNow_91 rfl rfl rfl ?_
    refine jr_getR (q := 95) (ci := 11) (Cn := RX11) (T := TX11) (N := 42) (j := 8) C mf_26 rfl rfl (by decide) rfl 33 0 rfl rfl rfl nX11_nodeNow_11 mX11_nodeNow_6 dX11_nodeNow_92 rfl rfl ?_
    refine jr_iload_n (q := 96) C 1 dX11_nodeNow_95 rfl rfl rfl ?_
    obtain ⟨g7, h⟩ := h
    refine jr_iald (q := 97) C mf_33 rfl g7 dX11_nodeNow_96 rfl ?_
    exact jr_iret C hr hk dX11_nodeNow_97 h
  by_cases w6 : p2 = (6 : Int32)
  · replace h := h.2.2.2.2.2.2.1 w6
    refine jr_tabI (tgt := 98) C (6 : Int32) w6 dX11_nodeNow_1 (by decide) (by decide) rfl (by decide) ?_
    refine jr_aload_n (q := 99) C 0 dX11_nodeNow_98 rfl rfl rfl ?_
    refine jr_iload_n (q := 100) C 1 dX11_nodeNow_99 rfl rfl rfl ?_
    refine jr_aload_n (q := 101) C 0 dX11_nodeNow_100 rfl rfl rfl ?_
    refine jr_getI (q := 104) (ci := 11) (Cn := RX11) (T := TX11) (N := 42) (j := 17) C mf_26 rfl rfl (by decide) rfl rfl nX11_nodeNow_11 mX11_nodeNow_7 dX11_nodeNow_101 rfl rfl ?_
    refine jr_cvI (q := 107) (As := [.int p1, .int (μ.1 26 0 17)]) (rest := []) C (f := 26) (i := 0) (ci := 11) mf_26 rfl rfl rfl (kX11_clockOf l p1 (μ.1 26 0 17)) rfl gX11_nodeNow_X11_clockOf rfl dsc_X11_clockOf ⟨rfl, rfl⟩ ⟨by decide, by decide⟩ rfl rfl (Nat.le_of_ble_eq_true rfl) dX11_nodeNow_104 rfl h (fun r9 μ8 h => ?_)
    exact jr_iret C hr hk dX11_nodeNow_107 h
  by_cases w7 : p2 = (7 : Int32)
  · replace h := h.2.2.2.2.2.2.2.1 w7
    refine jr_tabI (tgt := 108) C (7 : Int32) w7 dX11_nodeNow_1 (by decide) (by decide) rfl (by decide) ?_
    refine jr_aload_n (q := 109) C 0 dX11_nodeNow_108 rfl rfl rfl ?_
    refine jr_getR (q := 112) (ci := 11) (Cn := RX11) (T := TX11) (N := 42) (j := 3) C mf_26 rfl rfl (by decide) rfl 28 0 rfl rfl rfl nX11_nodeNow_11 mX11_nodeNow_1 dX11_nodeNow_109 rfl rfl ?_
    refine jr_iload_n (q := 113) C 1 dX11_nodeNow_112 rfl rfl rfl ?_
    obtain ⟨g10, h⟩ := h
    refine jr_zald (q := 114) C mf_28 rfl g10 dX11_nodeNow_113 rfl ?_
    refine jr_if_eq (q := 117) (tgt := 126) C dX11_nodeNow_114 (by decide) rfl (fun c12 => ?_) (fun c12 => ?_)
    · replace h := h.1 c12
      refine jr_iconst (q := 127) (v := (-1 : Int32)) C dX11_nodeNow_126 (by decide) rfl ?_
      exact jr_iret C hr hk dX11_nodeNow_127 h
    · replace h := h.2 c12
      refine jr_aload_n (q := 118) C 0 dX11_nodeNow_117 rfl rfl rfl ?_
      refine jr_getR (q := 121) (ci := 11) (Cn := RX11) (T := TX11) (N := 42) (j := 9) C mf_26 rfl rfl (by decide) rfl 34 0 rfl rfl rfl nX11_nodeNow_11 mX11_nodeNow_8 dX11_nodeNow_118 rfl rfl ?_
      refine jr_iload_n (q := 122) C 1 dX11_nodeNow_121 rfl rfl rfl ?_
      obtain ⟨g11, h⟩ := h
      refine jr_iald (q := 123) C mf_34 rfl g11 dX11_nodeNow_122 rfl ?_
      refine jr_goto (tgt := 127) C dX11_nodeNow_123 (by decide) ?_
      exact jr_iret C hr hk dX11_nodeNow_127 h
  replace h := h.2.2.2.2.2.2.2.2 w0 w1 w2 w3 w4 w5 w6 w7
  have vw0 := lv_neT (a := 0) w0 (by decide)
  have vw1 := lv_neT (a := 1) w1 (by decide)
  have vw2 := lv_neT (a := 2) w2 (by decide)
  have vw3 := lv_neT (a := 3) w3 (by decide)
  have vw4 := lv_neT (a := 4) w4 (by decide)
  have vw5 := lv_neT (a := 5) w5 (by decide)
  have vw6 := lv_neT (a := 6) w6 (by decide)
  have vw7 := lv_neT (a := 7) w7 (by decide)
  refine jr_tabO (tgt := 128) C dX11_nodeNow_1 (by omega) (by decide) ?_
  refine jr_aload_n (q := 129) C 0 dX11_nodeNow_128 rfl rfl rfl ?_
  refine jr_getR (q := 132) (ci := 11) (Cn := RX11) (T := TX11) (N := 42) (j := 3) C mf_26 rfl rfl (by decide) rfl 28 0 rfl rfl rfl nX11_nodeNow_11 mX11_nodeNow_1 dX11_nodeNow_129 rfl rfl ?_
  refine jr_iload_n (q := 133) C 1 dX11_nodeNow_132 rfl rfl rfl ?_
  obtain ⟨g13, h⟩ := h
  refine jr_zald (q := 134) C mf_28 rfl g13 dX11_nodeNow_133 rfl ?_
  refine jr_if_eq (q := 137) (tgt := 146) C dX11_nodeNow_134 (by decide) rfl (fun c15 => ?_) (fun c15 => ?_)
  · replace h := h.1 c15
    refine jr_iconst (q := 147) (v := (-1 : Int32)) C dX11_nodeNow_146 (by decide) rfl ?_
    exact jr_iret C hr hk dX11_nodeNow_147 h
  · replace h := h.2 c15
    refine jr_aload_n (q := 138) C 0 dX11_nodeNow_137 rfl rfl rfl ?_
    refine jr_getR (q := 141) (ci := 11) (Cn := RX11) (T := TX11) (N := 42) (j := 10) C mf_26 rfl rfl (by decide) rfl 35 0 rfl rfl rfl nX11_nodeNow_11 mX11_nodeNow_9 dX11_nodeNow_138 rfl rfl ?_
    refine jr_iload_n (q := 142) C 1 dX11_nodeNow_141 rfl rfl rfl ?_
    obtain ⟨g14, h⟩ := h
    refine jr_iald (q := 143) C mf_35 rfl g14 dX11_nodeNow_142 rfl ?_
    refine jr_goto (tgt := 147) C dX11_nodeNow_143 (by decide) ?_
    exact jr_iret C hr hk dX11_nodeNow_147 h
theorem mX11_node_0 : Cond.constant RX11 81 (-1000002) ∈ wsX11_node := List.mem_of_getElem? (i := 2) (by decide +kernel)
theorem mX11_node_1 : Cond.constant RX11 178 (-1000001) ∈ wsX11_node := List.mem_of_getElem? (i := 1) (by decide +kernel)
theorem dsc_X11_node : yX11_node.cls ≠ "java/lang/invoke/MethodHandle" ∧ yX11_node.cls ≠ "java/lang/invoke/VarHandle" ∧ (parseMethodDescriptor yX11_node.desc).map (fun d => d.parameters.length) = some 2 := by decide +kernel
def pX11_node (Po : Int32 → mm_T → Prop) (μ : mm_T) (p1 : Int32) (p2 : Int32) : Prop := pX11_isNode (fun r2 μ1 => (¬ r2 = 0 → pX11_within (fun r4 μ3 => (r4 = 0 → Po (-1000002 : Int32) μ3) ∧ (¬ (r4 = 0) → pX11_nodeNow (fun r6 μ5 => Po r6 μ5) μ3 p1 p2)) μ1 p2 (0 : Int32) (8 : Int32)) ∧ (r2 = 0 → Po (-1000001 : Int32) μ1)) μ p1
set_option maxHeartbeats 4000000 in
set_option maxRecDepth 100000 in
theorem kX11_node (l : Launch) (p1 : Int32) (p2 : Int32) : mm_CI l yX11_node wsX11_node ({ frames := 3, cells := 0, slots := 0, locals := 69 }) (fun z => [.ref (z + mm_ad 26 0), .int p1, .int p2]) (fun μ Po => pX11_node Po μ p1 p2) := by
  refine je_I (cc := cX11_node) (nL := 3) (own := RX11) (plainFor_of_name (by decide)) rfl rfl (fun _ => Nat.le_of_ble_eq_true rfl) ?_
  intro p e s m args below meth c D cy z μ Po C hr hk h
  change jJ p l e ({ frames := 3, cells := 0, slots := 0, locals := 69 }) s m args below meth c D cy z (MQ below (va_Qi Po (mm_Po D cy z) (mm_A z)) args s 0 0 (mm_A z)) 3 μ 0 [(0, .ref (z + mm_ad 26 0)), (1, .int p1), (2, .int p2)] []
  replace h : pX11_node Po μ p1 p2 := h
  unfold pX11_node at h
  refine jr_aload_n (q := 1) C 0 dX11_node_0 rfl rfl rfl ?_
  refine jr_iload_n (q := 2) C 1 dX11_node_1 rfl rfl rfl ?_
  refine jr_cvI (q := 5) (As := [.int p1]) (rest := []) C (f := 26) (i := 0) (ci := 11) mf_26 rfl rfl rfl (kX11_isNode l p1) rfl gX11_node_X11_isNode rfl dsc_X11_isNode ⟨rfl, rfl⟩ ⟨by decide, by decide⟩ rfl rfl (Nat.le_of_ble_eq_true rfl) dX11_node_2 rfl h (fun r2 μ1 h => ?_)
  refine jr_if_ne (q := 8) (tgt := 13) C dX11_node_5 (by decide) rfl (fun c8 => ?_) (fun c8 => ?_)
  · replace h := h.1 c8
    refine jr_iload_n (q := 14) C 2 dX11_node_13 rfl rfl rfl ?_
    refine jr_iconst (q := 15) (v := (0 : Int32)) C dX11_node_14 (by decide) rfl ?_
    refine jr_bipush (q := 17) (v := (8 : Int32)) C dX11_node_15 (by decide) rfl ?_
    refine jr_csI (q := 20) (As := [.int p2, .int (0 : Int32), .int (8 : Int32)]) (rest := []) C  (kX11_within l p2 (0 : Int32) (8 : Int32)) rfl gX11_node_X11_within rfl dsc_X11_within ⟨rfl, rfl⟩ ⟨by decide, by decide⟩ rfl rfl (Nat.le_of_ble_eq_true rfl) dX11_node_17 rfl h (fun r4 μ3 h => ?_)
    refine jr_if_eq (q := 23) (tgt := 32) C dX11_node_20 (by decide) rfl (fun c7 => ?_) (fun c7 => ?_)
    · replace h := h.1 c7
      refine jr_ldc (q := 34) (v := (-1000002 : Int32)) C dX11_node_32 mX11_node_0 rfl ?_
      exact jr_iret C hr hk dX11_node_34 h
    · replace h := h.2 c7
      refine jr_aload_n (q := 24) C 0 dX11_node_23 rfl rfl rfl ?_
      refine jr_iload_n (q := 25) C 1 dX11_node_24 rfl rfl rfl ?_
      refine jr_iload_n (q := 26) C 2 dX11_node_25 rfl rfl rfl ?_
      refine jr_cvI (q := 29) (As := [.int p1, .int p2]) (rest := []) C (f := 26) (i := 0) (ci := 11) mf_26 rfl rfl rfl (kX11_nodeNow l p1 p2) rfl gX11_node_X11_nodeNow rfl dsc_X11_nodeNow ⟨rfl, rfl⟩ ⟨by decide, by decide⟩ rfl rfl (Nat.le_of_ble_eq_true rfl) dX11_node_26 rfl h (fun r6 μ5 h => ?_)
      refine jr_goto (tgt := 34) C dX11_node_29 (by decide) ?_
      exact jr_iret C hr hk dX11_node_34 h
  · replace h := h.2 c8
    refine jr_ldc (q := 10) (v := (-1000001 : Int32)) C dX11_node_8 mX11_node_1 rfl ?_
    refine jr_goto (tgt := 34) C dX11_node_10 (by decide) ?_
    exact jr_iret C hr hk dX11_node_34 h
theorem mX11_flight_0 : Cond.constant RX11 178 (-1000001) ∈ wsX11_flight := List.mem_of_getElem? (i := 1) (by decide +kernel)
theorem dsc_X11_flight : yX11_flight.cls ≠ "java/lang/invoke/MethodHandle" ∧ yX11_flight.cls ≠ "java/lang/invoke/VarHandle" ∧ (parseMethodDescriptor yX11_flight.desc).map (fun d => d.parameters.length) = some 2 := by decide +kernel
def pX11_flight (Po : Int32 → mm_T → Prop) (μ : mm_T) (p1 : Int32) (p2 : Int32) : Prop := pX11_isNode (fun r2 μ1 => (r2 = 0 → Po (-1000001 : Int32) μ1) ∧ (¬ (r2 = 0) → pX11_isNode (fun r4 μ3 => (r4 = 0 → Po (-1000001 : Int32) μ3) ∧ (¬ (r4 = 0) → pX11_flightOf (fun r6 μ5 => Po r6 μ5) μ3 p1 p2)) μ1 p2)) μ p1
set_option maxHeartbeats 4000000 in
set_option maxRecDepth 100000 in
theorem kX11_flight (l : Launch) (p1 : Int32) (p2 : Int32) : mm_CI l yX11_flight wsX11_flight ({ frames := 3, cells := 0, slots := 0, locals := 64 }) (fun z => [.ref (z + mm_ad 26 0), .int p1, .int p2]) (fun μ Po => pX11_flight Po μ p1 p2) := by
  refine je_I (cc := cX11_flight) (nL := 3) (own := RX11) (plainFor_of_name (by decide)) rfl rfl (fun _ => Nat.le_of_ble_eq_true rfl) ?_
  intro p e s m args below meth c D cy z μ Po C hr hk h
  change jJ p l e ({ frames := 3, cells := 0, slots := 0, locals := 64 }) s m args below meth c D cy z (MQ below (va_Qi Po (mm_Po D cy z) (mm_A z)) args s 0 0 (mm_A z)) 3 μ 0 [(0, .ref (z + mm_ad 26 0)), (1, .int p1), (2, .int p2)] []
  replace h : pX11_flight Po μ p1 p2 := h
  unfold pX11_flight at h
  refine jr_aload_n (q := 1) C 0 dX11_flight_0 rfl rfl rfl ?_
  refine jr_iload_n (q := 2) C 1 dX11_flight_1 rfl rfl rfl ?_
  refine jr_cvI (q := 5) (As := [.int p1]) (rest := []) C (f := 26) (i := 0) (ci := 11) mf_26 rfl rfl rfl (kX11_isNode l p1) rfl gX11_flight_X11_isNode rfl dsc_X11_isNode ⟨rfl, rfl⟩ ⟨by decide, by decide⟩ rfl rfl (Nat.le_of_ble_eq_true rfl) dX11_flight_2 rfl h (fun r2 μ1 h => ?_)
  refine jr_if_eq (q := 8) (tgt := 25) C dX11_flight_5 (by decide) rfl (fun c8 => ?_) (fun c8 => ?_)
  · replace h := h.1 c8
    refine jr_ldc (q := 27) (v := (-1000001 : Int32)) C dX11_flight_25 mX11_flight_0 rfl ?_
    exact jr_iret C hr hk dX11_flight_27 h
  · replace h := h.2 c8
    refine jr_aload_n (q := 9) C 0 dX11_flight_8 rfl rfl rfl ?_
    refine jr_iload_n (q := 10) C 2 dX11_flight_9 rfl rfl rfl ?_
    refine jr_cvI (q := 13) (As := [.int p2]) (rest := []) C (f := 26) (i := 0) (ci := 11) mf_26 rfl rfl rfl (kX11_isNode l p2) rfl gX11_flight_X11_isNode rfl dsc_X11_isNode ⟨rfl, rfl⟩ ⟨by decide, by decide⟩ rfl rfl (Nat.le_of_ble_eq_true rfl) dX11_flight_10 rfl h (fun r4 μ3 h => ?_)
    refine jr_if_eq (q := 16) (tgt := 25) C dX11_flight_13 (by decide) rfl (fun c7 => ?_) (fun c7 => ?_)
    · replace h := h.1 c7
      refine jr_ldc (q := 27) (v := (-1000001 : Int32)) C dX11_flight_25 mX11_flight_0 rfl ?_
      exact jr_iret C hr hk dX11_flight_27 h
    · replace h := h.2 c7
      refine jr_aload_n (q := 17) C 0 dX11_flight_16 rfl rfl rfl ?_
      refine jr_iload_n (q := 18) C 1 dX11_flight_17 rfl rfl rfl ?_
      refine jr_iload_n (q := 19) C 2 dX11_flight_18 rfl rfl rfl ?_
      refine jr_cvI (q := 22) (As := [.int p1, .int p2]) (rest := []) C (f := 26) (i := 0) (ci := 11) mf_26 rfl rfl rfl (kX11_flightOf l p1 p2) rfl gX11_flight_X11_flightOf rfl dsc_X11_flightOf ⟨rfl, rfl⟩ ⟨by decide, by decide⟩ rfl rfl (Nat.le_of_ble_eq_true rfl) dX11_flight_19 rfl h (fun r6 μ5 h => ?_)
      refine jr_goto (tgt := 27) C dX11_flight_22 (by decide) ?_
      exact jr_iret C hr hk dX11_flight_27 h
theorem mX11_clock_0 : Cond.constant RX11 185 (1000000) ∈ wsX11_clock := List.mem_of_getElem? (i := 2) (by decide +kernel)
theorem mX11_clock_1 : Cond.constant RX11 81 (-1000002) ∈ wsX11_clock := List.mem_of_getElem? (i := 3) (by decide +kernel)
theorem mX11_clock_2 : Cond.constant RX11 178 (-1000001) ∈ wsX11_clock := List.mem_of_getElem? (i := 1) (by decide +kernel)
theorem dsc_X11_clock : yX11_clock.cls ≠ "java/lang/invoke/MethodHandle" ∧ yX11_clock.cls ≠ "java/lang/invoke/VarHandle" ∧ (parseMethodDescriptor yX11_clock.desc).map (fun d => d.parameters.length) = some 2 := by decide +kernel
def pX11_clock (Po : Int32 → mm_T → Prop) (μ : mm_T) (p1 : Int32) (p2 : Int32) : Prop := pX11_isNode (fun r2 μ1 => (¬ r2 = 0 → pX11_within (fun r4 μ3 => (r4 = 0 → Po (-1000002 : Int32) μ3) ∧ (¬ (r4 = 0) → pX11_clockOf (fun r6 μ5 => Po r6 μ5) μ3 p1 p2)) μ1 p2 (0 : Int32) (1000000 : Int32)) ∧ (r2 = 0 → Po (-1000001 : Int32) μ1)) μ p1
set_option maxHeartbeats 4000000 in
set_option maxRecDepth 100000 in
theorem kX11_clock (l : Launch) (p1 : Int32) (p2 : Int32) : mm_CI l yX11_clock wsX11_clock ({ frames := 2, cells := 0, slots := 0, locals := 47 }) (fun z => [.ref (z + mm_ad 26 0), .int p1, .int p2]) (fun μ Po => pX11_clock Po μ p1 p2) := by
  refine je_I (cc := cX11_clock) (nL := 3) (own := RX11) (plainFor_of_name (by decide)) rfl rfl (fun _ => Nat.le_of_ble_eq_true rfl) ?_
  intro p e s m args below meth c D cy z μ Po C hr hk h
  change jJ p l e ({ frames := 2, cells := 0, slots := 0, locals := 47 }) s m args below meth c D cy z (MQ below (va_Qi Po (mm_Po D cy z) (mm_A z)) args s 0 0 (mm_A z)) 3 μ 0 [(0, .ref (z + mm_ad 26 0)), (1, .int p1), (2, .int p2)] []
  replace h : pX11_clock Po μ p1 p2 := h
  unfold pX11_clock at h
  refine jr_aload_n (q := 1) C 0 dX11_clock_0 rfl rfl rfl ?_
  refine jr_iload_n (q := 2) C 1 dX11_clock_1 rfl rfl rfl ?_
  refine jr_cvI (q := 5) (As := [.int p1]) (rest := []) C (f := 26) (i := 0) (ci := 11) mf_26 rfl rfl rfl (kX11_isNode l p1) rfl gX11_clock_X11_isNode rfl dsc_X11_isNode ⟨rfl, rfl⟩ ⟨by decide, by decide⟩ rfl rfl (Nat.le_of_ble_eq_true rfl) dX11_clock_2 rfl h (fun r2 μ1 h => ?_)
  refine jr_if_ne (q := 8) (tgt := 13) C dX11_clock_5 (by decide) rfl (fun c8 => ?_) (fun c8 => ?_)
  · replace h := h.1 c8
    refine jr_iload_n (q := 14) C 2 dX11_clock_13 rfl rfl rfl ?_
    refine jr_iconst (q := 15) (v := (0 : Int32)) C dX11_clock_14 (by decide) rfl ?_
    refine jr_ldc (q := 17) (v := (1000000 : Int32)) C dX11_clock_15 mX11_clock_0 rfl ?_
    refine jr_csI (q := 20) (As := [.int p2, .int (0 : Int32), .int (1000000 : Int32)]) (rest := []) C  (kX11_within l p2 (0 : Int32) (1000000 : Int32)) rfl gX11_clock_X11_within rfl dsc_X11_within ⟨rfl, rfl⟩ ⟨by decide, by decide⟩ rfl rfl (Nat.le_of_ble_eq_true rfl) dX11_clock_17 rfl h (fun r4 μ3 h => ?_)
    refine jr_if_eq (q := 23) (tgt := 32) C dX11_clock_20 (by decide) rfl (fun c7 => ?_) (fun c7 => ?_)
    · replace h := h.1 c7
      refine jr_ldc (q := 34) (v := (-1000002 : Int32)) C dX11_clock_32 mX11_clock_1 rfl ?_
      exact jr_iret C hr hk dX11_clock_34 h
    · replace h := h.2 c7
      refine jr_aload_n (q := 24) C 0 dX11_clock_23 rfl rfl rfl ?_
      refine jr_iload_n (q := 25) C 1 dX11_clock_24 rfl rfl rfl ?_
      refine jr_iload_n (q := 26) C 2 dX11_clock_25 rfl rfl rfl ?_
      refine jr_cvI (q := 29) (As := [.int p1, .int p2]) (rest := []) C (f := 26) (i := 0) (ci := 11) mf_26 rfl rfl rfl (kX11_clockOf l p1 p2) rfl gX11_clock_X11_clockOf rfl dsc_X11_clockOf ⟨rfl, rfl⟩ ⟨by decide, by decide⟩ rfl rfl (Nat.le_of_ble_eq_true rfl) dX11_clock_26 rfl h (fun r6 μ5 h => ?_)
      refine jr_goto (tgt := 34) C dX11_clock_29 (by decide) ?_
      exact jr_iret C hr hk dX11_clock_34 h
  · replace h := h.2 c8
    refine jr_ldc (q := 10) (v := (-1000001 : Int32)) C dX11_clock_8 mX11_clock_2 rfl ?_
    refine jr_goto (tgt := 34) C dX11_clock_10 (by decide) ?_
    exact jr_iret C hr hk dX11_clock_34 h
theorem nX11_delay_11 : ∀ w ∈ wsX110, w ∈ wsX11_delay := fun _ h => List.mem_cons_of_mem _ (List.mem_append_right _ h)
theorem mX11_delay_1 : Cond.fieldLink RX11 29 RX11 (TX11 8).2.1 (TX11 8).2.2.1 ∈ wsX11_delay := List.mem_of_getElem? (i := 3) (by decide +kernel)
theorem mX11_delay_2 : Cond.constant RX11 81 (-1000002) ∈ wsX11_delay := List.mem_of_getElem? (i := 2) (by decide +kernel)
theorem mX11_delay_3 : Cond.constant RX11 178 (-1000001) ∈ wsX11_delay := List.mem_of_getElem? (i := 1) (by decide +kernel)
theorem dsc_X11_delay : yX11_delay.cls ≠ "java/lang/invoke/MethodHandle" ∧ yX11_delay.cls ≠ "java/lang/invoke/VarHandle" ∧ (parseMethodDescriptor yX11_delay.desc).map (fun d => d.parameters.length) = some 2 := by decide +kernel
def pX11_delay (Po : Int32 → mm_T → Prop) (μ : mm_T) (p1 : Int32) (p2 : Int32) : Prop := pX11_isNode (fun r2 μ1 => (¬ r2 = 0 → pX11_within (fun r4 μ3 => (¬ r4 = 0 → (vp_in p1 7) ∧ (∀ x6 : Int32, x6 = μ3.1 33 0 p1.toNatClampNeg → ((vp_in p1 7) ∧ (∀ μ8 : mm_T, μ8 = mm_I μ3 33 0 p1.toNatClampNeg p2 → (Po x6 μ8))))) ∧ (r4 = 0 → Po (-1000002 : Int32) μ3)) μ1 p2 (10 : Int32) (300 : Int32)) ∧ (r2 = 0 → Po (-1000001 : Int32) μ1)) μ p1
set_option maxHeartbeats 4000000 in
set_option maxRecDepth 100000 in
theorem kX11_delay (l : Launch) (p1 : Int32) (p2 : Int32) : mm_CI l yX11_delay wsX11_delay ({ frames := 2, cells := 0, slots := 0, locals := 43 }) (fun z => [.ref (z + mm_ad 26 0), .int p1, .int p2]) (fun μ Po => pX11_delay Po μ p1 p2) := by
  refine je_I (cc := cX11_delay) (nL := 4) (own := RX11) (plainFor_of_name (by decide)) rfl rfl (fun _ => Nat.le_of_ble_eq_true rfl) ?_
  intro p e s m args below meth c D cy z μ Po C hr hk h
  change jJ p l e ({ frames := 2, cells := 0, slots := 0, locals := 43 }) s m args below meth c D cy z (MQ below (va_Qi Po (mm_Po D cy z) (mm_A z)) args s 0 0 (mm_A z)) 4 μ 0 [(0, .ref (z + mm_ad 26 0)), (1, .int p1), (2, .int p2)] []
  replace h : pX11_delay Po μ p1 p2 := h
  unfold pX11_delay at h
  refine jr_aload_n (q := 1) C 0 dX11_delay_0 rfl rfl rfl ?_
  refine jr_iload_n (q := 2) C 1 dX11_delay_1 rfl rfl rfl ?_
  refine jr_cvI (q := 5) (As := [.int p1]) (rest := []) C (f := 26) (i := 0) (ci := 11) mf_26 rfl rfl rfl (kX11_isNode l p1) rfl gX11_delay_X11_isNode rfl dsc_X11_isNode ⟨rfl, rfl⟩ ⟨by decide, by decide⟩ rfl rfl (Nat.le_of_ble_eq_true rfl) dX11_delay_2 rfl h (fun r2 μ1 h => ?_)
  refine jr_if_ne (q := 8) (tgt := 11) C dX11_delay_5 (by decide) rfl (fun c10 => ?_) (fun c10 => ?_)
  · replace h := h.1 c10
    refine jr_iload_n (q := 12) C 2 dX11_delay_11 rfl rfl rfl ?_
    refine jr_bipush (q := 14) (v := (10 : Int32)) C dX11_delay_12 (by decide) rfl ?_
    refine jr_sipush (q := 17) (v := (300 : Int32)) C dX11_delay_14 (by decide) rfl ?_
    refine jr_csI (q := 20) (As := [.int p2, .int (10 : Int32), .int (300 : Int32)]) (rest := []) C  (kX11_within l p2 (10 : Int32) (300 : Int32)) rfl gX11_delay_X11_within rfl dsc_X11_within ⟨rfl, rfl⟩ ⟨by decide, by decide⟩ rfl rfl (Nat.le_of_ble_eq_true rfl) dX11_delay_17 rfl h (fun r4 μ3 h => ?_)
    refine jr_if_ne (q := 23) (tgt := 26) C dX11_delay_20 (by decide) rfl (fun c9 => ?_) (fun c9 => ?_)
    · replace h := h.1 c9
      refine jr_aload_n (q := 27) C 0 dX11_delay_26 rfl rfl rfl ?_
      refine jr_getR (q := 30) (ci := 11) (Cn := RX11) (T := TX11) (N := 42) (j := 8) C mf_26 rfl rfl (by decide) rfl 33 0 rfl rfl rfl nX11_delay_11 mX11_delay_1 dX11_delay_27 rfl rfl ?_
      refine jr_iload_n (q := 31) C 1 dX11_delay_30 rfl rfl rfl ?_
      obtain ⟨g5, h⟩ := h
      refine jr_iald (q := 32) C mf_33 rfl g5 dX11_delay_31 rfl ?_
      refine jn_int (fun x6 ex6 => ?_)
      replace h := h x6 ex6
      refine jr_istore_n (q := 33) (lv' := [(3, .int x6), (0, .ref (z + mm_ad 26 0)), (1, .int p1), (2, .int p2)]) C dX11_delay_32 rfl (by decide) rfl rfl ?_
      refine jr_aload_n (q := 34) C 1 dX11_delay_33 rfl rfl rfl ?_
      refine jr_getR (q := 37) (ci := 11) (Cn := RX11) (T := TX11) (N := 42) (j := 8) C mf_26 rfl rfl (by decide) rfl 33 0 rfl rfl rfl nX11_delay_11 mX11_delay_1 dX11_delay_34 rfl rfl ?_
      refine jr_iload_n (q := 38) C 2 dX11_delay_37 rfl rfl rfl ?_
      refine jr_iload_n (q := 39) C 3 dX11_delay_38 rfl rfl rfl ?_
      obtain ⟨g7, h⟩ := h
      refine jr_iast (q := 40) C mf_33 rfl g7 dX11_delay_39 rfl ?_
      refine jn_mem (fun μ8 eμ8 => ?_)
      replace h := h μ8 eμ8
      refine jr_iload_n (q := 41) C 0 dX11_delay_40 rfl rfl rfl ?_
      exact jr_iret C hr hk dX11_delay_41 h
    · replace h := h.2 c9
      refine jr_ldc (q := 25) (v := (-1000002 : Int32)) C dX11_delay_23 mX11_delay_2 rfl ?_
      exact jr_iret C hr hk dX11_delay_25 h
  · replace h := h.2 c10
    refine jr_ldc (q := 10) (v := (-1000001 : Int32)) C dX11_delay_8 mX11_delay_3 rfl ?_
    exact jr_iret C hr hk dX11_delay_10 h
theorem dsc_X11_pairOf : yX11_pairOf.cls ≠ "java/lang/invoke/MethodHandle" ∧ yX11_pairOf.cls ≠ "java/lang/invoke/VarHandle" ∧ (parseMethodDescriptor yX11_pairOf.desc).map (fun d => d.parameters.length) = some 2 := by decide +kernel
def pX11_pairOf (Po : Int32 → mm_T → Prop) (μ : mm_T) (p1 : Int32) (p2 : Int32) : Prop := Po (((7 : Int32) * p1) + p2) μ
set_option maxHeartbeats 4000000 in
set_option maxRecDepth 100000 in
theorem kX11_pairOf (l : Launch) (p1 : Int32) (p2 : Int32) : mm_CI l yX11_pairOf wsX11_pairOf ({ frames := 0, cells := 0, slots := 0, locals := 0 }) (fun z => [.int p1, .int p2]) (fun μ Po => pX11_pairOf Po μ p1 p2) := by
  refine je_I (cc := cX11_pairOf) (nL := 2) (own := RX11) (plainFor_of_name (by decide)) rfl rfl (fun _ => Nat.le_of_ble_eq_true rfl) ?_
  intro p e s m args below meth c D cy z μ Po C hr hk h
  change jJ p l e ({ frames := 0, cells := 0, slots := 0, locals := 0 }) s m args below meth c D cy z (MQ below (va_Qi Po (mm_Po D cy z) (mm_A z)) args s 0 0 (mm_A z)) 2 μ 0 [(0, .int p1), (1, .int p2)] []
  replace h : pX11_pairOf Po μ p1 p2 := h
  unfold pX11_pairOf at h
  refine jr_bipush (q := 2) (v := (7 : Int32)) C dX11_pairOf_0 (by decide) rfl ?_
  refine jr_iload_n (q := 3) C 0 dX11_pairOf_2 rfl rfl rfl ?_
  refine jr_imul (q := 4) C dX11_pairOf_3 rfl ?_
  refine jr_iload_n (q := 5) C 1 dX11_pairOf_4 rfl rfl rfl ?_
  refine jr_iadd (q := 6) C dX11_pairOf_5 rfl ?_
  exact jr_iret C hr hk dX11_pairOf_6 h
theorem mX11_path_0 : Cond.constant RX11 81 (-1000002) ∈ wsX11_path := List.mem_of_getElem? (i := 2) (by decide +kernel)
theorem nX11_path_11 : ∀ w ∈ wsX110, w ∈ wsX11_path := fun _ h => List.mem_cons_of_mem _ (List.mem_append_right _ h)
theorem mX11_path_2 : Cond.fieldLink RX11 38 RX11 (TX11 11).2.1 (TX11 11).2.2.1 ∈ wsX11_path := List.mem_of_getElem? (i := 3) (by decide +kernel)
theorem mX11_path_3 : Cond.fieldLink RX11 41 RX11 (TX11 12).2.1 (TX11 12).2.2.1 ∈ wsX11_path := List.mem_of_getElem? (i := 5) (by decide +kernel)
theorem mX11_path_4 : Cond.fieldLink RX11 44 RX11 (TX11 13).2.1 (TX11 13).2.2.1 ∈ wsX11_path := List.mem_of_getElem? (i := 6) (by decide +kernel)
theorem mX11_path_5 : Cond.constant RX11 86 (-1000004) ∈ wsX11_path := List.mem_of_getElem? (i := 4) (by decide +kernel)
theorem mX11_path_6 : Cond.constant RX11 178 (-1000001) ∈ wsX11_path := List.mem_of_getElem? (i := 1) (by decide +kernel)
theorem dsc_X11_path : yX11_path.cls ≠ "java/lang/invoke/MethodHandle" ∧ yX11_path.cls ≠ "java/lang/invoke/VarHandle" ∧ (parseMethodDescriptor yX11_path.desc).map (fun d => d.parameters.length) = some 4 := by decide +kernel
def pX11_path (Po : Int32 → mm_T → Prop) (μ : mm_T) (p1 : Int32) (p2 : Int32) (p3 : Int32) (p4 : Int32) : Prop := pX11_isPair (fun r2 μ1 => (¬ r2 = 0 → pX11_within (fun r4 μ3 => (r4 = 0 → Po (-1000002 : Int32) μ3) ∧ (¬ (r4 = 0) → pX11_within (fun r6 μ5 => (¬ r6 = 0 → pX11_pairOf (fun r8 μ7 => (vp_in r8 49) ∧ ((¬ (μ7.1 36 0 r8.toNatClampNeg) = (6 : Int32) → (vp_in r8 49) ∧ ((vp_in (((6 : Int32) * r8) + (μ7.1 36 0 r8.toNatClampNeg)) 294) ∧ (∀ μ12 : mm_T, μ12 = mm_I μ7 37 0 (((6 : Int32) * r8) + (μ7.1 36 0 r8.toNatClampNeg)).toNatClampNeg p3 → ((vp_in r8 49) ∧ ((vp_in (((6 : Int32) * r8) + (μ12.1 36 0 r8.toNatClampNeg)) 294) ∧ (∀ μ15 : mm_T, μ15 = mm_I μ12 38 0 (((6 : Int32) * r8) + (μ12.1 36 0 r8.toNatClampNeg)).toNatClampNeg p4 → ((vp_in r8 49) ∧ ((vp_in r8 49) ∧ (∀ μ18 : mm_T, μ18 = mm_I μ15 36 0 r8.toNatClampNeg ((μ15.1 36 0 r8.toNatClampNeg) + (1 : Int32)) → ((vp_in r8 49) ∧ (Po (μ18.1 36 0 r8.toNatClampNeg) μ18))))))))))) ∧ ((μ7.1 36 0 r8.toNatClampNeg) = (6 : Int32) → Po (-1000004 : Int32) μ7))) μ5 p1 p2) ∧ (r6 = 0 → Po (-1000002 : Int32) μ5)) μ3 p4 (1 : Int32) (9 : Int32))) μ1 p3 (0 : Int32) (150 : Int32)) ∧ (r2 = 0 → Po (-1000001 : Int32) μ1)) μ p1 p2
set_option maxHeartbeats 4000000 in
set_option maxRecDepth 100000 in
theorem kX11_path (l : Launch) (p1 : Int32) (p2 : Int32) (p3 : Int32) (p4 : Int32) : mm_CI l yX11_path wsX11_path ({ frames := 3, cells := 0, slots := 0, locals := 65 }) (fun z => [.ref (z + mm_ad 26 0), .int p1, .int p2, .int p3, .int p4]) (fun μ Po => pX11_path Po μ p1 p2 p3 p4) := by
  refine je_I (cc := cX11_path) (nL := 6) (own := RX11) (plainFor_of_name (by decide)) rfl rfl (fun _ => Nat.le_of_ble_eq_true rfl) ?_
  intro p e s m args below meth c D cy z μ Po C hr hk h
  change jJ p l e ({ frames := 3, cells := 0, slots := 0, locals := 65 }) s m args below meth c D cy z (MQ below (va_Qi Po (mm_Po D cy z) (mm_A z)) args s 0 0 (mm_A z)) 6 μ 0 [(0, .ref (z + mm_ad 26 0)), (1, .int p1), (2, .int p2), (3, .int p3), (4, .int p4)] []
  replace h : pX11_path Po μ p1 p2 p3 p4 := h
  unfold pX11_path at h
  refine jr_aload_n (q := 1) C 0 dX11_path_0 rfl rfl rfl ?_
  refine jr_iload_n (q := 2) C 1 dX11_path_1 rfl rfl rfl ?_
  refine jr_iload_n (q := 3) C 2 dX11_path_2 rfl rfl rfl ?_
  refine jr_cvI (q := 6) (As := [.int p1, .int p2]) (rest := []) C (f := 26) (i := 0) (ci := 11) mf_26 rfl rfl rfl (kX11_isPair l p1 p2) rfl gX11_path_X11_isPair rfl dsc_X11_isPair ⟨rfl, rfl⟩ ⟨by decide, by decide⟩ rfl rfl (Nat.le_of_ble_eq_true rfl) dX11_path_3 rfl h (fun r2 μ1 h => ?_)
  refine jr_if_ne (q := 9) (tgt := 12) C dX11_path_6 (by decide) rfl (fun c23 => ?_) (fun c23 => ?_)
  · replace h := h.1 c23
    refine jr_iload_n (q := 13) C 3 dX11_path_12 rfl rfl rfl ?_
    refine jr_iconst (q := 14) (v := (0 : Int32)) C dX11_path_13 (by decide) rfl ?_
    refine jr_sipush (q := 17) (v := (150 : Int32)) C dX11_path_14 (by decide) rfl ?_
    refine jr_csI (q := 20) (As := [.int p3, .int (0 : Int32), .int (150 : Int32)]) (rest := []) C  (kX11_within l p3 (0 : Int32) (150 : Int32)) rfl gX11_path_X11_within rfl dsc_X11_within ⟨rfl, rfl⟩ ⟨by decide, by decide⟩ rfl rfl (Nat.le_of_ble_eq_true rfl) dX11_path_17 rfl h (fun r4 μ3 h => ?_)
    refine jr_if_eq (q := 23) (tgt := 34) C dX11_path_20 (by decide) rfl (fun c22 => ?_) (fun c22 => ?_)
    · replace h := h.1 c22
      refine jr_ldc (q := 36) (v := (-1000002 : Int32)) C dX11_path_34 mX11_path_0 rfl ?_
      exact jr_iret C hr hk dX11_path_36 h
    · replace h := h.2 c22
      refine jr_iload (q := 25) C 4 dX11_path_23 rfl rfl ?_
      refine jr_iconst (q := 26) (v := (1 : Int32)) C dX11_path_25 (by decide) rfl ?_
      refine jr_bipush (q := 28) (v := (9 : Int32)) C dX11_path_26 (by decide) rfl ?_
      refine jr_csI (q := 31) (As := [.int p4, .int (1 : Int32), .int (9 : Int32)]) (rest := []) C  (kX11_within l p4 (1 : Int32) (9 : Int32)) rfl gX11_path_X11_within rfl dsc_X11_within ⟨rfl, rfl⟩ ⟨by decide, by decide⟩ rfl rfl (Nat.le_of_ble_eq_true rfl) dX11_path_28 rfl h (fun r6 μ5 h => ?_)
      refine jr_if_ne (q := 34) (tgt := 37) C dX11_path_31 (by decide) rfl (fun c21 => ?_) (fun c21 => ?_)
      · replace h := h.1 c21
        refine jr_iload_n (q := 38) C 1 dX11_path_37 rfl rfl rfl ?_
        refine jr_iload_n (q := 39) C 2 dX11_path_38 rfl rfl rfl ?_
        refine jr_csI (q := 42) (As := [.int p1, .int p2]) (rest := []) C  (kX11_pairOf l p1 p2) rfl gX11_path_X11_pairOf rfl dsc_X11_pairOf ⟨rfl, rfl⟩ ⟨by decide, by decide⟩ rfl rfl (Nat.le_of_ble_eq_true rfl) dX11_path_39 rfl h (fun r8 μ7 h => ?_)
        refine jr_istore (q := 44) (lv' := [(5, .int r8), (0, .ref (z + mm_ad 26 0)), (1, .int p1), (2, .int p2), (3, .int p3), (4, .int p4)]) C dX11_path_42 (by decide) rfl rfl ?_
        refine jr_aload_n (q := 45) C 1 dX11_path_44 rfl rfl rfl ?_
        refine jr_getR (q := 48) (ci := 11) (Cn := RX11) (T := TX11) (N := 42) (j := 11) C mf_26 rfl rfl (by decide) rfl 36 0 rfl rfl rfl nX11_path_11 mX11_path_2 dX11_path_45 rfl rfl ?_
        refine jr_iload (q := 50) C 0 dX11_path_48 rfl rfl ?_
        obtain ⟨g9, h⟩ := h
        refine jr_iald (q := 51) C mf_36 rfl g9 dX11_path_50 rfl ?_
        refine jr_bipush (q := 53) (v := (6 : Int32)) C dX11_path_51 (by decide) rfl ?_
        refine jr_icmp_ne (q := 56) (tgt := 59) C dX11_path_53 (by decide) rfl (fun c20 => ?_) (fun c20 => ?_)
        · replace h := h.1 c20
          refine jr_aload_n (q := 60) C 1 dX11_path_59 rfl rfl rfl ?_
          refine jr_getR (q := 63) (ci := 11) (Cn := RX11) (T := TX11) (N := 42) (j := 12) C mf_26 rfl rfl (by decide) rfl 37 0 rfl rfl rfl nX11_path_11 mX11_path_3 dX11_path_60 rfl rfl ?_
          refine jr_bipush (q := 65) (v := (6 : Int32)) C dX11_path_63 (by decide) rfl ?_
          refine jr_iload (q := 67) C 0 dX11_path_65 rfl rfl ?_
          refine jr_imul (q := 68) C dX11_path_67 rfl ?_
          refine jr_aload_n (q := 69) C 1 dX11_path_68 rfl rfl rfl ?_
          refine jr_getR (q := 72) (ci := 11) (Cn := RX11) (T := TX11) (N := 42) (j := 11) C mf_26 rfl rfl (by decide) rfl 36 0 rfl rfl rfl nX11_path_11 mX11_path_2 dX11_path_69 rfl rfl ?_
          refine jr_iload (q := 74) C 0 dX11_path_72 rfl rfl ?_
          obtain ⟨g10, h⟩ := h
          refine jr_iald (q := 75) C mf_36 rfl g10 dX11_path_74 rfl ?_
          refine jr_iadd (q := 76) C dX11_path_75 rfl ?_
          refine jr_iload_n (q := 77) C 4 dX11_path_76 rfl rfl rfl ?_
          obtain ⟨g11, h⟩ := h
          refine jr_iast (q := 78) C mf_37 rfl g11 dX11_path_77 rfl ?_
          refine jn_mem (fun μ12 eμ12 => ?_)
          replace h := h μ12 eμ12
          refine jr_aload_n (q := 79) C 1 dX11_path_78 rfl rfl rfl ?_
          refine jr_getR (q := 82) (ci := 11) (Cn := RX11) (T := TX11) (N := 42) (j := 13) C mf_26 rfl rfl (by decide) rfl 38 0 rfl rfl rfl nX11_path_11 mX11_path_4 dX11_path_79 rfl rfl ?_
          refine jr_bipush (q := 84) (v := (6 : Int32)) C dX11_path_82 (by decide) rfl ?_
          refine jr_iload (q := 86) C 0 dX11_path_84 rfl rfl ?_
          refine jr_imul (q := 87) C dX11_path_86 rfl ?_
          refine jr_aload_n (q := 88) C 1 dX11_path_87 rfl rfl rfl ?_
          refine jr_getR (q := 91) (ci := 11) (Cn := RX11) (T := TX11) (N := 42) (j := 11) C mf_26 rfl rfl (by decide) rfl 36 0 rfl rfl rfl nX11_path_11 mX11_path_2 dX11_path_88 rfl rfl ?_
          refine jr_iload (q := 93) C 0 dX11_path_91 rfl rfl ?_
          obtain ⟨g13, h⟩ := h
          refine jr_iald (q := 94) C mf_36 rfl g13 dX11_path_93 rfl ?_
          refine jr_iadd (q := 95) C dX11_path_94 rfl ?_
          refine jr_iload (q := 97) C 5 dX11_path_95 rfl rfl ?_
          obtain ⟨g14, h⟩ := h
          refine jr_iast (q := 98) C mf_38 rfl g14 dX11_path_97 rfl ?_
          refine jn_mem (fun μ15 eμ15 => ?_)
          replace h := h μ15 eμ15
          refine jr_aload_n (q := 99) C 1 dX11_path_98 rfl rfl rfl ?_
          refine jr_getR (q := 102) (ci := 11) (Cn := RX11) (T := TX11) (N := 42) (j := 11) C mf_26 rfl rfl (by decide) rfl 36 0 rfl rfl rfl nX11_path_11 mX11_path_2 dX11_path_99 rfl rfl ?_
          refine jr_iload (q := 104) C 0 dX11_path_102 rfl rfl ?_
          refine jr_dup2 (q := 105) C dX11_path_104 rfl rfl rfl ?_
          obtain ⟨g16, h⟩ := h
          refine jr_iald (q := 106) C mf_36 rfl g16 dX11_path_105 rfl ?_
          refine jr_iconst (q := 107) (v := (1 : Int32)) C dX11_path_106 (by decide) rfl ?_
          refine jr_iadd (q := 108) C dX11_path_107 rfl ?_
          obtain ⟨g17, h⟩ := h
          refine jr_iast (q := 109) C mf_36 rfl g17 dX11_path_108 rfl ?_
          refine jn_mem (fun μ18 eμ18 => ?_)
          replace h := h μ18 eμ18
          refine jr_aload_n (q := 110) C 1 dX11_path_109 rfl rfl rfl ?_
          refine jr_getR (q := 113) (ci := 11) (Cn := RX11) (T := TX11) (N := 42) (j := 11) C mf_26 rfl rfl (by decide) rfl 36 0 rfl rfl rfl nX11_path_11 mX11_path_2 dX11_path_110 rfl rfl ?_
          refine jr_iload (q := 115) C 0 dX11_path_113 rfl rfl ?_
          obtain ⟨g19, h⟩ := h
          refine jr_iald (q := 116) C mf_36 rfl g19 dX11_path_115 rfl ?_
          exact jr_iret C hr hk dX11_path_116 h
        · replace h := h.2 c20
          refine jr_ldc (q := 58) (v := (-1000004 : Int32)) C dX11_path_56 mX11_path_5 rfl ?_
          exact jr_iret C hr hk dX11_path_58 h
      · replace h := h.2 c21
        refine jr_ldc (q := 36) (v := (-1000002 : Int32)) C dX11_path_34 mX11_path_0 rfl ?_
        exact jr_iret C hr hk dX11_path_36 h
  · replace h := h.2 c23
    refine jr_ldc (q := 11) (v := (-1000001 : Int32)) C dX11_path_9 mX11_path_6 rfl ?_
    exact jr_iret C hr hk dX11_path_11 h
