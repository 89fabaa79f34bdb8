theorem nX8_nodeCount_8 : ∀ w ∈ wsX80, w ∈ wsX8_nodeCount := fun _ h => List.mem_cons_of_mem _ (List.mem_append_right _ h)
theorem mX8_nodeCount_1 : Cond.fieldLink RX8 16 RX8 (TX8 1).2.1 (TX8 1).2.2.1 ∈ wsX8_nodeCount := List.mem_of_getElem? (i := 1) (by decide +kernel)
theorem dsc_X8_nodeCount : yX8_nodeCount.cls ≠ "java/lang/invoke/MethodHandle" ∧ yX8_nodeCount.cls ≠ "java/lang/invoke/VarHandle" ∧ (parseMethodDescriptor yX8_nodeCount.desc).map (fun d => d.parameters.length) = some 0 := by decide +kernel
def pX8_nodeCount (Po : Int32 → mm_T → Prop) (μ : mm_T) : Prop := Po ((μ.1 3 0 1) + (1 : Int32)) μ
set_option maxHeartbeats 4000000 in
set_option maxRecDepth 100000 in
theorem kX8_nodeCount (l : Launch) : mm_CI l yX8_nodeCount wsX8_nodeCount ({ frames := 0, cells := 0, slots := 0, locals := 0 }) (fun z => [.ref (z + mm_ad 3 0)]) (fun μ Po => pX8_nodeCount Po μ) := by
  refine je_I (cc := cX8_nodeCount) (nL := 1) (own := RX8) (plainFor_of_name (by decide)) rfl rfl (fun _ => Nat.le_of_ble_eq_true rfl) ?_
  intro p e s m args below meth c D cy z μ Po C hr hk h
  change jJ p l e ({ frames := 0, cells := 0, slots := 0, locals := 0 }) s m args below meth c D cy z (MQ below (va_Qi Po (mm_Po D cy z) (mm_A z)) args s 0 0 (mm_A z)) 1 μ 0 [(0, .ref (z + mm_ad 3 0))] []
  replace h : pX8_nodeCount Po μ := h
  unfold pX8_nodeCount at h
  refine jr_aload_n (q := 1) C 0 dX8_nodeCount_0 rfl rfl rfl ?_
  refine jr_getI (q := 4) (ci := 8) (Cn := RX8) (T := TX8) (N := 6) (j := 1) C mf_3 rfl rfl (by decide) rfl rfl nX8_nodeCount_8 mX8_nodeCount_1 dX8_nodeCount_1 rfl rfl ?_
  refine jr_iconst (q := 5) (v := (1 : Int32)) C dX8_nodeCount_4 (by decide) rfl ?_
  refine jr_iadd (q := 6) C dX8_nodeCount_5 rfl ?_
  exact jr_iret C hr hk dX8_nodeCount_6 h
theorem nX5_begin_5 : ∀ w ∈ wsX50, w ∈ wsX5_begin := fun _ h => List.mem_cons_of_mem _ (List.mem_append_right _ h)
theorem mX5_begin_1 : Cond.fieldLink RX5 9 RX5 (TX5 0).2.1 (TX5 0).2.2.1 ∈ wsX5_begin := List.mem_of_getElem? (i := 1) (by decide +kernel)
theorem mX5_begin_2 : Cond.fieldLink RX5 15 RX5 (TX5 1).2.1 (TX5 1).2.2.1 ∈ wsX5_begin := List.mem_of_getElem? (i := 2) (by decide +kernel)
theorem mX5_begin_3 : Cond.fieldLink RX5 19 RX5 (TX5 2).2.1 (TX5 2).2.2.1 ∈ wsX5_begin := List.mem_of_getElem? (i := 3) (by decide +kernel)
theorem mX5_begin_4 : Cond.fieldLink RX5 22 RX5 (TX5 3).2.1 (TX5 3).2.2.1 ∈ wsX5_begin := List.mem_of_getElem? (i := 4) (by decide +kernel)
theorem mX5_begin_5 : Cond.fieldLink RX5 25 RX5 (TX5 4).2.1 (TX5 4).2.2.1 ∈ wsX5_begin := List.mem_of_getElem? (i := 5) (by decide +kernel)
theorem mX5_begin_6 : Cond.fieldLink RX5 28 RX5 (TX5 5).2.1 (TX5 5).2.2.1 ∈ wsX5_begin := List.mem_of_getElem? (i := 6) (by decide +kernel)
theorem mX5_begin_7 : Cond.fieldLink RX5 31 RX5 (TX5 6).2.1 (TX5 6).2.2.1 ∈ wsX5_begin := List.mem_of_getElem? (i := 7) (by decide +kernel)
theorem dsc_X5_begin : yX5_begin.cls ≠ "java/lang/invoke/MethodHandle" ∧ yX5_begin.cls ≠ "java/lang/invoke/VarHandle" ∧ (parseMethodDescriptor yX5_begin.desc).map (fun d => d.parameters.length) = some 1 := by decide +kernel
def pX5_begin_b13 (Po : mm_T → Prop) (μ : mm_T) (a0 : Nat) (a1 : Nat) (as0 : Int32) (as1 : Nat) : Prop := (as1 < 7) ∧ ((as0 = 0 ∨ as0 = 1) ∧ (∀ μ4 : mm_T, μ4 = mm_I μ 9 as1 0 as0 → ((a1 < 7) ∧ ((vp_in (1 : Int32) 5) ∧ ((a0 < 7) ∧ (∀ μ8 : mm_T, μ8 = mm_I μ4 9 a0 1 (μ4.1 5 a1 (1 : Int32).toNatClampNeg) → ((vp_in (2 : Int32) 5) ∧ (∀ μ10 : mm_T, μ10 = mm_I μ8 9 a0 2 (μ8.1 5 a1 (2 : Int32).toNatClampNeg) → ((vp_in (3 : Int32) 5) ∧ (∀ μ12 : mm_T, μ12 = mm_I μ10 9 a0 3 (μ10.1 5 a1 (3 : Int32).toNatClampNeg) → ((vp_in (4 : Int32) 5) ∧ (∀ μ14 : mm_T, μ14 = mm_I μ12 9 a0 4 (μ12.1 5 a1 (4 : Int32).toNatClampNeg) → (∀ μ15 : mm_T, μ15 = mm_I μ14 9 a0 5 (100 : Int32) → (((μ15.1 9 a0 0) = 0 → ∀ μ16 : mm_T, μ16 = mm_I μ15 9 a0 6 (-1 : Int32) → (Po μ16)) ∧ (¬ ((μ15.1 9 a0 0) = 0) → ∀ μ17 : mm_T, μ17 = mm_I μ15 9 a0 6 (0 : Int32) → (Po μ17))))))))))))))))
def pX5_begin (Po : mm_T → Prop) (μ : mm_T) (i0 : Nat) (i1 : Nat) : Prop := i0 < 7 ∧ (i1 < 7 ∧ ((vp_in (0 : Int32) 5) ∧ ((¬ (μ.1 5 i1 (0 : Int32).toNatClampNeg) = (1 : Int32) → pX5_begin_b13 Po μ i0 i1 (0 : Int32) i0) ∧ ((μ.1 5 i1 (0 : Int32).toNatClampNeg) = (1 : Int32) → pX5_begin_b13 Po μ i0 i1 (1 : Int32) i0))))
set_option maxHeartbeats 4000000 in
set_option maxRecDepth 100000 in
theorem kX5_begin (l : Launch) (i0 : Nat) (i1 : Nat) : mm_CV l yX5_begin wsX5_begin ({ frames := 0, cells := 0, slots := 0, locals := 0 }) (fun z => [.ref (z + mm_ad 9 i0), .ref (z + mm_ad 5 i1)]) (fun μ Po => pX5_begin Po μ i0 i1) := by
  refine je_V (cc := cX5_begin) (nL := 2) (own := RX5) (plainFor_of_name (by decide)) rfl rfl (fun _ => Nat.le_of_ble_eq_true rfl) ?_
  intro p e s m args below meth c D cy z μ Po C hr hk h
  change jJ p l e ({ frames := 0, cells := 0, slots := 0, locals := 0 }) s m args below meth c D cy z (MQ below (va_Qv Po (mm_Po D cy z) (mm_A z)) args s 0 0 (mm_A z)) 2 μ 0 [(0, .ref (z + mm_ad 9 i0)), (1, .ref (z + mm_ad 5 i1))] []
  replace h : pX5_begin Po μ i0 i1 := h
  unfold pX5_begin at h
  obtain ⟨hi_i0, h⟩ := h
  obtain ⟨hi_i1, h⟩ := h
  refine jr_aload_n (q := 1) C 0 dX5_begin_0 rfl rfl rfl ?_
  refine jr_aload_n (q := 2) C 1 dX5_begin_1 rfl rfl rfl ?_
  refine jr_iconst (q := 3) (v := (0 : Int32)) C dX5_begin_2 (by decide) rfl ?_
  obtain ⟨g1, h⟩ := h
  refine jr_iald (q := 4) C hi_i1 rfl g1 dX5_begin_3 rfl ?_
  refine jr_iconst (q := 5) (v := (1 : Int32)) C dX5_begin_4 (by decide) rfl ?_
  have b13 : ∀ (μ : mm_T) (a0 : Nat) (a1 : Nat) (as0 : Int32) (as1 : Nat), pX5_begin_b13 Po μ a0 a1 as0 as1 → jJ p l e ({ frames := 0, cells := 0, slots := 0, locals := 0 }) s m args below meth c D cy z (MQ below (va_Qv Po (mm_Po D cy z) (mm_A z)) args s 0 0 (mm_A z)) 2 μ 13 [(0, .ref (z + mm_ad 9 a0)), (1, .ref (z + mm_ad 5 a1))] [.int as0, .ref (z + mm_ad 9 as1)] := by
    intro μ a0 a1 as0 as1 h
    unfold pX5_begin_b13 at h
    obtain ⟨g2, h⟩ := h
    obtain ⟨g3, h⟩ := h
    refine jr_putZ (q := 16) (ci := 5) (Cn := RX5) (T := TX5) (N := 8) (j := 0) C g2 rfl rfl (by decide) rfl g3 rfl tyX5 tyX5_ok nmX5 rfl (by decide +kernel) nX5_begin_5 mX5_begin_1 dX5_begin_13 rfl rfl ?_
    refine jn_mem (fun μ4 eμ4 => ?_)
    replace h := h μ4 eμ4
    refine jr_aload_n (q := 17) C 0 dX5_begin_16 rfl rfl rfl ?_
    refine jr_aload_n (q := 18) C 1 dX5_begin_17 rfl rfl rfl ?_
    refine jr_iconst (q := 19) (v := (1 : Int32)) C dX5_begin_18 (by decide) rfl ?_
    obtain ⟨g5, h⟩ := h
    obtain ⟨g6, h⟩ := h
    refine jr_iald (q := 20) C g5 rfl g6 dX5_begin_19 rfl ?_
    obtain ⟨g7, h⟩ := h
    refine jr_putI (q := 23) (ci := 5) (Cn := RX5) (T := TX5) (N := 8) (j := 1) C g7 rfl rfl (by decide) rfl rfl tyX5 tyX5_ok nmX5 rfl (by decide +kernel) nX5_begin_5 mX5_begin_2 dX5_begin_20 rfl rfl ?_
    refine jn_mem (fun μ8 eμ8 => ?_)
    replace h := h μ8 eμ8
    refine jr_aload_n (q := 24) C 0 dX5_begin_23 rfl rfl rfl ?_
    refine jr_aload_n (q := 25) C 1 dX5_begin_24 rfl rfl rfl ?_
    refine jr_iconst (q := 26) (v := (2 : Int32)) C dX5_begin_25 (by decide) rfl ?_
    obtain ⟨g9, h⟩ := h
    refine jr_iald (q := 27) C g5 rfl g9 dX5_begin_26 rfl ?_
    refine jr_putI (q := 30) (ci := 5) (Cn := RX5) (T := TX5) (N := 8) (j := 2) C g7 rfl rfl (by decide) rfl rfl tyX5 tyX5_ok nmX5 rfl (by decide +kernel) nX5_begin_5 mX5_begin_3 dX5_begin_27 rfl rfl ?_
    refine jn_mem (fun μ10 eμ10 => ?_)
    replace h := h μ10 eμ10
    refine jr_aload_n (q := 31) C 0 dX5_begin_30 rfl rfl rfl ?_
    refine jr_aload_n (q := 32) C 1 dX5_begin_31 rfl rfl rfl ?_
    refine jr_iconst (q := 33) (v := (3 : Int32)) C dX5_begin_32 (by decide) rfl ?_
    obtain ⟨g11, h⟩ := h
    refine jr_iald (q := 34) C g5 rfl g11 dX5_begin_33 rfl ?_
    refine jr_putI (q := 37) (ci := 5) (Cn := RX5) (T := TX5) (N := 8) (j := 3) C g7 rfl rfl (by decide) rfl rfl tyX5 tyX5_ok nmX5 rfl (by decide +kernel) nX5_begin_5 mX5_begin_4 dX5_begin_34 rfl rfl ?_
    refine jn_mem (fun μ12 eμ12 => ?_)
    replace h := h μ12 eμ12
    refine jr_aload_n (q := 38) C 0 dX5_begin_37 rfl rfl rfl ?_
    refine jr_aload_n (q := 39) C 1 dX5_begin_38 rfl rfl rfl ?_
    refine jr_iconst (q := 40) (v := (4 : Int32)) C dX5_begin_39 (by decide) rfl ?_
    obtain ⟨g13, h⟩ := h
    refine jr_iald (q := 41) C g5 rfl g13 dX5_begin_40 rfl ?_
    refine jr_putI (q := 44) (ci := 5) (Cn := RX5) (T := TX5) (N := 8) (j := 4) C g7 rfl rfl (by decide) rfl rfl tyX5 tyX5_ok nmX5 rfl (by decide +kernel) nX5_begin_5 mX5_begin_5 dX5_begin_41 rfl rfl ?_
    refine jn_mem (fun μ14 eμ14 => ?_)
    replace h := h μ14 eμ14
    refine jr_aload_n (q := 45) C 0 dX5_begin_44 rfl rfl rfl ?_
    refine jr_bipush (q := 47) (v := (100 : Int32)) C dX5_begin_45 (by decide) rfl ?_
    refine jr_putI (q := 50) (ci := 5) (Cn := RX5) (T := TX5) (N := 8) (j := 5) C g7 rfl rfl (by decide) rfl rfl tyX5 tyX5_ok nmX5 rfl (by decide +kernel) nX5_begin_5 mX5_begin_6 dX5_begin_47 rfl rfl ?_
    refine jn_mem (fun μ15 eμ15 => ?_)
    replace h := h μ15 eμ15
    refine jr_aload_n (q := 51) C 0 dX5_begin_50 rfl rfl rfl ?_
    refine jr_aload_n (q := 52) C 0 dX5_begin_51 rfl rfl rfl ?_
    refine jr_getI (q := 55) (ci := 5) (Cn := RX5) (T := TX5) (N := 8) (j := 0) C g7 rfl rfl (by decide) rfl rfl nX5_begin_5 mX5_begin_1 dX5_begin_52 rfl rfl ?_
    refine jr_if_eq (q := 58) (tgt := 62) C dX5_begin_55 (by decide) rfl (fun c18 => ?_) (fun c18 => ?_)
    · replace h := h.1 c18
      refine jr_iconst (q := 63) (v := (-1 : Int32)) C dX5_begin_62 (by decide) rfl ?_
      refine jr_putI (q := 66) (ci := 5) (Cn := RX5) (T := TX5) (N := 8) (j := 6) C g7 rfl rfl (by decide) rfl rfl tyX5 tyX5_ok nmX5 rfl (by decide +kernel) nX5_begin_5 mX5_begin_7 dX5_begin_63 rfl rfl ?_
      refine jn_mem (fun μ16 eμ16 => ?_)
      replace h := h μ16 eμ16
      exact jr_vret C hr hk dX5_begin_66 h
    · replace h := h.2 c18
      refine jr_iconst (q := 59) (v := (0 : Int32)) C dX5_begin_58 (by decide) rfl ?_
      refine jr_goto (tgt := 63) C dX5_begin_59 (by decide) ?_
      refine jr_putI (q := 66) (ci := 5) (Cn := RX5) (T := TX5) (N := 8) (j := 6) C g7 rfl rfl (by decide) rfl rfl tyX5 tyX5_ok nmX5 rfl (by decide +kernel) nX5_begin_5 mX5_begin_7 dX5_begin_63 rfl rfl ?_
      refine jn_mem (fun μ17 eμ17 => ?_)
      replace h := h μ17 eμ17
      exact jr_vret C hr hk dX5_begin_66 h
  refine jr_icmp_ne (q := 8) (tgt := 12) C dX5_begin_5 (by decide) rfl (fun c19 => ?_) (fun c19 => ?_)
  · replace h := h.1 c19
    refine jr_iconst (q := 13) (v := (0 : Int32)) C dX5_begin_12 (by decide) rfl ?_
    refine jr_sub [0, 1] rfl ?_
    exact b13 _ _ _ _ _ h
  · replace h := h.2 c19
    refine jr_iconst (q := 9) (v := (1 : Int32)) C dX5_begin_8 (by decide) rfl ?_
    refine jr_goto (tgt := 13) C dX5_begin_9 (by decide) ?_
    refine jr_sub [0, 1] rfl ?_
    exact b13 _ _ _ _ _ h
theorem nX0_has_0 : ∀ w ∈ wsX00, w ∈ wsX0_has := fun _ h => List.mem_cons_of_mem _ (List.mem_append_right _ h)
theorem mX0_has_1 : Cond.fieldLink RX0 68 RX0 (TX0 1).2.1 (TX0 1).2.2.1 ∈ wsX0_has := List.mem_of_getElem? (i := 1) (by decide +kernel)
theorem dsc_X0_has : yX0_has.cls ≠ "java/lang/invoke/MethodHandle" ∧ yX0_has.cls ≠ "java/lang/invoke/VarHandle" ∧ (parseMethodDescriptor yX0_has.desc).map (fun d => d.parameters.length) = some 1 := by decide +kernel
def pX0_has (Po : Int32 → mm_T → Prop) (μ : mm_T) (p1 : Int32) : Prop := (p1 < 0 → Po (0 : Int32) μ) ∧ (¬ (p1 < 0) → ((μ.1 6 0 1) ≤ p1 → Po (0 : Int32) μ) ∧ (¬ ((μ.1 6 0 1) ≤ p1) → Po (1 : Int32) μ))
set_option maxHeartbeats 4000000 in
set_option maxRecDepth 100000 in
theorem kX0_has (l : Launch) (p1 : Int32) : mm_CI l yX0_has wsX0_has ({ frames := 0, cells := 0, slots := 0, locals := 0 }) (fun z => [.ref (z + mm_ad 6 0), .int p1]) (fun μ Po => pX0_has Po μ p1) := by
  refine je_Z (cc := cX0_has) (nL := 2) (own := RX0) (plainFor_of_name (by decide)) rfl rfl (fun _ => Nat.le_of_ble_eq_true rfl) ?_
  intro p e s m args below meth c D cy z μ Po C hr hk h
  change jJ p l e ({ frames := 0, cells := 0, slots := 0, locals := 0 }) s m args below meth c D cy z (MQ below (va_Qi Po (mm_Po D cy z) (mm_A z)) args s 0 0 (mm_A z)) 2 μ 0 [(0, .ref (z + mm_ad 6 0)), (1, .int p1)] []
  replace h : pX0_has Po μ p1 := h
  unfold pX0_has at h
  refine jr_iload_n (q := 1) C 1 dX0_has_0 rfl rfl rfl ?_
  refine jr_if_lt (q := 4) (tgt := 16) C dX0_has_1 (by decide) rfl (fun c2 => ?_) (fun c2 => ?_)
  · replace h := h.1 c2
    refine jr_iconst (q := 17) (v := (0 : Int32)) C dX0_has_16 (by decide) rfl ?_
    exact jr_zret C hr hk dX0_has_17 (by decide) h
  · replace h := h.2 c2
    refine jr_iload_n (q := 5) C 1 dX0_has_4 rfl rfl rfl ?_
    refine jr_aload_n (q := 6) C 0 dX0_has_5 rfl rfl rfl ?_
    refine jr_getI (q := 9) (ci := 0) (Cn := RX0) (T := TX0) (N := 11) (j := 1) C mf_6 rfl rfl (by decide) rfl rfl nX0_has_0 mX0_has_1 dX0_has_6 rfl rfl ?_
    refine jr_icmp_ge (q := 12) (tgt := 16) C dX0_has_9 (by decide) rfl (fun c1 => ?_) (fun c1 => ?_)
    · replace h := h.1 c1
      refine jr_iconst (q := 17) (v := (0 : Int32)) C dX0_has_16 (by decide) rfl ?_
      exact jr_zret C hr hk dX0_has_17 (by decide) h
    · replace h := h.2 c1
      refine jr_iconst (q := 13) (v := (1 : Int32)) C dX0_has_12 (by decide) rfl ?_
      refine jr_goto (tgt := 17) C dX0_has_13 (by decide) ?_
      exact jr_zret C hr hk dX0_has_17 (by decide) h
theorem nX0_isAnchor_0 : ∀ w ∈ wsX00, w ∈ wsX0_isAnchor := fun _ h => List.mem_cons_of_mem _ (List.mem_append_left _ (List.mem_append_right _ h))
theorem mX0_isAnchor_1 : Cond.fieldLink RX0 11 RX0 (TX0 0).2.1 (TX0 0).2.2.1 ∈ wsX0_isAnchor := List.mem_of_getElem? (i := 1) (by decide +kernel)
theorem nX0_isAnchor_5 : ∀ w ∈ wsX50, w ∈ wsX0_isAnchor := fun _ h => List.mem_cons_of_mem _ (List.mem_append_right _ h)
theorem mX0_isAnchor_3 : Cond.fieldLink RX0 80 RX5 (TX5 0).2.1 (TX5 0).2.2.1 ∈ wsX0_isAnchor := List.mem_of_getElem? (i := 2) (by decide +kernel)
theorem dsc_X0_isAnchor : yX0_isAnchor.cls ≠ "java/lang/invoke/MethodHandle" ∧ yX0_isAnchor.cls ≠ "java/lang/invoke/VarHandle" ∧ (parseMethodDescriptor yX0_isAnchor.desc).map (fun d => d.parameters.length) = some 1 := by decide +kernel
def pX0_isAnchor (Po : Int32 → mm_T → Prop) (μ : mm_T) (p1 : Int32) : Prop := pX0_has (fun r2 μ1 => (r2 = 0 → Po (0 : Int32) μ1) ∧ (¬ (r2 = 0) → (vp_in p1 7) ∧ ((¬ (μ1.1 9 p1.toNatClampNeg 0) = 0 → Po (0 : Int32) μ1) ∧ ((μ1.1 9 p1.toNatClampNeg 0) = 0 → Po (1 : Int32) μ1)))) μ p1
set_option maxHeartbeats 4000000 in
set_option maxRecDepth 100000 in
theorem kX0_isAnchor (l : Launch) (p1 : Int32) : mm_CI l yX0_isAnchor wsX0_isAnchor ({ frames := 1, cells := 0, slots := 0, locals := 21 }) (fun z => [.ref (z + mm_ad 6 0), .int p1]) (fun μ Po => pX0_isAnchor Po μ p1) := by
  refine je_Z (cc := cX0_isAnchor) (nL := 2) (own := RX0) (plainFor_of_name (by decide)) rfl rfl (fun _ => Nat.le_of_ble_eq_true rfl) ?_
  intro p e s m args below meth c D cy z μ Po C hr hk h
  change jJ p l e ({ frames := 1, cells := 0, slots := 0, locals := 21 }) s m args below meth c D cy z (MQ below (va_Qi Po (mm_Po D cy z) (mm_A z)) args s 0 0 (mm_A z)) 2 μ 0 [(0, .ref (z + mm_ad 6 0)), (1, .int p1)] []
  replace h : pX0_isAnchor Po μ p1 := h
  unfold pX0_isAnchor at h
  refine jr_aload_n (q := 1) C 0 dX0_isAnchor_0 rfl rfl rfl ?_
  refine jr_iload_n (q := 2) C 1 dX0_isAnchor_1 rfl rfl rfl ?_
  refine jr_cvI (q := 5) (As := [.int p1]) (rest := []) C (f := 6) (i := 0) (ci := 0) mf_6 rfl rfl rfl (kX0_has l p1) rfl gX0_isAnchor_X0_has rfl dsc_X0_has ⟨rfl, rfl⟩ ⟨by decide, by decide⟩ rfl rfl (Nat.le_of_ble_eq_true rfl) dX0_isAnchor_2 rfl h (fun r2 μ1 h => ?_)
  refine jr_if_eq (q := 8) (tgt := 24) C dX0_isAnchor_5 (by decide) rfl (fun c5 => ?_) (fun c5 => ?_)
  · replace h := h.1 c5
    refine jr_iconst (q := 25) (v := (0 : Int32)) C dX0_isAnchor_24 (by decide) rfl ?_
    exact jr_zret C hr hk dX0_isAnchor_25 (by decide) h
  · replace h := h.2 c5
    refine jr_aload_n (q := 9) C 0 dX0_isAnchor_8 rfl rfl rfl ?_
    refine jr_getR (q := 12) (ci := 0) (Cn := RX0) (T := TX0) (N := 11) (j := 0) C mf_6 rfl rfl (by decide) rfl 7 0 rfl rfl rfl nX0_isAnchor_0 mX0_isAnchor_1 dX0_isAnchor_9 rfl rfl ?_
    refine jr_iload_n (q := 13) C 1 dX0_isAnchor_12 rfl rfl rfl ?_
    obtain ⟨g3, h⟩ := h
    refine jr_aald (q := 14) (t := 1) C mf_7 9 (fun _ => rfl) (fun _ _ => rfl) rfl (by decide) g3 dX0_isAnchor_13 rfl ?_
    refine jr_getI (q := 17) (ci := 5) (Cn := RX5) (T := TX5) (N := 8) (j := 0) C (mm_lt g3) rfl rfl (by decide) rfl rfl nX0_isAnchor_5 mX0_isAnchor_3 dX0_isAnchor_14 rfl rfl ?_
    refine jr_if_ne (q := 20) (tgt := 24) C dX0_isAnchor_17 (by decide) rfl (fun c4 => ?_) (fun c4 => ?_)
    · replace h := h.1 c4
      refine jr_iconst (q := 25) (v := (0 : Int32)) C dX0_isAnchor_24 (by decide) rfl ?_
      exact jr_zret C hr hk dX0_isAnchor_25 (by decide) h
    · replace h := h.2 c4
      refine jr_iconst (q := 21) (v := (1 : Int32)) C dX0_isAnchor_20 (by decide) rfl ?_
      refine jr_goto (tgt := 25) C dX0_isAnchor_21 (by decide) ?_
      exact jr_zret C hr hk dX0_isAnchor_25 (by decide) h
theorem nX0_anchorFrom_0 : ∀ w ∈ wsX00, w ∈ wsX0_anchorFrom := fun _ h => List.mem_cons_of_mem _ (List.mem_append_left _ (List.mem_append_right _ h))
theorem mX0_anchorFrom_1 : Cond.fieldLink RX0 68 RX0 (TX0 1).2.1 (TX0 1).2.2.1 ∈ wsX0_anchorFrom := List.mem_of_getElem? (i := 1) (by decide +kernel)
theorem dsc_X0_anchorFrom : yX0_anchorFrom.cls ≠ "java/lang/invoke/MethodHandle" ∧ yX0_anchorFrom.cls ≠ "java/lang/invoke/VarHandle" ∧ (parseMethodDescriptor yX0_anchorFrom.desc).map (fun d => d.parameters.length) = some 1 := by decide +kernel
def pX0_anchorFrom_l2 (Po : Int32 → mm_T → Prop) (E2_18 : mm_T → Int32 → Prop) (E2_26 : mm_T → Prop) (K2 : mm_T → Int32 → Prop) (μ : mm_T) (a2 : Int32) : Prop := ((μ.1 6 0 1) ≤ a2 → E2_26 μ) ∧ (¬ ((μ.1 6 0 1) ≤ a2) → pX0_isAnchor (fun r2 μ1 => (r2 = 0 → K2 μ1 (a2 + (1 : Int32))) ∧ (¬ (r2 = 0) → E2_18 μ1 a2)) μ a2)
def pX0_anchorFrom (Po : Int32 → mm_T → Prop) (μ : mm_T) (p1 : Int32) : Prop := lp_ (fun (K9 : mm_T × Int32 → Prop) (t9 : mm_T × Int32) => pX0_anchorFrom_l2 Po (fun μ c2 => Po c2 μ) (fun μ => Po (-1 : Int32) μ) (fun μ a2 => K9 (μ, a2)) t9.1 t9.2) (μ, p1)
set_option maxHeartbeats 4000000 in
set_option maxRecDepth 100000 in
theorem kX0_anchorFrom (l : Launch) (p1 : Int32) : mm_CI l yX0_anchorFrom wsX0_anchorFrom ({ frames := 2, cells := 0, slots := 0, locals := 42 }) (fun z => [.ref (z + mm_ad 6 0), .int p1]) (fun μ Po => pX0_anchorFrom Po μ p1) := by
  refine je_I (cc := cX0_anchorFrom) (nL := 3) (own := RX0) (plainFor_of_name (by decide)) rfl rfl (fun _ => Nat.le_of_ble_eq_true rfl) ?_
  intro p e s m args below meth c D cy z μ Po C hr hk h
  change jJ p l e ({ frames := 2, cells := 0, slots := 0, locals := 42 }) s m args below meth c D cy z (MQ below (va_Qi Po (mm_Po D cy z) (mm_A z)) args s 0 0 (mm_A z)) 3 μ 0 [(0, .ref (z + mm_ad 6 0)), (1, .int p1)] []
  replace h : pX0_anchorFrom Po μ p1 := h
  unfold pX0_anchorFrom at h
  refine jr_iload_n (q := 1) C 1 dX0_anchorFrom_0 rfl rfl rfl ?_
  refine jr_istore_n (q := 2) (lv' := [(2, .int p1), (0, .ref (z + mm_ad 6 0)), (1, .int p1)]) C dX0_anchorFrom_1 rfl (by decide) rfl rfl ?_
  have l2 : ∀ (E2_18 : mm_T → Int32 → Prop) (hE2_18 : ∀ (μ : mm_T) (c2 : Int32), E2_18 μ c2 → jJ p l e ({ frames := 2, cells := 0, slots := 0, locals := 42 }) s m args below meth c D cy z (MQ below (va_Qi Po (mm_Po D cy z) (mm_A z)) args s 0 0 (mm_A z)) 3 μ 18 [(2, .int c2)] []), ∀ (E2_26 : mm_T → Prop) (hE2_26 : ∀ (μ : mm_T), E2_26 μ → jJ p l e ({ frames := 2, cells := 0, slots := 0, locals := 42 }) s m args below meth c D cy z (MQ below (va_Qi Po (mm_Po D cy z) (mm_A z)) args s 0 0 (mm_A z)) 3 μ 26 [] []), ∀ t9 : mm_T × Int32, lp_ (fun (K9 : mm_T × Int32 → Prop) (t9 : mm_T × Int32) => pX0_anchorFrom_l2 Po E2_18 E2_26 (fun μ a2 => K9 (μ, a2)) t9.1 t9.2) t9 → jJ p l e ({ frames := 2, cells := 0, slots := 0, locals := 42 }) s m args below meth c D cy z (MQ below (va_Qi Po (mm_Po D cy z) (mm_A z)) args s 0 0 (mm_A z)) 3 t9.1 2 [(0, .ref (z + mm_ad 6 0)), (2, .int t9.2)] [] := by
    intro E2_18 hE2_18 E2_26 hE2_26 t9 h
    refine lp_go (P := fun t9 : mm_T × Int32 => jJ p l e ({ frames := 2, cells := 0, slots := 0, locals := 42 }) s m args below meth c D cy z (MQ below (va_Qi Po (mm_Po D cy z) (mm_A z)) args s 0 0 (mm_A z)) 3 t9.1 2 [(0, .ref (z + mm_ad 6 0)), (2, .int t9.2)] []) (fun K9 t9 hK h => ?_) t9 h
    obtain ⟨μ, a2⟩ := t9
    obtain ⟨K2, eK2⟩ : ∃ K : mm_T → Int32 → Prop, K = (fun μ a2 => K9 (μ, a2)) := ⟨_, rfl⟩
    have hK2 : ∀ (μ : mm_T) (a2 : Int32), K2 μ a2 → jJ p l e ({ frames := 2, cells := 0, slots := 0, locals := 42 }) s m args below meth c D cy z (MQ below (va_Qi Po (mm_Po D cy z) (mm_A z)) args s 0 0 (mm_A z)) 3 μ 2 [(0, .ref (z + mm_ad 6 0)), (2, .int a2)] [] := fun μ a2 h9 => hK (μ, a2) (by rw [eK2] at h9; exact h9)
    replace h : pX0_anchorFrom_l2 Po E2_18 E2_26 K2 μ a2 := by rw [eK2]; exact h
    unfold pX0_anchorFrom_l2 at h
    refine jr_iload_n (q := 3) C 1 dX0_anchorFrom_2 rfl rfl rfl ?_
    refine jr_aload_n (q := 4) C 0 dX0_anchorFrom_3 rfl rfl rfl ?_
    refine jr_getI (q := 7) (ci := 0) (Cn := RX0) (T := TX0) (N := 11) (j := 1) C mf_6 rfl rfl (by decide) rfl rfl nX0_anchorFrom_0 mX0_anchorFrom_1 dX0_anchorFrom_4 rfl rfl ?_
    refine jr_icmp_ge (q := 10) (tgt := 26) C dX0_anchorFrom_7 (by decide) rfl (fun c4 => ?_) (fun c4 => ?_)
    · replace h := h.1 c4
      refine jr_sub [] rfl ?_
      exact hE2_26 _ h
    · replace h := h.2 c4
      refine jr_aload_n (q := 11) C 0 dX0_anchorFrom_10 rfl rfl rfl ?_
      refine jr_iload_n (q := 12) C 1 dX0_anchorFrom_11 rfl rfl rfl ?_
      refine jr_cvI (q := 15) (As := [.int a2]) (rest := []) C (f := 6) (i := 0) (ci := 0) mf_6 rfl rfl rfl (kX0_isAnchor l a2) rfl gX0_anchorFrom_X0_isAnchor rfl dsc_X0_isAnchor ⟨rfl, rfl⟩ ⟨by decide, by decide⟩ rfl rfl (Nat.le_of_ble_eq_true rfl) dX0_anchorFrom_12 rfl h (fun r2 μ1 h => ?_)
      refine jr_if_eq (q := 18) (tgt := 20) C dX0_anchorFrom_15 (by decide) rfl (fun c3 => ?_) (fun c3 => ?_)
      · replace h := h.1 c3
        refine jr_iinc (q := 23) (lv' := [(2, .int (a2 + (1 : Int32))), (0, .ref (z + mm_ad 6 0))]) C 1 dX0_anchorFrom_20 rfl (by rfl) (by decide) rfl rfl ?_
        refine jr_goto (tgt := 2) C dX0_anchorFrom_23 (by decide) ?_
        refine jr_sub [1, 0] rfl ?_
        exact hK2 _ _ h
      · replace h := h.2 c3
        refine jr_sub [1] rfl ?_
        exact hE2_18 _ _ h
  have x2_18 : ∀ (μ : mm_T) (c2 : Int32), (Po c2 μ) → jJ p l e ({ frames := 2, cells := 0, slots := 0, locals := 42 }) s m args below meth c D cy z (MQ below (va_Qi Po (mm_Po D cy z) (mm_A z)) args s 0 0 (mm_A z)) 3 μ 18 [(2, .int c2)] [] := by
    intro μ c2 h
    refine jr_iload_n (q := 19) C 0 dX0_anchorFrom_18 rfl rfl rfl ?_
    exact jr_iret C hr hk dX0_anchorFrom_19 h
  have x2_26 : ∀ (μ : mm_T), (Po (-1 : Int32) μ) → jJ p l e ({ frames := 2, cells := 0, slots := 0, locals := 42 }) s m args below meth c D cy z (MQ below (va_Qi Po (mm_Po D cy z) (mm_A z)) args s 0 0 (mm_A z)) 3 μ 26 [] [] := by
    intro μ h
    refine jr_iconst (q := 27) (v := (-1 : Int32)) C dX0_anchorFrom_26 (by decide) rfl ?_
    exact jr_iret C hr hk dX0_anchorFrom_27 h
  refine jr_sub [1, 0] rfl ?_
  exact l2 _ x2_18 _ x2_26 _ h
theorem nX4_add_4 : ∀ w ∈ wsX40, w ∈ wsX4_add := fun _ h => List.mem_cons_of_mem _ (List.mem_append_right _ h)
theorem mX4_add_1 : Cond.fieldLink RX4 18 RX4 (TX4 2).2.1 (TX4 2).2.2.1 ∈ wsX4_add := List.mem_of_getElem? (i := 1) (by decide +kernel)
theorem mX4_add_2 : Cond.fieldLink RX4 9 RX4 (TX4 0).2.1 (TX4 0).2.2.1 ∈ wsX4_add := List.mem_of_getElem? (i := 2) (by decide +kernel)
theorem mX4_add_3 : Cond.fieldLink RX4 15 RX4 (TX4 1).2.1 (TX4 1).2.2.1 ∈ wsX4_add := List.mem_of_getElem? (i := 3) (by decide +kernel)
theorem dsc_X4_add : yX4_add.cls ≠ "java/lang/invoke/MethodHandle" ∧ yX4_add.cls ≠ "java/lang/invoke/VarHandle" ∧ (parseMethodDescriptor yX4_add.desc).map (fun d => d.parameters.length) = some 2 := by decide +kernel
def pX4_add (Po : mm_T → Prop) (μ : mm_T) (i0 : Nat) (p1 : Int32) (p2 : Int32) : Prop := i0 < 49 ∧ (((6 : Int32) ≤ (μ.1 12 i0 2) → Po μ) ∧ (¬ ((6 : Int32) ≤ (μ.1 12 i0 2)) → (vp_in (μ.1 12 i0 2) 6) ∧ (∀ μ2 : mm_T, μ2 = mm_I μ 13 i0 (μ.1 12 i0 2).toNatClampNeg p1 → ((vp_in (μ2.1 12 i0 2) 6) ∧ (∀ μ4 : mm_T, μ4 = mm_I μ2 14 i0 (μ2.1 12 i0 2).toNatClampNeg p2 → (∀ μ5 : mm_T, μ5 = mm_I μ4 12 i0 2 ((μ4.1 12 i0 2) + (1 : Int32)) → (Po μ5)))))))
set_option maxHeartbeats 4000000 in
set_option maxRecDepth 100000 in
theorem kX4_add (l : Launch) (i0 : Nat) (p1 : Int32) (p2 : Int32) : mm_CV l yX4_add wsX4_add ({ frames := 0, cells := 0, slots := 0, locals := 0 }) (fun z => [.ref (z + mm_ad 12 i0), .int p1, .int p2]) (fun μ Po => pX4_add Po μ i0 p1 p2) := by
  refine je_V (cc := cX4_add) (nL := 3) (own := RX4) (plainFor_of_name (by decide)) rfl rfl (fun _ => Nat.le_of_ble_eq_true rfl) ?_
  intro p e s m args below meth c D cy z μ Po C hr hk h
  change jJ p l e ({ frames := 0, cells := 0, slots := 0, locals := 0 }) s m args below meth c D cy z (MQ below (va_Qv Po (mm_Po D cy z) (mm_A z)) args s 0 0 (mm_A z)) 3 μ 0 [(0, .ref (z + mm_ad 12 i0)), (1, .int p1), (2, .int p2)] []
  replace h : pX4_add Po μ i0 p1 p2 := h
  unfold pX4_add at h
  obtain ⟨hi_i0, h⟩ := h
  refine jr_aload_n (q := 1) C 0 dX4_add_0 rfl rfl rfl ?_
  refine jr_getI (q := 4) (ci := 4) (Cn := RX4) (T := TX4) (N := 5) (j := 2) C hi_i0 rfl rfl (by decide) rfl rfl nX4_add_4 mX4_add_1 dX4_add_1 rfl rfl ?_
  refine jr_bipush (q := 6) (v := (6 : Int32)) C dX4_add_4 (by decide) rfl ?_
  refine jr_icmp_ge (q := 9) (tgt := 39) C dX4_add_6 (by decide) rfl (fun c6 => ?_) (fun c6 => ?_)
  · replace h := h.1 c6
    exact jr_vret C hr hk dX4_add_39 h
  · replace h := h.2 c6
    refine jr_aload_n (q := 10) C 0 dX4_add_9 rfl rfl rfl ?_
    refine jr_getR (q := 13) (ci := 4) (Cn := RX4) (T := TX4) (N := 5) (j := 0) C hi_i0 rfl rfl (by decide) rfl 13 i0 rfl rfl rfl nX4_add_4 mX4_add_2 dX4_add_10 rfl rfl ?_
    refine jr_aload_n (q := 14) C 0 dX4_add_13 rfl rfl rfl ?_
    refine jr_getI (q := 17) (ci := 4) (Cn := RX4) (T := TX4) (N := 5) (j := 2) C hi_i0 rfl rfl (by decide) rfl rfl nX4_add_4 mX4_add_1 dX4_add_14 rfl rfl ?_
    refine jr_iload_n (q := 18) C 1 dX4_add_17 rfl rfl rfl ?_
    obtain ⟨g1, h⟩ := h
    refine jr_iast (q := 19) C hi_i0 rfl g1 dX4_add_18 rfl ?_
    refine jn_mem (fun μ2 eμ2 => ?_)
    replace h := h μ2 eμ2
    refine jr_aload_n (q := 20) C 0 dX4_add_19 rfl rfl rfl ?_
    refine jr_getR (q := 23) (ci := 4) (Cn := RX4) (T := TX4) (N := 5) (j := 1) C hi_i0 rfl rfl (by decide) rfl 14 i0 rfl rfl rfl nX4_add_4 mX4_add_3 dX4_add_20 rfl rfl ?_
    refine jr_aload_n (q := 24) C 0 dX4_add_23 rfl rfl rfl ?_
    refine jr_getI (q := 27) (ci := 4) (Cn := RX4) (T := TX4) (N := 5) (j := 2) C hi_i0 rfl rfl (by decide) rfl rfl nX4_add_4 mX4_add_1 dX4_add_24 rfl rfl ?_
    refine jr_iload_n (q := 28) C 2 dX4_add_27 rfl rfl rfl ?_
    obtain ⟨g3, h⟩ := h
    refine jr_iast (q := 29) C hi_i0 rfl g3 dX4_add_28 rfl ?_
    refine jn_mem (fun μ4 eμ4 => ?_)
    replace h := h μ4 eμ4
    refine jr_aload_n (q := 30) C 0 dX4_add_29 rfl rfl rfl ?_
    refine jr_dup (q := 31) C dX4_add_30 rfl rfl ?_
    refine jr_getI (q := 34) (ci := 4) (Cn := RX4) (T := TX4) (N := 5) (j := 2) C hi_i0 rfl rfl (by decide) rfl rfl nX4_add_4 mX4_add_1 dX4_add_31 rfl rfl ?_
    refine jr_iconst (q := 35) (v := (1 : Int32)) C dX4_add_34 (by decide) rfl ?_
    refine jr_iadd (q := 36) C dX4_add_35 rfl ?_
    refine jr_putI (q := 39) (ci := 4) (Cn := RX4) (T := TX4) (N := 5) (j := 2) C hi_i0 rfl rfl (by decide) rfl rfl tyX4 tyX4_ok nmX4 rfl (by decide +kernel) nX4_add_4 mX4_add_1 dX4_add_36 rfl rfl ?_
    refine jn_mem (fun μ5 eμ5 => ?_)
    replace h := h μ5 eμ5
    exact jr_vret C hr hk dX4_add_39 h
theorem nX4_begin_4 : ∀ w ∈ wsX40, w ∈ wsX4_begin := fun _ h => List.mem_cons_of_mem _ (List.mem_append_right _ h)
theorem mX4_begin_1 : Cond.fieldLink RX4 18 RX4 (TX4 2).2.1 (TX4 2).2.2.1 ∈ wsX4_begin := List.mem_of_getElem? (i := 1) (by decide +kernel)
theorem mX4_begin_2 : Cond.fieldLink RX4 26 RX4 (TX4 3).2.1 (TX4 3).2.2.1 ∈ wsX4_begin := List.mem_of_getElem? (i := 2) (by decide +kernel)
theorem mX4_begin_3 : Cond.fieldLink RX4 30 RX4 (TX4 4).2.1 (TX4 4).2.2.1 ∈ wsX4_begin := List.mem_of_getElem? (i := 3) (by decide +kernel)
theorem dsc_X4_begin : yX4_begin.cls ≠ "java/lang/invoke/MethodHandle" ∧ yX4_begin.cls ≠ "java/lang/invoke/VarHandle" ∧ (parseMethodDescriptor yX4_begin.desc).map (fun d => d.parameters.length) = some 0 := by decide +kernel
def pX4_begin (Po : mm_T → Prop) (μ : mm_T) (i0 : Nat) : Prop := i0 < 49 ∧ (∀ μ1 : mm_T, μ1 = mm_I μ 12 i0 2 (0 : Int32) → (pX4_add (fun μ2 => ∀ μ3 : mm_T, μ3 = mm_I μ2 12 i0 3 (0 : Int32) → (∀ μ4 : mm_T, μ4 = mm_I μ3 12 i0 4 (-1 : Int32) → (Po μ4))) μ1 i0 (0 : Int32) (9 : Int32)))
set_option maxHeartbeats 4000000 in
set_option maxRecDepth 100000 in
theorem kX4_begin (l : Launch) (i0 : Nat) : mm_CV l yX4_begin wsX4_begin ({ frames := 1, cells := 0, slots := 0, locals := 22 }) (fun z => [.ref (z + mm_ad 12 i0)]) (fun μ Po => pX4_begin Po μ i0) := by
  refine je_V (cc := cX4_begin) (nL := 1) (own := RX4) (plainFor_of_name (by decide)) rfl rfl (fun _ => Nat.le_of_ble_eq_true rfl) ?_
  intro p e s m args below meth c D cy z μ Po C hr hk h
  change jJ p l e ({ frames := 1, cells := 0, slots := 0, locals := 22 }) s m args below meth c D cy z (MQ below (va_Qv Po (mm_Po D cy z) (mm_A z)) args s 0 0 (mm_A z)) 1 μ 0 [(0, .ref (z + mm_ad 12 i0))] []
  replace h : pX4_begin Po μ i0 := h
  unfold pX4_begin at h
  obtain ⟨hi_i0, h⟩ := h
  refine jr_aload_n (q := 1) C 0 dX4_begin_0 rfl rfl rfl ?_
  refine jr_iconst (q := 2) (v := (0 : Int32)) C dX4_begin_1 (by decide) rfl ?_
  refine jr_putI (q := 5) (ci := 4) (Cn := RX4) (T := TX4) (N := 5) (j := 2) C hi_i0 rfl rfl (by decide) rfl rfl tyX4 tyX4_ok nmX4 rfl (by decide +kernel) nX4_begin_4 mX4_begin_1 dX4_begin_2 rfl rfl ?_
  refine jn_mem (fun μ1 eμ1 => ?_)
  replace h := h μ1 eμ1
  refine jr_aload_n (q := 6) C 0 dX4_begin_5 rfl rfl rfl ?_
  refine jr_iconst (q := 7) (v := (0 : Int32)) C dX4_begin_6 (by decide) rfl ?_
  refine jr_bipush (q := 9) (v := (9 : Int32)) C dX4_begin_7 (by decide) rfl ?_
  refine jr_cvV (q := 12) (As := [.int (0 : Int32), .int (9 : Int32)]) (rest := []) C (f := 12) (i := i0) (ci := 4) hi_i0 rfl rfl rfl (kX4_add l i0 (0 : Int32) (9 : Int32)) rfl gX4_begin_X4_add rfl dsc_X4_add ⟨rfl, rfl⟩ ⟨by decide, by decide⟩ rfl rfl (Nat.le_of_ble_eq_true rfl) dX4_begin_9 rfl h (fun μ2 h => ?_)
  refine jr_aload_n (q := 13) C 0 dX4_begin_12 rfl rfl rfl ?_
  refine jr_iconst (q := 14) (v := (0 : Int32)) C dX4_begin_13 (by decide) rfl ?_
  refine jr_putZ (q := 17) (ci := 4) (Cn := RX4) (T := TX4) (N := 5) (j := 3) C hi_i0 rfl rfl (by decide) rfl (by decide) rfl tyX4 tyX4_ok nmX4 rfl (by decide +kernel) nX4_begin_4 mX4_begin_2 dX4_begin_14 rfl rfl ?_
  refine jn_mem (fun μ3 eμ3 => ?_)
  replace h := h μ3 eμ3
  refine jr_aload_n (q := 18) C 0 dX4_begin_17 rfl rfl rfl ?_
  refine jr_iconst (q := 19) (v := (-1 : Int32)) C dX4_begin_18 (by decide) rfl ?_
  refine jr_putI (q := 22) (ci := 4) (Cn := RX4) (T := TX4) (N := 5) (j := 4) C hi_i0 rfl rfl (by decide) rfl rfl tyX4 tyX4_ok nmX4 rfl (by decide +kernel) nX4_begin_4 mX4_begin_3 dX4_begin_19 rfl rfl ?_
  refine jn_mem (fun μ4 eμ4 => ?_)
  replace h := h μ4 eμ4
  exact jr_vret C hr hk dX4_begin_22 h
theorem nX9_clear_9 : ∀ w ∈ wsX90, w ∈ wsX9_clear := fun _ h => List.mem_cons_of_mem _ (List.mem_append_right _ h)
theorem mX9_clear_1 : Cond.fieldLink RX9 9 RX9 (TX9 0).2.1 (TX9 0).2.2.1 ∈ wsX9_clear := List.mem_of_getElem? (i := 1) (by decide +kernel)
theorem dsc_X9_clear : yX9_clear.cls ≠ "java/lang/invoke/MethodHandle" ∧ yX9_clear.cls ≠ "java/lang/invoke/VarHandle" ∧ (parseMethodDescriptor yX9_clear.desc).map (fun d => d.parameters.length) = some 0 := by decide +kernel
def pX9_clear (Po : mm_T → Prop) (μ : mm_T) : Prop := pJ7_fill_53178 (fun μ1 => Po μ1) μ (-1 : Int32)
set_option maxHeartbeats 4000000 in
set_option maxRecDepth 100000 in
theorem kX9_clear (l : Launch) : mm_CV l yX9_clear wsX9_clear ({ frames := 1, cells := 0, slots := 0, locals := 23 }) (fun z => [.ref (z + mm_ad 17 0)]) (fun μ Po => pX9_clear Po μ) := by
  refine je_V (cc := cX9_clear) (nL := 1) (own := RX9) (plainFor_of_name (by decide)) rfl rfl (fun _ => Nat.le_of_ble_eq_true rfl) ?_
  intro p e s m args below meth c D cy z μ Po C hr hk h
  change jJ p l e ({ frames := 1, cells := 0, slots := 0, locals := 23 }) s m args below meth c D cy z (MQ below (va_Qv Po (mm_Po D cy z) (mm_A z)) args s 0 0 (mm_A z)) 1 μ 0 [(0, .ref (z + mm_ad 17 0))] []
  replace h : pX9_clear Po μ := h
  unfold pX9_clear at h
  refine jr_aload_n (q := 1) C 0 dX9_clear_0 rfl rfl rfl ?_
  refine jr_getR (q := 4) (ci := 9) (Cn := RX9) (T := TX9) (N := 1) (j := 0) C mf_17 rfl rfl (by decide) rfl 18 0 rfl rfl rfl nX9_clear_9 mX9_clear_1 dX9_clear_1 rfl rfl ?_
  refine jr_iconst (q := 5) (v := (-1 : Int32)) C dX9_clear_4 (by decide) rfl ?_
  refine jr_csV (q := 8) (As := [.ref (z + mm_ad 18 0), .int (-1 : Int32)]) (rest := []) C  (kJ7_fill_53178 l (-1 : Int32)) rfl gX9_clear_J7_fill_53178 rfl dsc_J7_fill_53178 ⟨rfl, rfl⟩ ⟨by decide, by decide⟩ rfl rfl (Nat.le_of_ble_eq_true rfl) dX9_clear_5 rfl h (fun μ1 h => ?_)
  exact jr_vret C hr hk dX9_clear_8 h
theorem nX0_changeLimit_0 : ∀ w ∈ wsX00, w ∈ wsX0_changeLimit := fun _ h => List.mem_cons_of_mem _ (List.mem_append_left _ (List.mem_append_right _ h))
theorem mX0_changeLimit_1 : Cond.fieldLink RX0 185 RX0 (TX0 4).2.1 (TX0 4).2.2.1 ∈ wsX0_changeLimit := List.mem_of_getElem? (i := 1) (by decide +kernel)
theorem mX0_changeLimit_2 : Cond.fieldLink RX0 19 RX0 (TX0 8).2.1 (TX0 8).2.2.1 ∈ wsX0_changeLimit := List.mem_of_getElem? (i := 2) (by decide +kernel)
theorem nX0_changeLimit_7 : ∀ w ∈ wsX70, w ∈ wsX0_changeLimit := fun _ h => List.mem_cons_of_mem _ (List.mem_append_right _ h)
theorem mX0_changeLimit_4 : Cond.fieldLink RX0 170 RX7 (TX7 0).2.1 (TX7 0).2.2.1 ∈ wsX0_changeLimit := List.mem_of_getElem? (i := 3) (by decide +kernel)
theorem dsc_X0_changeLimit : yX0_changeLimit.cls ≠ "java/lang/invoke/MethodHandle" ∧ yX0_changeLimit.cls ≠ "java/lang/invoke/VarHandle" ∧ (parseMethodDescriptor yX0_changeLimit.desc).map (fun d => d.parameters.length) = some 1 := by decide +kernel
def pX0_changeLimit_l7 (Po : mm_T → Prop) (E7_29 : mm_T → Prop) (K7 : mm_T → Int32 → Prop) (μ : mm_T) (a2 : Int32) : Prop := ((7 : Int32) ≤ a2 → E7_29 μ) ∧ (¬ ((7 : Int32) ≤ a2) → (vp_in a2 7) ∧ (∀ μ3 : mm_T, μ3 = mm_I μ 10 a2.toNatClampNeg 0 (0 : Int32) → (K7 μ3 (a2 + (1 : Int32)))))
def pX0_changeLimit (Po : mm_T → Prop) (μ : mm_T) (p1 : Int32) : Prop := ∀ μ1 : mm_T, μ1 = mm_I μ 6 0 4 p1 → (lp_ (fun (K9 : mm_T × Int32 → Prop) (t9 : mm_T × Int32) => pX0_changeLimit_l7 Po (fun μ => Po μ) (fun μ a2 => K9 (μ, a2)) t9.1 t9.2) (μ1, (0 : Int32)))
set_option maxHeartbeats 4000000 in
set_option maxRecDepth 100000 in
theorem kX0_changeLimit (l : Launch) (p1 : Int32) : mm_CV l yX0_changeLimit wsX0_changeLimit ({ frames := 0, cells := 0, slots := 0, locals := 0 }) (fun z => [.ref (z + mm_ad 6 0), .int p1]) (fun μ Po => pX0_changeLimit Po μ p1) := by
  refine je_V (cc := cX0_changeLimit) (nL := 3) (own := RX0) (plainFor_of_name (by decide)) rfl rfl (fun _ => Nat.le_of_ble_eq_true rfl) ?_
  intro p e s m args below meth c D cy z μ Po C hr hk h
  change jJ p l e ({ frames := 0, cells := 0, slots := 0, locals := 0 }) s m args below meth c D cy z (MQ below (va_Qv Po (mm_Po D cy z) (mm_A z)) args s 0 0 (mm_A z)) 3 μ 0 [(0, .ref (z + mm_ad 6 0)), (1, .int p1)] []
  replace h : pX0_changeLimit Po μ p1 := h
  unfold pX0_changeLimit at h
  refine jr_aload_n (q := 1) C 0 dX0_changeLimit_0 rfl rfl rfl ?_
  refine jr_iload_n (q := 2) C 1 dX0_changeLimit_1 rfl rfl rfl ?_
  refine jr_putI (q := 5) (ci := 0) (Cn := RX0) (T := TX0) (N := 11) (j := 4) C mf_6 rfl rfl (by decide) rfl rfl tyX0 tyX0_ok nmX0 rfl (by decide +kernel) nX0_changeLimit_0 mX0_changeLimit_1 dX0_changeLimit_2 rfl rfl ?_
  refine jn_mem (fun μ1 eμ1 => ?_)
  replace h := h μ1 eμ1
  refine jr_iconst (q := 6) (v := (0 : Int32)) C dX0_changeLimit_5 (by decide) rfl ?_
  refine jr_istore_n (q := 7) (lv' := [(2, .int (0 : Int32)), (0, .ref (z + mm_ad 6 0)), (1, .int p1)]) C dX0_changeLimit_6 rfl (by decide) rfl rfl ?_
  have l7 : ∀ (E7_29 : mm_T → Prop) (hE7_29 : ∀ (μ : mm_T), E7_29 μ → jJ p l e ({ frames := 0, cells := 0, slots := 0, locals := 0 }) s m args below meth c D cy z (MQ below (va_Qv Po (mm_Po D cy z) (mm_A z)) args s 0 0 (mm_A z)) 3 μ 29 [] []), ∀ t9 : mm_T × Int32, lp_ (fun (K9 : mm_T × Int32 → Prop) (t9 : mm_T × Int32) => pX0_changeLimit_l7 Po E7_29 (fun μ a2 => K9 (μ, a2)) t9.1 t9.2) t9 → jJ p l e ({ frames := 0, cells := 0, slots := 0, locals := 0 }) s m args below meth c D cy z (MQ below (va_Qv Po (mm_Po D cy z) (mm_A z)) args s 0 0 (mm_A z)) 3 t9.1 7 [(0, .ref (z + mm_ad 6 0)), (2, .int t9.2)] [] := by
    intro E7_29 hE7_29 t9 h
    refine lp_go (P := fun t9 : mm_T × Int32 => jJ p l e ({ frames := 0, cells := 0, slots := 0, locals := 0 }) s m args below meth c D cy z (MQ below (va_Qv Po (mm_Po D cy z) (mm_A z)) args s 0 0 (mm_A z)) 3 t9.1 7 [(0, .ref (z + mm_ad 6 0)), (2, .int t9.2)] []) (fun K9 t9 hK h => ?_) t9 h
    obtain ⟨μ, a2⟩ := t9
    obtain ⟨K7, eK7⟩ : ∃ K : mm_T → Int32 → Prop, K = (fun μ a2 => K9 (μ, a2)) := ⟨_, rfl⟩
    have hK7 : ∀ (μ : mm_T) (a2 : Int32), K7 μ a2 → jJ p l e ({ frames := 0, cells := 0, slots := 0, locals := 0 }) s m args below meth c D cy z (MQ below (va_Qv Po (mm_Po D cy z) (mm_A z)) args s 0 0 (mm_A z)) 3 μ 7 [(0, .ref (z + mm_ad 6 0)), (2, .int a2)] [] := fun μ a2 h9 => hK (μ, a2) (by rw [eK7] at h9; exact h9)
    replace h : pX0_changeLimit_l7 Po E7_29 K7 μ a2 := by rw [eK7]; exact h
    unfold pX0_changeLimit_l7 at h
    refine jr_iload_n (q := 8) C 1 dX0_changeLimit_7 rfl rfl rfl ?_
    refine jr_bipush (q := 10) (v := (7 : Int32)) C dX0_changeLimit_8 (by decide) rfl ?_
    refine jr_icmp_ge (q := 13) (tgt := 29) C dX0_changeLimit_10 (by decide) rfl (fun c4 => ?_) (fun c4 => ?_)
    · replace h := h.1 c4
      refine jr_sub [] rfl ?_
      exact hE7_29 _ h
    · replace h := h.2 c4
      refine jr_aload_n (q := 14) C 0 dX0_changeLimit_13 rfl rfl rfl ?_
      refine jr_getR (q := 17) (ci := 0) (Cn := RX0) (T := TX0) (N := 11) (j := 8) C mf_6 rfl rfl (by decide) rfl 8 0 rfl rfl rfl nX0_changeLimit_0 mX0_changeLimit_2 dX0_changeLimit_14 rfl rfl ?_
      refine jr_iload_n (q := 18) C 1 dX0_changeLimit_17 rfl rfl rfl ?_
      obtain ⟨g2, h⟩ := h
      refine jr_aald (q := 19) (t := 2) C mf_8 10 (fun _ => rfl) (fun _ _ => rfl) rfl (by decide) g2 dX0_changeLimit_18 rfl ?_
      refine jr_iconst (q := 20) (v := (0 : Int32)) C dX0_changeLimit_19 (by decide) rfl ?_
      refine jr_putZ (q := 23) (ci := 7) (Cn := RX7) (T := TX7) (N := 6) (j := 0) C (mm_lt g2) rfl rfl (by decide) rfl (by decide) rfl tyX7 tyX7_ok nmX7 rfl (by decide +kernel) nX0_changeLimit_7 mX0_changeLimit_4 dX0_changeLimit_20 rfl rfl ?_
      refine jn_mem (fun μ3 eμ3 => ?_)
      replace h := h μ3 eμ3
      refine jr_iinc (q := 26) (lv' := [(2, .int (a2 + (1 : Int32))), (0, .ref (z + mm_ad 6 0))]) C 1 dX0_changeLimit_23 rfl (by rfl) (by decide) rfl rfl ?_
      refine jr_goto (tgt := 7) C dX0_changeLimit_26 (by decide) ?_
      refine jr_sub [1, 0] rfl ?_
      exact hK7 _ _ h
  have x7_29 : ∀ (μ : mm_T), (Po μ) → jJ p l e ({ frames := 0, cells := 0, slots := 0, locals := 0 }) s m args below meth c D cy z (MQ below (va_Qv Po (mm_Po D cy z) (mm_A z)) args s 0 0 (mm_A z)) 3 μ 29 [] [] := by
    intro μ h
    exact jr_vret C hr hk dX0_changeLimit_29 h
  refine jr_sub [1, 0] rfl ?_
  exact l7 _ x7_29 _ h
theorem nX0_takeOver_0 : ∀ w ∈ wsX00, w ∈ wsX0_takeOver := fun _ h => List.mem_cons_of_mem _ (List.mem_append_left _ (List.mem_append_left _ (List.mem_append_left _ (List.mem_append_left _ (List.mem_append_left _ (List.mem_append_left _ (List.mem_append_right _ h)))))))
theorem mX0_takeOver_1 : Cond.fieldLink RX0 68 RX0 (TX0 1).2.1 (TX0 1).2.2.1 ∈ wsX0_takeOver := List.mem_of_getElem? (i := 1) (by decide +kernel)
theorem mX0_takeOver_2 : Cond.fieldLink RX0 93 RX0 (TX0 2).2.1 (TX0 2).2.2.1 ∈ wsX0_takeOver := List.mem_of_getElem? (i := 7) (by decide +kernel)
theorem mX0_takeOver_3 : Cond.fieldLink RX0 97 RX0 (TX0 3).2.1 (TX0 3).2.2.1 ∈ wsX0_takeOver := List.mem_of_getElem? (i := 8) (by decide +kernel)
theorem mX0_takeOver_4 : Cond.fieldLink RX0 35 RX0 (TX0 5).2.1 (TX0 5).2.2.1 ∈ wsX0_takeOver := List.mem_of_getElem? (i := 9) (by decide +kernel)
theorem nX0_takeOver_3 : ∀ w ∈ wsX30, w ∈ wsX0_takeOver := fun _ h => List.mem_cons_of_mem _ (List.mem_append_left _ (List.mem_append_left _ (List.mem_append_left _ (List.mem_append_right _ h))))
theorem mX0_takeOver_6 : Cond.fieldLink RX0 100 RX3 (TX3 0).2.1 (TX3 0).2.2.1 ∈ wsX0_takeOver := List.mem_of_getElem? (i := 10) (by decide +kernel)
theorem mX0_takeOver_7 : Cond.fieldLink RX0 42 RX0 (TX0 6).2.1 (TX0 6).2.2.1 ∈ wsX0_takeOver := List.mem_of_getElem? (i := 11) (by decide +kernel)
theorem mX0_takeOver_8 : Cond.fieldLink RX0 27 RX0 (TX0 7).2.1 (TX0 7).2.2.1 ∈ wsX0_takeOver := List.mem_of_getElem? (i := 6) (by decide +kernel)
theorem mX0_takeOver_9 : Cond.fieldLink RX0 11 RX0 (TX0 0).2.1 (TX0 0).2.2.1 ∈ wsX0_takeOver := List.mem_of_getElem? (i := 2) (by decide +kernel)
theorem nX0_takeOver_5 : ∀ w ∈ wsX50, w ∈ wsX0_takeOver := fun _ h => List.mem_cons_of_mem _ (List.mem_append_left _ (List.mem_append_left _ (List.mem_append_left _ (List.mem_append_left _ (List.mem_append_right _ h)))))
theorem mX0_takeOver_11 : Cond.fieldLink RX0 80 RX5 (TX5 0).2.1 (TX5 0).2.2.1 ∈ wsX0_takeOver := List.mem_of_getElem? (i := 4) (by decide +kernel)
theorem mX0_takeOver_12 : Cond.fieldLink RX0 88 RX5 (TX5 7).2.1 (TX5 7).2.2.1 ∈ wsX0_takeOver := List.mem_of_getElem? (i := 5) (by decide +kernel)
theorem nX0_takeOver_8 : ∀ w ∈ wsX80, w ∈ wsX0_takeOver := fun _ h => List.mem_cons_of_mem _ (List.mem_append_left _ (List.mem_append_left _ (List.mem_append_left _ (List.mem_append_left _ (List.mem_append_left _ (List.mem_append_right _ h))))))
theorem mX0_takeOver_14 : Cond.fieldLink RX0 72 RX8 (TX8 0).2.1 (TX8 0).2.2.1 ∈ wsX0_takeOver := List.mem_of_getElem? (i := 3) (by decide +kernel)
theorem dsc_X0_takeOver : yX0_takeOver.cls ≠ "java/lang/invoke/MethodHandle" ∧ yX0_takeOver.cls ≠ "java/lang/invoke/VarHandle" ∧ (parseMethodDescriptor yX0_takeOver.desc).map (fun d => d.parameters.length) = some 1 := by decide +kernel
def pX0_takeOver_l87 (Po : mm_T → Prop) (E87_111 : mm_T → Prop) (K87 : mm_T → Int32 → Prop) (μ : mm_T) (a2 : Int32) : Prop := ((49 : Int32) ≤ a2 → E87_111 μ) ∧ (¬ ((49 : Int32) ≤ a2) → (vp_in a2 49) ∧ (pX4_begin (fun μ10 => K87 μ10 (a2 + (1 : Int32))) μ a2.toNatClampNeg))
def pX0_takeOver_l41 (Po : mm_T → Prop) (E41_85 : mm_T → Prop) (K41 : mm_T → Int32 → Prop) (μ : mm_T) (a2 : Int32) : Prop := ((μ.1 6 0 1) ≤ a2 → E41_85 μ) ∧ (¬ ((μ.1 6 0 1) ≤ a2) → (vp_in a2 7) ∧ ((vp_in a2 7) ∧ (((μ.1 9 a2.toNatClampNeg 0) = 0 → ∀ μ14 : mm_T, μ14 = mm_I μ 9 a2.toNatClampNeg 7 (-1 : Int32) → (K41 μ14 (a2 + (1 : Int32)))) ∧ (¬ ((μ.1 9 a2.toNatClampNeg 0) = 0) → pX0_anchorFrom (fun r16 μ15 => ∀ μ17 : mm_T, μ17 = mm_I μ15 9 a2.toNatClampNeg 7 r16 → (K41 μ17 (a2 + (1 : Int32)))) μ (0 : Int32)))))
def pX0_takeOver_l10 (Po : mm_T → Prop) (E10_39 : mm_T → Prop) (K10 : mm_T → Int32 → Prop) (μ : mm_T) (a2 : Int32) : Prop := ((μ.1 6 0 1) ≤ a2 → E10_39 μ) ∧ (¬ ((μ.1 6 0 1) ≤ a2) → (vp_in a2 7) ∧ ((vp_in a2 7) ∧ (pX5_begin (fun μ22 => K10 μ22 (a2 + (1 : Int32))) μ a2.toNatClampNeg a2.toNatClampNeg)))
def pX0_takeOver (Po : mm_T → Prop) (μ : mm_T) : Prop := pX8_nodeCount (fun r2 μ1 => ∀ μ3 : mm_T, μ3 = mm_I μ1 6 0 1 r2 → (lp_ (fun (K9 : mm_T × Int32 → Prop) (t9 : mm_T × Int32) => pX0_takeOver_l10 Po (fun μ => lp_ (fun (K9 : mm_T × Int32 → Prop) (t9 : mm_T × Int32) => pX0_takeOver_l41 Po (fun μ => lp_ (fun (K9 : mm_T × Int32 → Prop) (t9 : mm_T × Int32) => pX0_takeOver_l87 Po (fun μ => ∀ μ4 : mm_T, μ4 = mm_L μ 6 0 2 (0 : Int64) → (∀ μ5 : mm_T, μ5 = mm_I μ4 6 0 3 (4 : Int32) → (∀ μ6 : mm_T, μ6 = mm_I μ5 15 0 0 (0 : Int32) → (pX9_clear (fun μ7 => pX0_changeLimit (fun μ8 => Po μ8) μ7 (400 : Int32)) μ6 )))) (fun μ a2 => K9 (μ, a2)) t9.1 t9.2) (μ, (0 : Int32))) (fun μ a2 => K9 (μ, a2)) t9.1 t9.2) (μ, (0 : Int32))) (fun μ a2 => K9 (μ, a2)) t9.1 t9.2) (μ3, (0 : Int32)))) μ 
set_option maxHeartbeats 4000000 in
set_option maxRecDepth 100000 in
theorem kX0_takeOver (l : Launch) : mm_CV l yX0_takeOver wsX0_takeOver ({ frames := 3, cells := 0, slots := 0, locals := 64 }) (fun z => [.ref (z + mm_ad 6 0), .ref (z + mm_ad 3 0)]) (fun μ Po => pX0_takeOver Po μ) := by
  refine je_V (cc := cX0_takeOver) (nL := 3) (own := RX0) (plainFor_of_name (by decide)) rfl rfl (fun _ => Nat.le_of_ble_eq_true rfl) ?_
  intro p e s m args below meth c D cy z μ Po C hr hk h
  change jJ p l e ({ frames := 3, cells := 0, slots := 0, locals := 64 }) s m args below meth c D cy z (MQ below (va_Qv Po (mm_Po D cy z) (mm_A z)) args s 0 0 (mm_A z)) 3 μ 0 [(0, .ref (z + mm_ad 6 0)), (1, .ref (z + mm_ad 3 0))] []
  replace h : pX0_takeOver Po μ := h
  unfold pX0_takeOver at h
  refine jr_aload_n (q := 1) C 0 dX0_takeOver_0 rfl rfl rfl ?_
  refine jr_aload_n (q := 2) C 1 dX0_takeOver_1 rfl rfl rfl ?_
  refine jr_cvI (q := 5) (As := []) (rest := [.ref (z + mm_ad 6 0)]) C (f := 3) (i := 0) (ci := 8) mf_3 rfl rfl rfl (kX8_nodeCount l) rfl gX0_takeOver_X8_nodeCount rfl dsc_X8_nodeCount ⟨rfl, rfl⟩ ⟨by decide, by decide⟩ rfl rfl (Nat.le_of_ble_eq_true rfl) dX0_takeOver_2 rfl h (fun r2 μ1 h => ?_)
  refine jr_putI (q := 8) (ci := 0) (Cn := RX0) (T := TX0) (N := 11) (j := 1) C mf_6 rfl rfl (by decide) rfl rfl tyX0 tyX0_ok nmX0 rfl (by decide +kernel) nX0_takeOver_0 mX0_takeOver_1 dX0_takeOver_5 rfl rfl ?_
  refine jn_mem (fun μ3 eμ3 => ?_)
  replace h := h μ3 eμ3
  refine jr_iconst (q := 9) (v := (0 : Int32)) C dX0_takeOver_8 (by decide) rfl ?_
  refine jr_istore_n (q := 10) (lv' := [(2, .int (0 : Int32)), (0, .ref (z + mm_ad 6 0)), (1, .ref (z + mm_ad 3 0))]) C dX0_takeOver_9 rfl (by decide) rfl rfl ?_
  have l10 : ∀ (E10_39 : mm_T → Prop) (hE10_39 : ∀ (μ : mm_T), E10_39 μ → jJ p l e ({ frames := 3, cells := 0, slots := 0, locals := 64 }) s m args below meth c D cy z (MQ below (va_Qv Po (mm_Po D cy z) (mm_A z)) args s 0 0 (mm_A z)) 3 μ 39 [(0, .ref (z + mm_ad 6 0))] []), ∀ t9 : mm_T × Int32, lp_ (fun (K9 : mm_T × Int32 → Prop) (t9 : mm_T × Int32) => pX0_takeOver_l10 Po E10_39 (fun μ a2 => K9 (μ, a2)) t9.1 t9.2) t9 → jJ p l e ({ frames := 3, cells := 0, slots := 0, locals := 64 }) s m args below meth c D cy z (MQ below (va_Qv Po (mm_Po D cy z) (mm_A z)) args s 0 0 (mm_A z)) 3 t9.1 10 [(0, .ref (z + mm_ad 6 0)), (1, .ref (z + mm_ad 3 0)), (2, .int t9.2)] [] := by
    intro E10_39 hE10_39 t9 h
    refine lp_go (P := fun t9 : mm_T × Int32 => jJ p l e ({ frames := 3, cells := 0, slots := 0, locals := 64 }) s m args below meth c D cy z (MQ below (va_Qv Po (mm_Po D cy z) (mm_A z)) args s 0 0 (mm_A z)) 3 t9.1 10 [(0, .ref (z + mm_ad 6 0)), (1, .ref (z + mm_ad 3 0)), (2, .int t9.2)] []) (fun K9 t9 hK h => ?_) t9 h
    obtain ⟨μ, a2⟩ := t9
    obtain ⟨K10, eK10⟩ : ∃ K : mm_T → Int32 → Prop, K = (fun μ a2 => K9 (μ, a2)) := ⟨_, rfl⟩
    have hK10 : ∀ (μ : mm_T) (a2 : Int32), K10 μ a2 → jJ p l e ({ frames := 3, cells := 0, slots := 0, locals := 64 }) s m args below meth c D cy z (MQ below (va_Qv Po (mm_Po D cy z) (mm_A z)) args s 0 0 (mm_A z)) 3 μ 10 [(0, .ref (z + mm_ad 6 0)), (1, .ref (z + mm_ad 3 0)), (2, .int a2)] [] := fun μ a2 h9 => hK (μ, a2) (by rw [eK10] at h9; exact h9)
    replace h : pX0_takeOver_l10 Po E10_39 K10 μ a2 := by rw [eK10]; exact h
    unfold pX0_takeOver_l10 at h
    refine jr_iload_n (q := 11) C 2 dX0_takeOver_10 rfl rfl rfl ?_
    refine jr_aload_n (q := 12) C 0 dX0_takeOver_11 rfl rfl rfl ?_
    refine jr_getI (q := 15) (ci := 0) (Cn := RX0) (T := TX0) (N := 11) (j := 1) C mf_6 rfl rfl (by decide) rfl rfl nX0_takeOver_0 mX0_takeOver_1 dX0_takeOver_12 rfl rfl ?_
    refine jr_icmp_ge (q := 18) (tgt := 39) C dX0_takeOver_15 (by decide) rfl (fun c23 => ?_) (fun c23 => ?_)
    · replace h := h.1 c23
      refine jr_sub [0] rfl ?_
      exact hE10_39 _ h
    · replace h := h.2 c23
      refine jr_aload_n (q := 19) C 0 dX0_takeOver_18 rfl rfl rfl ?_
      refine jr_getR (q := 22) (ci := 0) (Cn := RX0) (T := TX0) (N := 11) (j := 0) C mf_6 rfl rfl (by decide) rfl 7 0 rfl rfl rfl nX0_takeOver_0 mX0_takeOver_9 dX0_takeOver_19 rfl rfl ?_
      refine jr_iload_n (q := 23) C 2 dX0_takeOver_22 rfl rfl rfl ?_
      obtain ⟨g20, h⟩ := h
      refine jr_aald (q := 24) (t := 1) C mf_7 9 (fun _ => rfl) (fun _ _ => rfl) rfl (by decide) g20 dX0_takeOver_23 rfl ?_
      refine jr_aload_n (q := 25) C 1 dX0_takeOver_24 rfl rfl rfl ?_
      refine jr_getR (q := 28) (ci := 8) (Cn := RX8) (T := TX8) (N := 6) (j := 0) C mf_3 rfl rfl (by decide) rfl 4 0 rfl rfl rfl nX0_takeOver_8 mX0_takeOver_14 dX0_takeOver_25 rfl rfl ?_
      refine jr_iload_n (q := 29) C 2 dX0_takeOver_28 rfl rfl rfl ?_
      obtain ⟨g21, h⟩ := h
      refine jr_aald (q := 30) (t := 3) C mf_4 5 (fun _ => rfl) (fun _ _ => rfl) rfl (by decide) g21 dX0_takeOver_29 rfl ?_
      refine jr_cvV (q := 33) (As := [.ref (z + mm_ad 5 a2.toNatClampNeg)]) (rest := []) C (f := 9) (i := a2.toNatClampNeg) (ci := 5) (mm_lt g21) rfl rfl rfl (kX5_begin l a2.toNatClampNeg a2.toNatClampNeg) rfl gX0_takeOver_X5_begin rfl dsc_X5_begin ⟨rfl, rfl⟩ ⟨by decide, by decide⟩ rfl rfl (Nat.le_of_ble_eq_true rfl) dX0_takeOver_30 rfl h (fun μ22 h => ?_)
      refine jr_iinc (q := 36) (lv' := [(2, .int (a2 + (1 : Int32))), (0, .ref (z + mm_ad 6 0)), (1, .ref (z + mm_ad 3 0))]) C 2 dX0_takeOver_33 rfl (by rfl) (by decide) rfl rfl ?_
      refine jr_goto (tgt := 10) C dX0_takeOver_36 (by decide) ?_
      refine jr_sub [1, 2, 0] rfl ?_
      exact hK10 _ _ h
  have x10_39 : ∀ (μ : mm_T), (lp_ (fun (K9 : mm_T × Int32 → Prop) (t9 : mm_T × Int32) => pX0_takeOver_l41 Po (fun μ => lp_ (fun (K9 : mm_T × Int32 → Prop) (t9 : mm_T × Int32) => pX0_takeOver_l87 Po (fun μ => ∀ μ4 : mm_T, μ4 = mm_L μ 6 0 2 (0 : Int64) → (∀ μ5 : mm_T, μ5 = mm_I μ4 6 0 3 (4 : Int32) → (∀ μ6 : mm_T, μ6 = mm_I μ5 15 0 0 (0 : Int32) → (pX9_clear (fun μ7 => pX0_changeLimit (fun μ8 => Po μ8) μ7 (400 : Int32)) μ6 )))) (fun μ a2 => K9 (μ, a2)) t9.1 t9.2) (μ, (0 : Int32))) (fun μ a2 => K9 (μ, a2)) t9.1 t9.2) (μ, (0 : Int32))) → jJ p l e ({ frames := 3, cells := 0, slots := 0, locals := 64 }) s m args below meth c D cy z (MQ below (va_Qv Po (mm_Po D cy z) (mm_A z)) args s 0 0 (mm_A z)) 3 μ 39 [(0, .ref (z + mm_ad 6 0))] [] := by
    intro μ h
    refine jr_iconst (q := 40) (v := (0 : Int32)) C dX0_takeOver_39 (by decide) rfl ?_
    refine jr_istore_n (q := 41) (lv' := [(2, .int (0 : Int32)), (0, .ref (z + mm_ad 6 0))]) C dX0_takeOver_40 rfl (by decide) rfl rfl ?_
    have l41 : ∀ (E41_85 : mm_T → Prop) (hE41_85 : ∀ (μ : mm_T), E41_85 μ → jJ p l e ({ frames := 3, cells := 0, slots := 0, locals := 64 }) s m args below meth c D cy z (MQ below (va_Qv Po (mm_Po D cy z) (mm_A z)) args s 0 0 (mm_A z)) 3 μ 85 [(0, .ref (z + mm_ad 6 0))] []), ∀ t9 : mm_T × Int32, lp_ (fun (K9 : mm_T × Int32 → Prop) (t9 : mm_T × Int32) => pX0_takeOver_l41 Po E41_85 (fun μ a2 => K9 (μ, a2)) t9.1 t9.2) t9 → jJ p l e ({ frames := 3, cells := 0, slots := 0, locals := 64 }) s m args below meth c D cy z (MQ below (va_Qv Po (mm_Po D cy z) (mm_A z)) args s 0 0 (mm_A z)) 3 t9.1 41 [(0, .ref (z + mm_ad 6 0)), (2, .int t9.2)] [] := by
      intro E41_85 hE41_85 t9 h
      refine lp_go (P := fun t9 : mm_T × Int32 => jJ p l e ({ frames := 3, cells := 0, slots := 0, locals := 64 }) s m args below meth c D cy z (MQ below (va_Qv Po (mm_Po D cy z) (mm_A z)) args s 0 0 (mm_A z)) 3 t9.1 41 [(0, .ref (z + mm_ad 6 0)), (2, .int t9.2)] []) (fun K9 t9 hK h => ?_) t9 h
      obtain ⟨μ, a2⟩ := t9
      obtain ⟨K41, eK41⟩ : ∃ K : mm_T → Int32 → Prop, K = (fun μ a2 => K9 (μ, a2)) := ⟨_, rfl⟩
      have hK41 : ∀ (μ : mm_T) (a2 : Int32), K41 μ a2 → jJ p l e ({ frames := 3, cells := 0, slots := 0, locals := 64 }) s m args below meth c D cy z (MQ below (va_Qv Po (mm_Po D cy z) (mm_A z)) args s 0 0 (mm_A z)) 3 μ 41 [(0, .ref (z + mm_ad 6 0)), (2, .int a2)] [] := fun μ a2 h9 => hK (μ, a2) (by rw [eK41] at h9; exact h9)
      replace h : pX0_takeOver_l41 Po E41_85 K41 μ a2 := by rw [eK41]; exact h
      unfold pX0_takeOver_l41 at h
      refine jr_iload_n (q := 42) C 1 dX0_takeOver_41 rfl rfl rfl ?_
      refine jr_aload_n (q := 43) C 0 dX0_takeOver_42 rfl rfl rfl ?_
      refine jr_getI (q := 46) (ci := 0) (Cn := RX0) (T := TX0) (N := 11) (j := 1) C mf_6 rfl rfl (by decide) rfl rfl nX0_takeOver_0 mX0_takeOver_1 dX0_takeOver_43 rfl rfl ?_
      refine jr_icmp_ge (q := 49) (tgt := 85) C dX0_takeOver_46 (by decide) rfl (fun c19 => ?_) (fun c19 => ?_)
      · replace h := h.1 c19
        refine jr_sub [0] rfl ?_
        exact hE41_85 _ h
      · replace h := h.2 c19
        refine jr_aload_n (q := 50) C 0 dX0_takeOver_49 rfl rfl rfl ?_
        refine jr_getR (q := 53) (ci := 0) (Cn := RX0) (T := TX0) (N := 11) (j := 0) C mf_6 rfl rfl (by decide) rfl 7 0 rfl rfl rfl nX0_takeOver_0 mX0_takeOver_9 dX0_takeOver_50 rfl rfl ?_
        refine jr_iload_n (q := 54) C 1 dX0_takeOver_53 rfl rfl rfl ?_
        obtain ⟨g12, h⟩ := h
        refine jr_aald (q := 55) (t := 1) C mf_7 9 (fun _ => rfl) (fun _ _ => rfl) rfl (by decide) g12 dX0_takeOver_54 rfl ?_
        refine jr_aload_n (q := 56) C 0 dX0_takeOver_55 rfl rfl rfl ?_
        refine jr_getR (q := 59) (ci := 0) (Cn := RX0) (T := TX0) (N := 11) (j := 0) C mf_6 rfl rfl (by decide) rfl 7 0 rfl rfl rfl nX0_takeOver_0 mX0_takeOver_9 dX0_takeOver_56 rfl rfl ?_
        refine jr_iload_n (q := 60) C 1 dX0_takeOver_59 rfl rfl rfl ?_
        obtain ⟨g13, h⟩ := h
        refine jr_aald (q := 61) (t := 1) C mf_7 9 (fun _ => rfl) (fun _ _ => rfl) rfl (by decide) g13 dX0_takeOver_60 rfl ?_
        refine jr_getI (q := 64) (ci := 5) (Cn := RX5) (T := TX5) (N := 8) (j := 0) C (mm_lt g13) rfl rfl (by decide) rfl rfl nX0_takeOver_5 mX0_takeOver_11 dX0_takeOver_61 rfl rfl ?_
        refine jr_if_eq (q := 67) (tgt := 75) C dX0_takeOver_64 (by decide) rfl (fun c18 => ?_) (fun c18 => ?_)
        · replace h := h.1 c18
          refine jr_iconst (q := 76) (v := (-1 : Int32)) C dX0_takeOver_75 (by decide) rfl ?_
          refine jr_putI (q := 79) (ci := 5) (Cn := RX5) (T := TX5) (N := 8) (j := 7) C (mm_lt g13) rfl rfl (by decide) rfl rfl tyX5 tyX5_ok nmX5 rfl (by decide +kernel) nX0_takeOver_5 mX0_takeOver_12 dX0_takeOver_76 rfl rfl ?_
          refine jn_mem (fun μ14 eμ14 => ?_)
          replace h := h μ14 eμ14
          refine jr_iinc (q := 82) (lv' := [(2, .int (a2 + (1 : Int32))), (0, .ref (z + mm_ad 6 0))]) C 1 dX0_takeOver_79 rfl (by rfl) (by decide) rfl rfl ?_
          refine jr_goto (tgt := 41) C dX0_takeOver_82 (by decide) ?_
          refine jr_sub [1, 0] rfl ?_
          exact hK41 _ _ h
        · replace h := h.2 c18
          refine jr_aload_n (q := 68) C 0 dX0_takeOver_67 rfl rfl rfl ?_
          refine jr_iconst (q := 69) (v := (0 : Int32)) C dX0_takeOver_68 (by decide) rfl ?_
          refine jr_cvI (q := 72) (As := [.int (0 : Int32)]) (rest := [.ref (z + mm_ad 9 a2.toNatClampNeg)]) C (f := 6) (i := 0) (ci := 0) mf_6 rfl rfl rfl (kX0_anchorFrom l (0 : Int32)) rfl gX0_takeOver_X0_anchorFrom rfl dsc_X0_anchorFrom ⟨rfl, rfl⟩ ⟨by decide, by decide⟩ rfl rfl (Nat.le_of_ble_eq_true rfl) dX0_takeOver_69 rfl h (fun r16 μ15 h => ?_)
          refine jr_goto (tgt := 76) C dX0_takeOver_72 (by decide) ?_
          refine jr_putI (q := 79) (ci := 5) (Cn := RX5) (T := TX5) (N := 8) (j := 7) C (mm_lt g13) rfl rfl (by decide) rfl rfl tyX5 tyX5_ok nmX5 rfl (by decide +kernel) nX0_takeOver_5 mX0_takeOver_12 dX0_takeOver_76 rfl rfl ?_
          refine jn_mem (fun μ17 eμ17 => ?_)
          replace h := h μ17 eμ17
          refine jr_iinc (q := 82) (lv' := [(2, .int (a2 + (1 : Int32))), (0, .ref (z + mm_ad 6 0))]) C 1 dX0_takeOver_79 rfl (by rfl) (by decide) rfl rfl ?_
          refine jr_goto (tgt := 41) C dX0_takeOver_82 (by decide) ?_
          refine jr_sub [1, 0] rfl ?_
          exact hK41 _ _ h
    have x41_85 : ∀ (μ : mm_T), (lp_ (fun (K9 : mm_T × Int32 → Prop) (t9 : mm_T × Int32) => pX0_takeOver_l87 Po (fun μ => ∀ μ4 : mm_T, μ4 = mm_L μ 6 0 2 (0 : Int64) → (∀ μ5 : mm_T, μ5 = mm_I μ4 6 0 3 (4 : Int32) → (∀ μ6 : mm_T, μ6 = mm_I μ5 15 0 0 (0 : Int32) → (pX9_clear (fun μ7 => pX0_changeLimit (fun μ8 => Po μ8) μ7 (400 : Int32)) μ6 )))) (fun μ a2 => K9 (μ, a2)) t9.1 t9.2) (μ, (0 : Int32))) → jJ p l e ({ frames := 3, cells := 0, slots := 0, locals := 64 }) s m args below meth c D cy z (MQ below (va_Qv Po (mm_Po D cy z) (mm_A z)) args s 0 0 (mm_A z)) 3 μ 85 [(0, .ref (z + mm_ad 6 0))] [] := by
      intro μ h
      refine jr_iconst (q := 86) (v := (0 : Int32)) C dX0_takeOver_85 (by decide) rfl ?_
      refine jr_istore_n (q := 87) (lv' := [(2, .int (0 : Int32)), (0, .ref (z + mm_ad 6 0))]) C dX0_takeOver_86 rfl (by decide) rfl rfl ?_
      have l87 : ∀ (E87_111 : mm_T → Prop) (hE87_111 : ∀ (μ : mm_T), E87_111 μ → jJ p l e ({ frames := 3, cells := 0, slots := 0, locals := 64 }) s m args below meth c D cy z (MQ below (va_Qv Po (mm_Po D cy z) (mm_A z)) args s 0 0 (mm_A z)) 3 μ 111 [(0, .ref (z + mm_ad 6 0))] []), ∀ t9 : mm_T × Int32, lp_ (fun (K9 : mm_T × Int32 → Prop) (t9 : mm_T × Int32) => pX0_takeOver_l87 Po E87_111 (fun μ a2 => K9 (μ, a2)) t9.1 t9.2) t9 → jJ p l e ({ frames := 3, cells := 0, slots := 0, locals := 64 }) s m args below meth c D cy z (MQ below (va_Qv Po (mm_Po D cy z) (mm_A z)) args s 0 0 (mm_A z)) 3 t9.1 87 [(0, .ref (z + mm_ad 6 0)), (2, .int t9.2)] [] := by
        intro E87_111 hE87_111 t9 h
        refine lp_go (P := fun t9 : mm_T × Int32 => jJ p l e ({ frames := 3, cells := 0, slots := 0, locals := 64 }) s m args below meth c D cy z (MQ below (va_Qv Po (mm_Po D cy z) (mm_A z)) args s 0 0 (mm_A z)) 3 t9.1 87 [(0, .ref (z + mm_ad 6 0)), (2, .int t9.2)] []) (fun K9 t9 hK h => ?_) t9 h
        obtain ⟨μ, a2⟩ := t9
        obtain ⟨K87, eK87⟩ : ∃ K : mm_T → Int32 → Prop, K = (fun μ a2 => K9 (μ, a2)) := ⟨_, rfl⟩
        have hK87 : ∀ (μ : mm_T) (a2 : Int32), K87 μ a2 → jJ p l e ({ frames := 3, cells := 0, slots := 0, locals := 64 }) s m args below meth c D cy z (MQ below (va_Qv Po (mm_Po D cy z) (mm_A z)) args s 0 0 (mm_A z)) 3 μ 87 [(0, .ref (z + mm_ad 6 0)), (2, .int a2)] [] := fun μ a2 h9 => hK (μ, a2) (by rw [eK87] at h9; exact h9)
        replace h : pX0_takeOver_l87 Po E87_111 K87 μ a2 := by rw [eK87]; exact h
        unfold pX0_takeOver_l87 at h
        refine jr_iload_n (q := 88) C 1 dX0_takeOver_87 rfl rfl rfl ?_
        refine jr_aload_n (q := 89) C 0 dX0_takeOver_88 rfl rfl rfl ?_
        refine jr_getR (q := 92) (ci := 0) (Cn := RX0) (T := TX0) (N := 11) (j := 7) C mf_6 rfl rfl (by decide) rfl 11 0 rfl rfl rfl nX0_takeOver_0 mX0_takeOver_8 dX0_takeOver_89 rfl rfl ?_
        refine jr_alen (q := 93) (v := (49 : Int32)) C mf_11 rfl rfl (by decide) (by decide) dX0_takeOver_92 rfl ?_
        refine jr_icmp_ge (q := 96) (tgt := 111) C dX0_takeOver_93 (by decide) rfl (fun c11 => ?_) (fun c11 => ?_)
        · replace h := h.1 c11
          refine jr_sub [0] rfl ?_
          exact hE87_111 _ h
        · replace h := h.2 c11
          refine jr_aload_n (q := 97) C 0 dX0_takeOver_96 rfl rfl rfl ?_
          refine jr_getR (q := 100) (ci := 0) (Cn := RX0) (T := TX0) (N := 11) (j := 7) C mf_6 rfl rfl (by decide) rfl 11 0 rfl rfl rfl nX0_takeOver_0 mX0_takeOver_8 dX0_takeOver_97 rfl rfl ?_
          refine jr_iload_n (q := 101) C 1 dX0_takeOver_100 rfl rfl rfl ?_
          obtain ⟨g9, h⟩ := h
          refine jr_aald (q := 102) (t := 0) C mf_11 12 (fun _ => rfl) (fun _ _ => rfl) rfl (by decide) g9 dX0_takeOver_101 rfl ?_
          refine jr_cvV (q := 105) (As := []) (rest := []) C (f := 12) (i := a2.toNatClampNeg) (ci := 4) (mm_lt g9) rfl rfl rfl (kX4_begin l a2.toNatClampNeg) rfl gX0_takeOver_X4_begin rfl dsc_X4_begin ⟨rfl, rfl⟩ ⟨by decide, by decide⟩ rfl rfl (Nat.le_of_ble_eq_true rfl) dX0_takeOver_102 rfl h (fun μ10 h => ?_)
          refine jr_iinc (q := 108) (lv' := [(2, .int (a2 + (1 : Int32))), (0, .ref (z + mm_ad 6 0))]) C 1 dX0_takeOver_105 rfl (by rfl) (by decide) rfl rfl ?_
          refine jr_goto (tgt := 87) C dX0_takeOver_108 (by decide) ?_
          refine jr_sub [1, 0] rfl ?_
          exact hK87 _ _ h
      have x87_111 : ∀ (μ : mm_T), (∀ μ4 : mm_T, μ4 = mm_L μ 6 0 2 (0 : Int64) → (∀ μ5 : mm_T, μ5 = mm_I μ4 6 0 3 (4 : Int32) → (∀ μ6 : mm_T, μ6 = mm_I μ5 15 0 0 (0 : Int32) → (pX9_clear (fun μ7 => pX0_changeLimit (fun μ8 => Po μ8) μ7 (400 : Int32)) μ6 )))) → jJ p l e ({ frames := 3, cells := 0, slots := 0, locals := 64 }) s m args below meth c D cy z (MQ below (va_Qv Po (mm_Po D cy z) (mm_A z)) args s 0 0 (mm_A z)) 3 μ 111 [(0, .ref (z + mm_ad 6 0))] [] := by
        intro μ h
        refine jr_aload_n (q := 112) C 0 dX0_takeOver_111 rfl rfl rfl ?_
        refine jr_lconst (q := 113) (v := (0 : Int64)) C dX0_takeOver_112 (by decide) rfl ?_
        refine jr_putL (q := 116) (ci := 0) (Cn := RX0) (T := TX0) (N := 11) (j := 2) C mf_6 rfl rfl (by decide) rfl rfl tyX0 tyX0_ok nmX0 rfl (by decide +kernel) nX0_takeOver_0 mX0_takeOver_2 dX0_takeOver_113 rfl rfl ?_
        refine jn_mem (fun μ4 eμ4 => ?_)
        replace h := h μ4 eμ4
        refine jr_aload_n (q := 117) C 0 dX0_takeOver_116 rfl rfl rfl ?_
        refine jr_iconst (q := 118) (v := (4 : Int32)) C dX0_takeOver_117 (by decide) rfl ?_
        refine jr_putI (q := 121) (ci := 0) (Cn := RX0) (T := TX0) (N := 11) (j := 3) C mf_6 rfl rfl (by decide) rfl rfl tyX0 tyX0_ok nmX0 rfl (by decide +kernel) nX0_takeOver_0 mX0_takeOver_3 dX0_takeOver_118 rfl rfl ?_
        refine jn_mem (fun μ5 eμ5 => ?_)
        replace h := h μ5 eμ5
        refine jr_aload_n (q := 122) C 0 dX0_takeOver_121 rfl rfl rfl ?_
        refine jr_getR (q := 125) (ci := 0) (Cn := RX0) (T := TX0) (N := 11) (j := 5) C mf_6 rfl rfl (by decide) rfl 15 0 rfl rfl rfl nX0_takeOver_0 mX0_takeOver_4 dX0_takeOver_122 rfl rfl ?_
        refine jr_iconst (q := 126) (v := (0 : Int32)) C dX0_takeOver_125 (by decide) rfl ?_
        refine jr_putZ (q := 129) (ci := 3) (Cn := RX3) (T := TX3) (N := 9) (j := 0) C mf_15 rfl rfl (by decide) rfl (by decide) rfl tyX3 tyX3_ok nmX3 rfl (by decide +kernel) nX0_takeOver_3 mX0_takeOver_6 dX0_takeOver_126 rfl rfl ?_
        refine jn_mem (fun μ6 eμ6 => ?_)
        replace h := h μ6 eμ6
        refine jr_aload_n (q := 130) C 0 dX0_takeOver_129 rfl rfl rfl ?_
        refine jr_getR (q := 133) (ci := 0) (Cn := RX0) (T := TX0) (N := 11) (j := 6) C mf_6 rfl rfl (by decide) rfl 17 0 rfl rfl rfl nX0_takeOver_0 mX0_takeOver_7 dX0_takeOver_130 rfl rfl ?_
        refine jr_cvV (q := 136) (As := []) (rest := []) C (f := 17) (i := 0) (ci := 9) mf_17 rfl rfl rfl (kX9_clear l) rfl gX0_takeOver_X9_clear rfl dsc_X9_clear ⟨rfl, rfl⟩ ⟨by decide, by decide⟩ rfl rfl (Nat.le_of_ble_eq_true rfl) dX0_takeOver_133 rfl h (fun μ7 h => ?_)
        refine jr_aload_n (q := 137) C 0 dX0_takeOver_136 rfl rfl rfl ?_
        refine jr_sipush (q := 140) (v := (400 : Int32)) C dX0_takeOver_137 (by decide) rfl ?_
        refine jr_cvV (q := 143) (As := [.int (400 : Int32)]) (rest := []) C (f := 6) (i := 0) (ci := 0) mf_6 rfl rfl rfl (kX0_changeLimit l (400 : Int32)) rfl gX0_takeOver_X0_changeLimit rfl dsc_X0_changeLimit ⟨rfl, rfl⟩ ⟨by decide, by decide⟩ rfl rfl (Nat.le_of_ble_eq_true rfl) dX0_takeOver_140 rfl h (fun μ8 h => ?_)
        exact jr_vret C hr hk dX0_takeOver_143 h
      refine jr_sub [1, 0] rfl ?_
      exact l87 _ x87_111 _ h
    refine jr_sub [1, 0] rfl ?_
    exact l41 _ x41_85 _ h
  refine jr_sub [1, 2, 0] rfl ?_
  exact l10 _ x10_39 _ h
theorem nX0_isRead_0 : ∀ w ∈ wsX00, w ∈ wsX0_isRead := fun _ h => List.mem_cons_of_mem _ (List.mem_append_right _ h)
theorem mX0_isRead_1 : Cond.fieldLink RX0 68 RX0 (TX0 1).2.1 (TX0 1).2.2.1 ∈ wsX0_isRead := List.mem_of_getElem? (i := 1) (by decide +kernel)
theorem dsc_X0_isRead : yX0_isRead.cls ≠ "java/lang/invoke/MethodHandle" ∧ yX0_isRead.cls ≠ "java/lang/invoke/VarHandle" ∧ (parseMethodDescriptor yX0_isRead.desc).map (fun d => d.parameters.length) = some 0 := by decide +kernel
def pX0_isRead (Po : Int32 → mm_T → Prop) (μ : mm_T) : Prop := ((μ.1 6 0 1) ≤ 0 → Po (0 : Int32) μ) ∧ (¬ ((μ.1 6 0 1) ≤ 0) → Po (1 : Int32) μ)
set_option maxHeartbeats 4000000 in
set_option maxRecDepth 100000 in
theorem kX0_isRead (l : Launch) : mm_CI l yX0_isRead wsX0_isRead ({ frames := 0, cells := 0, slots := 0, locals := 0 }) (fun z => [.ref (z + mm_ad 6 0)]) (fun μ Po => pX0_isRead Po μ) := by
  refine je_Z (cc := cX0_isRead) (nL := 1) (own := RX0) (plainFor_of_name (by decide)) rfl rfl (fun _ => Nat.le_of_ble_eq_true rfl) ?_
  intro p e s m args below meth c D cy z μ Po C hr hk h
  change jJ p l e ({ frames := 0, cells := 0, slots := 0, locals := 0 }) s m args below meth c D cy z (MQ below (va_Qi Po (mm_Po D cy z) (mm_A z)) args s 0 0 (mm_A z)) 1 μ 0 [(0, .ref (z + mm_ad 6 0))] []
  replace h : pX0_isRead Po μ := h
  unfold pX0_isRead at h
  refine jr_aload_n (q := 1) C 0 dX0_isRead_0 rfl rfl rfl ?_
  refine jr_getI (q := 4) (ci := 0) (Cn := RX0) (T := TX0) (N := 11) (j := 1) C mf_6 rfl rfl (by decide) rfl rfl nX0_isRead_0 mX0_isRead_1 dX0_isRead_1 rfl rfl ?_
  refine jr_if_le (q := 7) (tgt := 11) C dX0_isRead_4 (by decide) rfl (fun c1 => ?_) (fun c1 => ?_)
  · replace h := h.1 c1
    refine jr_iconst (q := 12) (v := (0 : Int32)) C dX0_isRead_11 (by decide) rfl ?_
    exact jr_zret C hr hk dX0_isRead_12 (by decide) h
  · replace h := h.2 c1
    refine jr_iconst (q := 8) (v := (1 : Int32)) C dX0_isRead_7 (by decide) rfl ?_
    refine jr_goto (tgt := 12) C dX0_isRead_8 (by decide) ?_
    exact jr_zret C hr hk dX0_isRead_12 (by decide) h
theorem nX0_isTag_0 : ∀ w ∈ wsX00, w ∈ wsX0_isTag := fun _ h => List.mem_cons_of_mem _ (List.mem_append_left _ (List.mem_append_right _ h))
theorem mX0_isTag_1 : Cond.fieldLink RX0 11 RX0 (TX0 0).2.1 (TX0 0).2.2.1 ∈ wsX0_isTag := List.mem_of_getElem? (i := 1) (by decide +kernel)
theorem nX0_isTag_5 : ∀ w ∈ wsX50, w ∈ wsX0_isTag := fun _ h => List.mem_cons_of_mem _ (List.mem_append_right _ h)
theorem mX0_isTag_3 : Cond.fieldLink RX0 80 RX5 (TX5 0).2.1 (TX5 0).2.2.1 ∈ wsX0_isTag := List.mem_of_getElem? (i := 2) (by decide +kernel)
theorem dsc_X0_isTag : yX0_isTag.cls ≠ "java/lang/invoke/MethodHandle" ∧ yX0_isTag.cls ≠ "java/lang/invoke/VarHandle" ∧ (parseMethodDescriptor yX0_isTag.desc).map (fun d => d.parameters.length) = some 1 := by decide +kernel
def pX0_isTag (Po : Int32 → mm_T → Prop) (μ : mm_T) (p1 : Int32) : Prop := pX0_has (fun r2 μ1 => (r2 = 0 → Po (0 : Int32) μ1) ∧ (¬ (r2 = 0) → (vp_in p1 7) ∧ (((μ1.1 9 p1.toNatClampNeg 0) = 0 → Po (0 : Int32) μ1) ∧ (¬ ((μ1.1 9 p1.toNatClampNeg 0) = 0) → Po (1 : Int32) μ1)))) μ p1
set_option maxHeartbeats 4000000 in
set_option maxRecDepth 100000 in
theorem kX0_isTag (l : Launch) (p1 : Int32) : mm_CI l yX0_isTag wsX0_isTag ({ frames := 1, cells := 0, slots := 0, locals := 21 }) (fun z => [.ref (z + mm_ad 6 0), .int p1]) (fun μ Po => pX0_isTag Po μ p1) := by
  refine je_Z (cc := cX0_isTag) (nL := 2) (own := RX0) (plainFor_of_name (by decide)) rfl rfl (fun _ => Nat.le_of_ble_eq_true rfl) ?_
  intro p e s m args below meth c D cy z μ Po C hr hk h
  change jJ p l e ({ frames := 1, cells := 0, slots := 0, locals := 21 }) s m args below meth c D cy z (MQ below (va_Qi Po (mm_Po D cy z) (mm_A z)) args s 0 0 (mm_A z)) 2 μ 0 [(0, .ref (z + mm_ad 6 0)), (1, .int p1)] []
  replace h : pX0_isTag Po μ p1 := h
  unfold pX0_isTag at h
  refine jr_aload_n (q := 1) C 0 dX0_isTag_0 rfl rfl rfl ?_
  refine jr_iload_n (q := 2) C 1 dX0_isTag_1 rfl rfl rfl ?_
  refine jr_cvI (q := 5) (As := [.int p1]) (rest := []) C (f := 6) (i := 0) (ci := 0) mf_6 rfl rfl rfl (kX0_has l p1) rfl gX0_isTag_X0_has rfl dsc_X0_has ⟨rfl, rfl⟩ ⟨by decide, by decide⟩ rfl rfl (Nat.le_of_ble_eq_true rfl) dX0_isTag_2 rfl h (fun r2 μ1 h => ?_)
  refine jr_if_eq (q := 8) (tgt := 24) C dX0_isTag_5 (by decide) rfl (fun c5 => ?_) (fun c5 => ?_)
  · replace h := h.1 c5
    refine jr_iconst (q := 25) (v := (0 : Int32)) C dX0_isTag_24 (by decide) rfl ?_
    exact jr_zret C hr hk dX0_isTag_25 (by decide) h
  · replace h := h.2 c5
    refine jr_aload_n (q := 9) C 0 dX0_isTag_8 rfl rfl rfl ?_
    refine jr_getR (q := 12) (ci := 0) (Cn := RX0) (T := TX0) (N := 11) (j := 0) C mf_6 rfl rfl (by decide) rfl 7 0 rfl rfl rfl nX0_isTag_0 mX0_isTag_1 dX0_isTag_9 rfl rfl ?_
    refine jr_iload_n (q := 13) C 1 dX0_isTag_12 rfl rfl rfl ?_
    obtain ⟨g3, h⟩ := h
    refine jr_aald (q := 14) (t := 1) C mf_7 9 (fun _ => rfl) (fun _ _ => rfl) rfl (by decide) g3 dX0_isTag_13 rfl ?_
    refine jr_getI (q := 17) (ci := 5) (Cn := RX5) (T := TX5) (N := 8) (j := 0) C (mm_lt g3) rfl rfl (by decide) rfl rfl nX0_isTag_5 mX0_isTag_3 dX0_isTag_14 rfl rfl ?_
    refine jr_if_eq (q := 20) (tgt := 24) C dX0_isTag_17 (by decide) rfl (fun c4 => ?_) (fun c4 => ?_)
    · replace h := h.1 c4
      refine jr_iconst (q := 25) (v := (0 : Int32)) C dX0_isTag_24 (by decide) rfl ?_
      exact jr_zret C hr hk dX0_isTag_25 (by decide) h
    · replace h := h.2 c4
      refine jr_iconst (q := 21) (v := (1 : Int32)) C dX0_isTag_20 (by decide) rfl ?_
      refine jr_goto (tgt := 25) C dX0_isTag_21 (by decide) ?_
      exact jr_zret C hr hk dX0_isTag_25 (by decide) h
theorem dsc_X0_hasPair : yX0_hasPair.cls ≠ "java/lang/invoke/MethodHandle" ∧ yX0_hasPair.cls ≠ "java/lang/invoke/VarHandle" ∧ (parseMethodDescriptor yX0_hasPair.desc).map (fun d => d.parameters.length) = some 2 := by decide +kernel
def pX0_hasPair (Po : Int32 → mm_T → Prop) (μ : mm_T) (p1 : Int32) (p2 : Int32) : Prop := pX0_isTag (fun r2 μ1 => (r2 = 0 → Po (0 : Int32) μ1) ∧ (¬ (r2 = 0) → pX0_isAnchor (fun r4 μ3 => (r4 = 0 → Po (0 : Int32) μ3) ∧ (¬ (r4 = 0) → Po (1 : Int32) μ3)) μ1 p2)) μ p1
set_option maxHeartbeats 4000000 in
set_option maxRecDepth 100000 in
theorem kX0_hasPair (l : Launch) (p1 : Int32) (p2 : Int32) : mm_CI l yX0_hasPair wsX0_hasPair ({ frames := 2, cells := 0, slots := 0, locals := 42 }) (fun z => [.ref (z + mm_ad 6 0), .int p1, .int p2]) (fun μ Po => pX0_hasPair Po μ p1 p2) := by
  refine je_Z (cc := cX0_hasPair) (nL := 3) (own := RX0) (plainFor_of_name (by decide)) rfl rfl (fun _ => Nat.le_of_ble_eq_true rfl) ?_
  intro p e s m args below meth c D cy z μ Po C hr hk h
  change jJ p l e ({ frames := 2, cells := 0, slots := 0, locals := 42 }) s m args below meth c D cy z (MQ below (va_Qi Po (mm_Po D cy z) (mm_A z)) args s 0 0 (mm_A z)) 3 μ 0 [(0, .ref (z + mm_ad 6 0)), (1, .int p1), (2, .int p2)] []
  replace h : pX0_hasPair Po μ p1 p2 := h
  unfold pX0_hasPair at h
  refine jr_aload_n (q := 1) C 0 dX0_hasPair_0 rfl rfl rfl ?_
  refine jr_iload_n (q := 2) C 1 dX0_hasPair_1 rfl rfl rfl ?_
  refine jr_cvI (q := 5) (As := [.int p1]) (rest := []) C (f := 6) (i := 0) (ci := 0) mf_6 rfl rfl rfl (kX0_isTag l p1) rfl gX0_hasPair_X0_isTag rfl dsc_X0_isTag ⟨rfl, rfl⟩ ⟨by decide, by decide⟩ rfl rfl (Nat.le_of_ble_eq_true rfl) dX0_hasPair_2 rfl h (fun r2 μ1 h => ?_)
  refine jr_if_eq (q := 8) (tgt := 20) C dX0_hasPair_5 (by decide) rfl (fun c6 => ?_) (fun c6 => ?_)
  · replace h := h.1 c6
    refine jr_iconst (q := 21) (v := (0 : Int32)) C dX0_hasPair_20 (by decide) rfl ?_
    exact jr_zret C hr hk dX0_hasPair_21 (by decide) h
  · replace h := h.2 c6
    refine jr_aload_n (q := 9) C 0 dX0_hasPair_8 rfl rfl rfl ?_
    refine jr_iload_n (q := 10) C 2 dX0_hasPair_9 rfl rfl rfl ?_
    refine jr_cvI (q := 13) (As := [.int p2]) (rest := []) C (f := 6) (i := 0) (ci := 0) mf_6 rfl rfl rfl (kX0_isAnchor l p2) rfl gX0_hasPair_X0_isAnchor rfl dsc_X0_isAnchor ⟨rfl, rfl⟩ ⟨by decide, by decide⟩ rfl rfl (Nat.le_of_ble_eq_true rfl) dX0_hasPair_10 rfl h (fun r4 μ3 h => ?_)
    refine jr_if_eq (q := 16) (tgt := 20) C dX0_hasPair_13 (by decide) rfl (fun c5 => ?_) (fun c5 => ?_)
    · replace h := h.1 c5
      refine jr_iconst (q := 21) (v := (0 : Int32)) C dX0_hasPair_20 (by decide) rfl ?_
      exact jr_zret C hr hk dX0_hasPair_21 (by decide) h
    · replace h := h.2 c5
      refine jr_iconst (q := 17) (v := (1 : Int32)) C dX0_hasPair_16 (by decide) rfl ?_
      refine jr_goto (tgt := 21) C dX0_hasPair_17 (by decide) ?_
      exact jr_zret C hr hk dX0_hasPair_21 (by decide) h
theorem nX0_tagCount_0 : ∀ w ∈ wsX00, w ∈ wsX0_tagCount := fun _ h => List.mem_cons_of_mem _ (List.mem_append_left _ (List.mem_append_right _ h))
theorem mX0_tagCount_1 : Cond.fieldLink RX0 68 RX0 (TX0 1).2.1 (TX0 1).2.2.1 ∈ wsX0_tagCount := List.mem_of_getElem? (i := 1) (by decide +kernel)
theorem dsc_X0_tagCount : yX0_tagCount.cls ≠ "java/lang/invoke/MethodHandle" ∧ yX0_tagCount.cls ≠ "java/lang/invoke/VarHandle" ∧ (parseMethodDescriptor yX0_tagCount.desc).map (fun d => d.parameters.length) = some 0 := by decide +kernel
def pX0_tagCount_l4 (Po : Int32 → mm_T → Prop) (E4_29 : mm_T → Int32 → Prop) (K4 : mm_T → Int32 → Int32 → Prop) (μ : mm_T) (a1 : Int32) (a2 : Int32) : Prop := ((μ.1 6 0 1) ≤ a2 → E4_29 μ a1) ∧ (¬ ((μ.1 6 0 1) ≤ a2) → pX0_isTag (fun r2 μ1 => (r2 = 0 → K4 μ1 a1 (a2 + (1 : Int32))) ∧ (¬ (r2 = 0) → K4 μ1 (a1 + (1 : Int32)) (a2 + (1 : Int32)))) μ a2)
def pX0_tagCount (Po : Int32 → mm_T → Prop) (μ : mm_T) : Prop := lp_ (fun (K9 : mm_T × Int32 × Int32 → Prop) (t9 : mm_T × Int32 × Int32) => pX0_tagCount_l4 Po (fun μ c1 => Po c1 μ) (fun μ a1 a2 => K9 (μ, a1, a2)) t9.1 t9.2.1 t9.2.2) (μ, (0 : Int32), (0 : Int32))
set_option maxHeartbeats 4000000 in
set_option maxRecDepth 100000 in
theorem kX0_tagCount (l : Launch) : mm_CI l yX0_tagCount wsX0_tagCount ({ frames := 2, cells := 0, slots := 0, locals := 42 }) (fun z => [.ref (z + mm_ad 6 0)]) (fun μ Po => pX0_tagCount Po μ) := by
  refine je_I (cc := cX0_tagCount) (nL := 3) (own := RX0) (plainFor_of_name (by decide)) rfl rfl (fun _ => Nat.le_of_ble_eq_true rfl) ?_
  intro p e s m args below meth c D cy z μ Po C hr hk h
  change jJ p l e ({ frames := 2, cells := 0, slots := 0, locals := 42 }) s m args below meth c D cy z (MQ below (va_Qi Po (mm_Po D cy z) (mm_A z)) args s 0 0 (mm_A z)) 3 μ 0 [(0, .ref (z + mm_ad 6 0))] []
  replace h : pX0_tagCount Po μ := h
  unfold pX0_tagCount at h
  refine jr_iconst (q := 1) (v := (0 : Int32)) C dX0_tagCount_0 (by decide) rfl ?_
  refine jr_istore_n (q := 2) (lv' := [(1, .int (0 : Int32)), (0, .ref (z + mm_ad 6 0))]) C dX0_tagCount_1 rfl (by decide) rfl rfl ?_
  refine jr_iconst (q := 3) (v := (0 : Int32)) C dX0_tagCount_2 (by decide) rfl ?_
  refine jr_istore_n (q := 4) (lv' := [(2, .int (0 : Int32)), (1, .int (0 : Int32)), (0, .ref (z + mm_ad 6 0))]) C dX0_tagCount_3 rfl (by decide) rfl rfl ?_
  have l4 : ∀ (E4_29 : mm_T → Int32 → Prop) (hE4_29 : ∀ (μ : mm_T) (c1 : Int32), E4_29 μ c1 → jJ p l e ({ frames := 2, cells := 0, slots := 0, locals := 42 }) s m args below meth c D cy z (MQ below (va_Qi Po (mm_Po D cy z) (mm_A z)) args s 0 0 (mm_A z)) 3 μ 29 [(1, .int c1)] []), ∀ t9 : mm_T × Int32 × Int32, lp_ (fun (K9 : mm_T × Int32 × Int32 → Prop) (t9 : mm_T × Int32 × Int32) => pX0_tagCount_l4 Po E4_29 (fun μ a1 a2 => K9 (μ, a1, a2)) t9.1 t9.2.1 t9.2.2) t9 → jJ p l e ({ frames := 2, cells := 0, slots := 0, locals := 42 }) s m args below meth c D cy z (MQ below (va_Qi Po (mm_Po D cy z) (mm_A z)) args s 0 0 (mm_A z)) 3 t9.1 4 [(0, .ref (z + mm_ad 6 0)), (1, .int t9.2.1), (2, .int t9.2.2)] [] := by
    intro E4_29 hE4_29 t9 h
    refine lp_go (P := fun t9 : mm_T × Int32 × Int32 => jJ p l e ({ frames := 2, cells := 0, slots := 0, locals := 42 }) s m args below meth c D cy z (MQ below (va_Qi Po (mm_Po D cy z) (mm_A z)) args s 0 0 (mm_A z)) 3 t9.1 4 [(0, .ref (z + mm_ad 6 0)), (1, .int t9.2.1), (2, .int t9.2.2)] []) (fun K9 t9 hK h => ?_) t9 h
    obtain ⟨μ, a1, a2⟩ := t9
    obtain ⟨K4, eK4⟩ : ∃ K : mm_T → Int32 → Int32 → Prop, K = (fun μ a1 a2 => K9 (μ, a1, a2)) := ⟨_, rfl⟩
    have hK4 : ∀ (μ : mm_T) (a1 : Int32) (a2 : Int32), K4 μ a1 a2 → jJ p l e ({ frames := 2, cells := 0, slots := 0, locals := 42 }) s m args below meth c D cy z (MQ below (va_Qi Po (mm_Po D cy z) (mm_A z)) args s 0 0 (mm_A z)) 3 μ 4 [(0, .ref (z + mm_ad 6 0)), (1, .int a1), (2, .int a2)] [] := fun μ a1 a2 h9 => hK (μ, a1, a2) (by rw [eK4] at h9; exact h9)
    replace h : pX0_tagCount_l4 Po E4_29 K4 μ a1 a2 := by rw [eK4]; exact h
    unfold pX0_tagCount_l4 at h
    refine jr_iload_n (q := 5) C 2 dX0_tagCount_4 rfl rfl rfl ?_
    refine jr_aload_n (q := 6) C 0 dX0_tagCount_5 rfl rfl rfl ?_
    refine jr_getI (q := 9) (ci := 0) (Cn := RX0) (T := TX0) (N := 11) (j := 1) C mf_6 rfl rfl (by decide) rfl rfl nX0_tagCount_0 mX0_tagCount_1 dX0_tagCount_6 rfl rfl ?_
    refine jr_icmp_ge (q := 12) (tgt := 29) C dX0_tagCount_9 (by decide) rfl (fun c4 => ?_) (fun c4 => ?_)
    · replace h := h.1 c4
      refine jr_sub [1] rfl ?_
      exact hE4_29 _ _ h
    · replace h := h.2 c4
      refine jr_aload_n (q := 13) C 0 dX0_tagCount_12 rfl rfl rfl ?_
      refine jr_iload_n (q := 14) C 2 dX0_tagCount_13 rfl rfl rfl ?_
      refine jr_cvI (q := 17) (As := [.int a2]) (rest := []) C (f := 6) (i := 0) (ci := 0) mf_6 rfl rfl rfl (kX0_isTag l a2) rfl gX0_tagCount_X0_isTag rfl dsc_X0_isTag ⟨rfl, rfl⟩ ⟨by decide, by decide⟩ rfl rfl (Nat.le_of_ble_eq_true rfl) dX0_tagCount_14 rfl h (fun r2 μ1 h => ?_)
      refine jr_if_eq (q := 20) (tgt := 23) C dX0_tagCount_17 (by decide) rfl (fun c3 => ?_) (fun c3 => ?_)
      · replace h := h.1 c3
        refine jr_iinc (q := 26) (lv' := [(2, .int (a2 + (1 : Int32))), (0, .ref (z + mm_ad 6 0)), (1, .int a1)]) C 2 dX0_tagCount_23 rfl (by rfl) (by decide) rfl rfl ?_
        refine jr_goto (tgt := 4) C dX0_tagCount_26 (by decide) ?_
        refine jr_sub [1, 2, 0] rfl ?_
        exact hK4 _ _ _ h
      · replace h := h.2 c3
        refine jr_iinc (q := 23) (lv' := [(1, .int (a1 + (1 : Int32))), (0, .ref (z + mm_ad 6 0)), (2, .int a2)]) C 1 dX0_tagCount_20 rfl (by rfl) (by decide) rfl rfl ?_
        refine jr_iinc (q := 26) (lv' := [(2, .int (a2 + (1 : Int32))), (1, .int (a1 + (1 : Int32))), (0, .ref (z + mm_ad 6 0))]) C 2 dX0_tagCount_23 rfl (by rfl) (by decide) rfl rfl ?_
        refine jr_goto (tgt := 4) C dX0_tagCount_26 (by decide) ?_
        refine jr_sub [2, 1, 0] rfl ?_
        exact hK4 _ _ _ h
  have x4_29 : ∀ (μ : mm_T) (c1 : Int32), (Po c1 μ) → jJ p l e ({ frames := 2, cells := 0, slots := 0, locals := 42 }) s m args below meth c D cy z (MQ below (va_Qi Po (mm_Po D cy z) (mm_A z)) args s 0 0 (mm_A z)) 3 μ 29 [(1, .int c1)] [] := by
    intro μ c1 h
    refine jr_iload_n (q := 30) C 0 dX0_tagCount_29 rfl rfl rfl ?_
    exact jr_iret C hr hk dX0_tagCount_30 h
  refine jr_sub [2, 1, 0] rfl ?_
  exact l4 _ x4_29 _ h
theorem dsc_X0_anchorBehind : yX0_anchorBehind.cls ≠ "java/lang/invoke/MethodHandle" ∧ yX0_anchorBehind.cls ≠ "java/lang/invoke/VarHandle" ∧ (parseMethodDescriptor yX0_anchorBehind.desc).map (fun d => d.parameters.length) = some 1 := by decide +kernel
def pX0_anchorBehind (Po : Int32 → mm_T → Prop) (μ : mm_T) (p1 : Int32) : Prop := pX0_anchorFrom (fun r2 μ1 => (¬ r2 = (-1 : Int32) → Po r2 μ1) ∧ (r2 = (-1 : Int32) → pX0_anchorFrom (fun r4 μ3 => Po r4 μ3) μ1 (0 : Int32))) μ (p1 + (1 : Int32))
set_option maxHeartbeats 4000000 in
set_option maxRecDepth 100000 in
theorem kX0_anchorBehind (l : Launch) (p1 : Int32) : mm_CI l yX0_anchorBehind wsX0_anchorBehind ({ frames := 3, cells := 0, slots := 0, locals := 64 }) (fun z => [.ref (z + mm_ad 6 0), .int p1]) (fun μ Po => pX0_anchorBehind Po μ p1) := by
  refine je_I (cc := cX0_anchorBehind) (nL := 3) (own := RX0) (plainFor_of_name (by decide)) rfl rfl (fun _ => Nat.le_of_ble_eq_true rfl) ?_
  intro p e s m args below meth c D cy z μ Po C hr hk h
  change jJ p l e ({ frames := 3, cells := 0, slots := 0, locals := 64 }) s m args below meth c D cy z (MQ below (va_Qi Po (mm_Po D cy z) (mm_A z)) args s 0 0 (mm_A z)) 3 μ 0 [(0, .ref (z + mm_ad 6 0)), (1, .int p1)] []
  replace h : pX0_anchorBehind Po μ p1 := h
  unfold pX0_anchorBehind at h
  refine jr_aload_n (q := 1) C 0 dX0_anchorBehind_0 rfl rfl rfl ?_
  refine jr_iload_n (q := 2) C 1 dX0_anchorBehind_1 rfl rfl rfl ?_
  refine jr_iconst (q := 3) (v := (1 : Int32)) C dX0_anchorBehind_2 (by decide) rfl ?_
  refine jr_iadd (q := 4) C dX0_anchorBehind_3 rfl ?_
  refine jr_cvI (q := 7) (As := [.int (p1 + (1 : Int32))]) (rest := []) C (f := 6) (i := 0) (ci := 0) mf_6 rfl rfl rfl (kX0_anchorFrom l (p1 + (1 : Int32))) rfl gX0_anchorBehind_X0_anchorFrom rfl dsc_X0_anchorFrom ⟨rfl, rfl⟩ ⟨by decide, by decide⟩ rfl rfl (Nat.le_of_ble_eq_true rfl) dX0_anchorBehind_4 rfl h (fun r2 μ1 h => ?_)
  refine jr_istore_n (q := 8) (lv' := [(2, .int r2), (0, .ref (z + mm_ad 6 0)), (1, .int p1)]) C dX0_anchorBehind_7 rfl (by decide) rfl rfl ?_
  refine jr_iload_n (q := 9) C 0 dX0_anchorBehind_8 rfl rfl rfl ?_
  refine jr_iconst (q := 10) (v := (-1 : Int32)) C dX0_anchorBehind_9 (by decide) rfl ?_
  refine jr_icmp_ne (q := 13) (tgt := 21) C dX0_anchorBehind_10 (by decide) rfl (fun c5 => ?_) (fun c5 => ?_)
  · replace h := h.1 c5
    refine jr_iload_n (q := 22) C 0 dX0_anchorBehind_21 rfl rfl rfl ?_
    exact jr_iret C hr hk dX0_anchorBehind_22 h
  · replace h := h.2 c5
    refine jr_aload_n (q := 14) C 1 dX0_anchorBehind_13 rfl rfl rfl ?_
    refine jr_iconst (q := 15) (v := (0 : Int32)) C dX0_anchorBehind_14 (by decide) rfl ?_
    refine jr_cvI (q := 18) (As := [.int (0 : Int32)]) (rest := []) C (f := 6) (i := 0) (ci := 0) mf_6 rfl rfl rfl (kX0_anchorFrom l (0 : Int32)) rfl gX0_anchorBehind_X0_anchorFrom rfl dsc_X0_anchorFrom ⟨rfl, rfl⟩ ⟨by decide, by decide⟩ rfl rfl (Nat.le_of_ble_eq_true rfl) dX0_anchorBehind_15 rfl h (fun r4 μ3 h => ?_)
    refine jr_goto (tgt := 22) C dX0_anchorBehind_18 (by decide) ?_
    exact jr_iret C hr hk dX0_anchorBehind_22 h
theorem nX0_linkOf_0 : ∀ w ∈ wsX00, w ∈ wsX0_linkOf := fun _ h => List.mem_cons_of_mem _ (List.mem_append_right _ h)
theorem mX0_linkOf_1 : Cond.fieldLink RX0 27 RX0 (TX0 7).2.1 (TX0 7).2.2.1 ∈ wsX0_linkOf := List.mem_of_getElem? (i := 1) (by decide +kernel)
theorem dsc_X0_linkOf : yX0_linkOf.cls ≠ "java/lang/invoke/MethodHandle" ∧ yX0_linkOf.cls ≠ "java/lang/invoke/VarHandle" ∧ (parseMethodDescriptor yX0_linkOf.desc).map (fun d => d.parameters.length) = some 2 := by decide +kernel
def pX0_linkOf (Po : Nat → mm_T → Prop) (μ : mm_T) (p1 : Int32) (p2 : Int32) : Prop := (vp_in ((p1 * (7 : Int32)) + p2) 49) ∧ (Po (((p1 * (7 : Int32)) + p2).toNatClampNeg) μ)
set_option maxHeartbeats 4000000 in
set_option maxRecDepth 100000 in
theorem kX0_linkOf (l : Launch) (p1 : Int32) (p2 : Int32) : mm_CR 12 l yX0_linkOf wsX0_linkOf ({ frames := 0, cells := 0, slots := 0, locals := 0 }) (fun z => [.ref (z + mm_ad 6 0), .int p1, .int p2]) (fun μ Po => pX0_linkOf Po μ p1 p2) := by
  refine je_R (cc := cX0_linkOf) (nL := 3) (own := RX0) (plainFor_of_name (by decide)) rfl rfl (fun _ => Nat.le_of_ble_eq_true rfl) ?_
  intro p e s m args below meth c D cy z μ Po C hr hk h
  change jJ p l e ({ frames := 0, cells := 0, slots := 0, locals := 0 }) s m args below meth c D cy z (MQ below (va_Qr (fun u : Nat × mm_T => Po u.1 u.2) (fun u a t => a = z + mm_ad 12 u.1 ∧ mm_Po D cy z u.2 t) (mm_A z)) args s 0 0 (mm_A z)) 3 μ 0 [(0, .ref (z + mm_ad 6 0)), (1, .int p1), (2, .int p2)] []
  replace h : pX0_linkOf Po μ p1 p2 := h
  unfold pX0_linkOf at h
  refine jr_aload_n (q := 1) C 0 dX0_linkOf_0 rfl rfl rfl ?_
  refine jr_getR (q := 4) (ci := 0) (Cn := RX0) (T := TX0) (N := 11) (j := 7) C mf_6 rfl rfl (by decide) rfl 11 0 rfl rfl rfl nX0_linkOf_0 mX0_linkOf_1 dX0_linkOf_1 rfl rfl ?_
  refine jr_iload_n (q := 5) C 1 dX0_linkOf_4 rfl rfl rfl ?_
  refine jr_bipush (q := 7) (v := (7 : Int32)) C dX0_linkOf_5 (by decide) rfl ?_
  refine jr_imul (q := 8) C dX0_linkOf_7 rfl ?_
  refine jr_iload_n (q := 9) C 2 dX0_linkOf_8 rfl rfl rfl ?_
  refine jr_iadd (q := 10) C dX0_linkOf_9 rfl ?_
  obtain ⟨g1, h⟩ := h
  refine jr_aald (q := 11) (t := 0) C mf_11 12 (fun _ => rfl) (fun _ _ => rfl) rfl (by decide) g1 dX0_linkOf_10 rfl ?_
  exact jr_aret (i := ((p1 * (7 : Int32)) + p2).toNatClampNeg) C hr hk dX0_linkOf_11 h
theorem nX2_over_2 : ∀ w ∈ wsX20, w ∈ wsX2_over := fun _ h => List.mem_cons_of_mem _ (List.mem_append_right _ h)
theorem mX2_over_1 : Cond.fieldLink RX2 11 RX2 (TX2 0).2.1 (TX2 0).2.2.1 ∈ wsX2_over := List.mem_of_getElem? (i := 1) (by decide +kernel)
theorem dsc_X2_over : yX2_over.cls ≠ "java/lang/invoke/MethodHandle" ∧ yX2_over.cls ≠ "java/lang/invoke/VarHandle" ∧ (parseMethodDescriptor yX2_over.desc).map (fun d => d.parameters.length) = some 2 := by decide +kernel
def pX2_over (Po : Int32 → mm_T → Prop) (μ : mm_T) (p1 : Int32) (p2 : Int32) : Prop := ∀ x1 : Int32, x1 = (p1 * p1) + (p2 * p2) → ((x1 < 0 → Po (0 : Int32) μ) ∧ (¬ (x1 < 0) → ((1923 : Int32) ≤ x1 → Po (0 : Int32) μ) ∧ (¬ ((1923 : Int32) ≤ x1) → (vp_in x1 1923) ∧ (Po (μ.1 20 0 x1.toNatClampNeg) μ))))
set_option maxHeartbeats 4000000 in
set_option maxRecDepth 100000 in
theorem kX2_over (l : Launch) (p1 : Int32) (p2 : Int32) : mm_CI l yX2_over wsX2_over ({ frames := 0, cells := 0, slots := 0, locals := 0 }) (fun z => [.ref (z + mm_ad 19 0), .int p1, .int p2]) (fun μ Po => pX2_over Po μ p1 p2) := by
  refine je_I (cc := cX2_over) (nL := 4) (own := RX2) (plainFor_of_name (by decide)) rfl rfl (fun _ => Nat.le_of_ble_eq_true rfl) ?_
  intro p e s m args below meth c D cy z μ Po C hr hk h
  change jJ p l e ({ frames := 0, cells := 0, slots := 0, locals := 0 }) s m args below meth c D cy z (MQ below (va_Qi Po (mm_Po D cy z) (mm_A z)) args s 0 0 (mm_A z)) 4 μ 0 [(0, .ref (z + mm_ad 19 0)), (1, .int p1), (2, .int p2)] []
  replace h : pX2_over Po μ p1 p2 := h
  unfold pX2_over at h
  refine jr_iload_n (q := 1) C 1 dX2_over_0 rfl rfl rfl ?_
  refine jr_iload_n (q := 2) C 1 dX2_over_1 rfl rfl rfl ?_
  refine jr_imul (q := 3) C dX2_over_2 rfl ?_
  refine jr_iload_n (q := 4) C 2 dX2_over_3 rfl rfl rfl ?_
  refine jr_iload_n (q := 5) C 2 dX2_over_4 rfl rfl rfl ?_
  refine jr_imul (q := 6) C dX2_over_5 rfl ?_
  refine jr_iadd (q := 7) C dX2_over_6 rfl ?_
  refine jn_int (fun x1 ex1 => ?_)
  replace h := h x1 ex1
  refine jr_istore_n (q := 8) (lv' := [(3, .int x1), (0, .ref (z + mm_ad 19 0)), (1, .int p1), (2, .int p2)]) C dX2_over_7 rfl (by decide) rfl rfl ?_
  refine jr_iload_n (q := 9) C 0 dX2_over_8 rfl rfl rfl ?_
  refine jr_if_lt (q := 12) (tgt := 28) C dX2_over_9 (by decide) rfl (fun c4 => ?_) (fun c4 => ?_)
  · replace h := h.1 c4
    refine jr_iconst (q := 29) (v := (0 : Int32)) C dX2_over_28 (by decide) rfl ?_
    exact jr_iret C hr hk dX2_over_29 h
  · replace h := h.2 c4
    refine jr_iload_n (q := 13) C 0 dX2_over_12 rfl rfl rfl ?_
    refine jr_sipush (q := 16) (v := (1923 : Int32)) C dX2_over_13 (by decide) rfl ?_
    refine jr_icmp_ge (q := 19) (tgt := 28) C dX2_over_16 (by decide) rfl (fun c3 => ?_) (fun c3 => ?_)
    · replace h := h.1 c3
      refine jr_iconst (q := 29) (v := (0 : Int32)) C dX2_over_28 (by decide) rfl ?_
      exact jr_iret C hr hk dX2_over_29 h
    · replace h := h.2 c3
      refine jr_aload_n (q := 20) C 1 dX2_over_19 rfl rfl rfl ?_
      refine jr_getR (q := 23) (ci := 2) (Cn := RX2) (T := TX2) (N := 1) (j := 0) C mf_19 rfl rfl (by decide) rfl 20 0 rfl rfl rfl nX2_over_2 mX2_over_1 dX2_over_20 rfl rfl ?_
      refine jr_iload_n (q := 24) C 0 dX2_over_23 rfl rfl rfl ?_
      obtain ⟨g2, h⟩ := h
      refine jr_iald (q := 25) C mf_20 rfl g2 dX2_over_24 rfl ?_
      refine jr_goto (tgt := 29) C dX2_over_25 (by decide) ?_
      exact jr_iret C hr hk dX2_over_29 h
theorem nX0_flightBetween_0 : ∀ w ∈ wsX00, w ∈ wsX0_flightBetween := fun _ h => List.mem_cons_of_mem _ (List.mem_append_left _ (List.mem_append_left _ (List.mem_append_right _ h)))
theorem mX0_flightBetween_1 : Cond.fieldLink RX0 49 RX0 (TX0 9).2.1 (TX0 9).2.2.1 ∈ wsX0_flightBetween := List.mem_of_getElem? (i := 1) (by decide +kernel)
theorem mX0_flightBetween_2 : Cond.fieldLink RX0 11 RX0 (TX0 0).2.1 (TX0 0).2.2.1 ∈ wsX0_flightBetween := List.mem_of_getElem? (i := 2) (by decide +kernel)
theorem nX0_flightBetween_5 : ∀ w ∈ wsX50, w ∈ wsX0_flightBetween := fun _ h => List.mem_cons_of_mem _ (List.mem_append_left _ (List.mem_append_right _ h))
theorem mX0_flightBetween_4 : Cond.fieldLink RX0 120 RX5 (TX5 1).2.1 (TX5 1).2.2.1 ∈ wsX0_flightBetween := List.mem_of_getElem? (i := 3) (by decide +kernel)
theorem mX0_flightBetween_5 : Cond.fieldLink RX0 123 RX5 (TX5 2).2.1 (TX5 2).2.2.1 ∈ wsX0_flightBetween := List.mem_of_getElem? (i := 4) (by decide +kernel)
theorem dsc_X0_flightBetween : yX0_flightBetween.cls ≠ "java/lang/invoke/MethodHandle" ∧ yX0_flightBetween.cls ≠ "java/lang/invoke/VarHandle" ∧ (parseMethodDescriptor yX0_flightBetween.desc).map (fun d => d.parameters.length) = some 2 := by decide +kernel
def pX0_flightBetween (Po : Int32 → mm_T → Prop) (μ : mm_T) (p1 : Int32) (p2 : Int32) : Prop := (vp_in p1 7) ∧ ((vp_in p2 7) ∧ ((vp_in p1 7) ∧ ((vp_in p2 7) ∧ (pX2_over (fun r6 μ5 => Po r6 μ5) μ ((μ.1 9 p1.toNatClampNeg 1) - (μ.1 9 p2.toNatClampNeg 1)) ((μ.1 9 p1.toNatClampNeg 2) - (μ.1 9 p2.toNatClampNeg 2))))))
set_option maxHeartbeats 4000000 in
set_option maxRecDepth 100000 in
theorem kX0_flightBetween (l : Launch) (p1 : Int32) (p2 : Int32) : mm_CI l yX0_flightBetween wsX0_flightBetween ({ frames := 1, cells := 0, slots := 0, locals := 23 }) (fun z => [.ref (z + mm_ad 6 0), .int p1, .int p2]) (fun μ Po => pX0_flightBetween Po μ p1 p2) := by
  refine je_I (cc := cX0_flightBetween) (nL := 3) (own := RX0) (plainFor_of_name (by decide)) rfl rfl (fun _ => Nat.le_of_ble_eq_true rfl) ?_
  intro p e s m args below meth c D cy z μ Po C hr hk h
  change jJ p l e ({ frames := 1, cells := 0, slots := 0, locals := 23 }) s m args below meth c D cy z (MQ below (va_Qi Po (mm_Po D cy z) (mm_A z)) args s 0 0 (mm_A z)) 3 μ 0 [(0, .ref (z + mm_ad 6 0)), (1, .int p1), (2, .int p2)] []
  replace h : pX0_flightBetween Po μ p1 p2 := h
  unfold pX0_flightBetween at h
  refine jr_aload_n (q := 1) C 0 dX0_flightBetween_0 rfl rfl rfl ?_
  refine jr_getR (q := 4) (ci := 0) (Cn := RX0) (T := TX0) (N := 11) (j := 9) C mf_6 rfl rfl (by decide) rfl 19 0 rfl rfl rfl nX0_flightBetween_0 mX0_flightBetween_1 dX0_flightBetween_1 rfl rfl ?_
  refine jr_aload_n (q := 5) C 0 dX0_flightBetween_4 rfl rfl rfl ?_
  refine jr_getR (q := 8) (ci := 0) (Cn := RX0) (T := TX0) (N := 11) (j := 0) C mf_6 rfl rfl (by decide) rfl 7 0 rfl rfl rfl nX0_flightBetween_0 mX0_flightBetween_2 dX0_flightBetween_5 rfl rfl ?_
  refine jr_iload_n (q := 9) C 1 dX0_flightBetween_8 rfl rfl rfl ?_
  obtain ⟨g1, h⟩ := h
  refine jr_aald (q := 10) (t := 1) C mf_7 9 (fun _ => rfl) (fun _ _ => rfl) rfl (by decide) g1 dX0_flightBetween_9 rfl ?_
  refine jr_getI (q := 13) (ci := 5) (Cn := RX5) (T := TX5) (N := 8) (j := 1) C (mm_lt g1) rfl rfl (by decide) rfl rfl nX0_flightBetween_5 mX0_flightBetween_4 dX0_flightBetween_10 rfl rfl ?_
  refine jr_aload_n (q := 14) C 0 dX0_flightBetween_13 rfl rfl rfl ?_
  refine jr_getR (q := 17) (ci := 0) (Cn := RX0) (T := TX0) (N := 11) (j := 0) C mf_6 rfl rfl (by decide) rfl 7 0 rfl rfl rfl nX0_flightBetween_0 mX0_flightBetween_2 dX0_flightBetween_14 rfl rfl ?_
  refine jr_iload_n (q := 18) C 2 dX0_flightBetween_17 rfl rfl rfl ?_
  obtain ⟨g2, h⟩ := h
  refine jr_aald (q := 19) (t := 1) C mf_7 9 (fun _ => rfl) (fun _ _ => rfl) rfl (by decide) g2 dX0_flightBetween_18 rfl ?_
  refine jr_getI (q := 22) (ci := 5) (Cn := RX5) (T := TX5) (N := 8) (j := 1) C (mm_lt g2) rfl rfl (by decide) rfl rfl nX0_flightBetween_5 mX0_flightBetween_4 dX0_flightBetween_19 rfl rfl ?_
  refine jr_isub (q := 23) C dX0_flightBetween_22 rfl ?_
  refine jr_aload_n (q := 24) C 0 dX0_flightBetween_23 rfl rfl rfl ?_
  refine jr_getR (q := 27) (ci := 0) (Cn := RX0) (T := TX0) (N := 11) (j := 0) C mf_6 rfl rfl (by decide) rfl 7 0 rfl rfl rfl nX0_flightBetween_0 mX0_flightBetween_2 dX0_flightBetween_24 rfl rfl ?_
  refine jr_iload_n (q := 28) C 1 dX0_flightBetween_27 rfl rfl rfl ?_
  obtain ⟨g3, h⟩ := h
  refine jr_aald (q := 29) (t := 1) C mf_7 9 (fun _ => rfl) (fun _ _ => rfl) rfl (by decide) g3 dX0_flightBetween_28 rfl ?_
  refine jr_getI (q := 32) (ci := 5) (Cn := RX5) (T := TX5) (N := 8) (j := 2) C (mm_lt g3) rfl rfl (by decide) rfl rfl nX0_flightBetween_5 mX0_flightBetween_5 dX0_flightBetween_29 rfl rfl ?_
  refine jr_aload_n (q := 33) C 0 dX0_flightBetween_32 rfl rfl rfl ?_
  refine jr_getR (q := 36) (ci := 0) (Cn := RX0) (T := TX0) (N := 11) (j := 0) C mf_6 rfl rfl (by decide) rfl 7 0 rfl rfl rfl nX0_flightBetween_0 mX0_flightBetween_2 dX0_flightBetween_33 rfl rfl ?_
  refine jr_iload_n (q := 37) C 2 dX0_flightBetween_36 rfl rfl rfl ?_
  obtain ⟨g4, h⟩ := h
  refine jr_aald (q := 38) (t := 1) C mf_7 9 (fun _ => rfl) (fun _ _ => rfl) rfl (by decide) g4 dX0_flightBetween_37 rfl ?_
  refine jr_getI (q := 41) (ci := 5) (Cn := RX5) (T := TX5) (N := 8) (j := 2) C (mm_lt g4) rfl rfl (by decide) rfl rfl nX0_flightBetween_5 mX0_flightBetween_5 dX0_flightBetween_38 rfl rfl ?_
  refine jr_isub (q := 42) C dX0_flightBetween_41 rfl ?_
  refine jr_cvI (q := 45) (As := [.int ((μ.1 9 p1.toNatClampNeg 1) - (μ.1 9 p2.toNatClampNeg 1)), .int ((μ.1 9 p1.toNatClampNeg 2) - (μ.1 9 p2.toNatClampNeg 2))]) (rest := []) C (f := 19) (i := 0) (ci := 2) mf_19 rfl rfl rfl (kX2_over l ((μ.1 9 p1.toNatClampNeg 1) - (μ.1 9 p2.toNatClampNeg 1)) ((μ.1 9 p1.toNatClampNeg 2) - (μ.1 9 p2.toNatClampNeg 2))) rfl gX0_flightBetween_X2_over rfl dsc_X2_over ⟨rfl, rfl⟩ ⟨by decide, by decide⟩ rfl rfl (Nat.le_of_ble_eq_true rfl) dX0_flightBetween_42 rfl h (fun r6 μ5 h => ?_)
  exact jr_iret C hr hk dX0_flightBetween_45 h
theorem nX0_waitUntil_0 : ∀ w ∈ wsX00, w ∈ wsX0_waitUntil := fun _ h => List.mem_cons_of_mem _ (List.mem_append_right _ h)
theorem mX0_waitUntil_1 : Cond.fieldLink RX0 93 RX0 (TX0 2).2.1 (TX0 2).2.2.1 ∈ wsX0_waitUntil := List.mem_of_getElem? (i := 1) (by decide +kernel)
theorem mX0_waitUntil_2 : Cond.methodLink RX0 130 Lib.MathLoose.max_long.x ∈ wsX0_waitUntil := List.mem_of_getElem? (i := 2) (by decide +kernel)
theorem mX0_waitUntil_3 : Cond.static Lib.MathLoose.max_long.x ∈ wsX0_waitUntil := List.mem_of_getElem? (i := 3) (by decide +kernel)
theorem mX0_waitUntil_4 : Cond.initialized "java/lang/Math" ∈ wsX0_waitUntil := List.mem_of_getElem? (i := 4) (by decide +kernel)
theorem mX0_waitUntil_5 : Cond.code Lib.MathLoose.max_long.x Lib.MathLoose.max_long.code 4 (some .long) ∈ wsX0_waitUntil := List.mem_of_getElem? (i := 5) (by decide +kernel)
theorem dsc_X0_waitUntil : yX0_waitUntil.cls ≠ "java/lang/invoke/MethodHandle" ∧ yX0_waitUntil.cls ≠ "java/lang/invoke/VarHandle" ∧ (parseMethodDescriptor yX0_waitUntil.desc).map (fun d => d.parameters.length) = some 1 := by decide +kernel
def pX0_waitUntil (Po : mm_T → Prop) (μ : mm_T) (p1 : Int64) : Prop := ∀ μ1 : mm_T, μ1 = mm_L μ 6 0 2 (if p1 < (μ.2 6 0 2) then (μ.2 6 0 2) else p1) → (Po μ1)
set_option maxHeartbeats 4000000 in
set_option maxRecDepth 100000 in
theorem kX0_waitUntil (l : Launch) (p1 : Int64) : mm_CV l yX0_waitUntil wsX0_waitUntil ({ frames := 1, cells := 0, slots := 0, locals := 23 }) (fun z => [.ref (z + mm_ad 6 0), .long p1]) (fun μ Po => pX0_waitUntil Po μ p1) := by
  refine je_V (cc := cX0_waitUntil) (nL := 3) (own := RX0) (plainFor_of_name (by decide)) rfl rfl (fun _ => Nat.le_of_ble_eq_true rfl) ?_
  intro p e s m args below meth c D cy z μ Po C hr hk h
  change jJ p l e ({ frames := 1, cells := 0, slots := 0, locals := 23 }) s m args below meth c D cy z (MQ below (va_Qv Po (mm_Po D cy z) (mm_A z)) args s 0 0 (mm_A z)) 3 μ 0 [(0, .ref (z + mm_ad 6 0)), (1, .long p1)] []
  replace h : pX0_waitUntil Po μ p1 := h
  unfold pX0_waitUntil at h
  refine jr_aload_n (q := 1) C 0 dX0_waitUntil_0 rfl rfl rfl ?_
  refine jr_aload_n (q := 2) C 0 dX0_waitUntil_1 rfl rfl rfl ?_
  refine jr_getL (q := 5) (ci := 0) (Cn := RX0) (T := TX0) (N := 11) (j := 2) C mf_6 rfl rfl (by decide) rfl rfl nX0_waitUntil_0 mX0_waitUntil_1 dX0_waitUntil_2 rfl rfl ?_
  refine jr_lload_n (q := 6) C 1 dX0_waitUntil_5 rfl rfl rfl ?_
  refine jr_maxl (q := 9) C mX0_waitUntil_2 mX0_waitUntil_3 mX0_waitUntil_4 mX0_waitUntil_5 (by decide) (Nat.le_of_ble_eq_true rfl) dX0_waitUntil_6 rfl ?_
  refine jr_putL (q := 12) (ci := 0) (Cn := RX0) (T := TX0) (N := 11) (j := 2) C mf_6 rfl rfl (by decide) rfl rfl tyX0 tyX0_ok nmX0 rfl (by decide +kernel) nX0_waitUntil_0 mX0_waitUntil_1 dX0_waitUntil_9 rfl rfl ?_
  refine jn_mem (fun μ1 eμ1 => ?_)
  replace h := h μ1 eμ1
  exact jr_vret C hr hk dX0_waitUntil_12 h
theorem nX4_leastExtra_4 : ∀ w ∈ wsX40, w ∈ wsX4_leastExtra := fun _ h => List.mem_cons_of_mem _ (List.mem_append_right _ h)
theorem mX4_leastExtra_1 : Cond.fieldLink RX4 18 RX4 (TX4 2).2.1 (TX4 2).2.2.1 ∈ wsX4_leastExtra := List.mem_of_getElem? (i := 1) (by decide +kernel)
theorem mX4_leastExtra_2 : Cond.fieldLink RX4 15 RX4 (TX4 1).2.1 (TX4 1).2.2.1 ∈ wsX4_leastExtra := List.mem_of_getElem? (i := 2) (by decide +kernel)
theorem mX4_leastExtra_3 : Cond.fieldLink RX4 9 RX4 (TX4 0).2.1 (TX4 0).2.2.1 ∈ wsX4_leastExtra := List.mem_of_getElem? (i := 3) (by decide +kernel)
theorem dsc_X4_leastExtra : yX4_leastExtra.cls ≠ "java/lang/invoke/MethodHandle" ∧ yX4_leastExtra.cls ≠ "java/lang/invoke/VarHandle" ∧ (parseMethodDescriptor yX4_leastExtra.desc).map (fun d => d.parameters.length) = some 1 := by decide +kernel
def pX4_leastExtra_b43 (K4 : mm_T → Nat → Int32 → Int32 → Int32 → Prop) (μ : mm_T) (a0 : Nat) (a1 : Int32) (a3 : Int32) : Prop := (a0 < 49) ∧ ((vp_in a3 6) ∧ (∀ x5 : Int32, x5 = μ.1 13 a0 a3.toNatClampNeg → (K4 μ a0 a1 x5 (a3 + (1 : Int32)))))
def pX4_leastExtra_l4 (Po : Int32 → mm_T → Prop) (E4_56 : mm_T → Int32 → Prop) (K4 : mm_T → Nat → Int32 → Int32 → Int32 → Prop) (μ : mm_T) (a0 : Nat) (a1 : Int32) (a2 : Int32) (a3 : Int32) : Prop := (a0 < 49) ∧ (((μ.1 12 a0 2) ≤ a3 → E4_56 μ a2) ∧ (¬ ((μ.1 12 a0 2) ≤ a3) → ((6 : Int32) ≤ a3 → E4_56 μ a2) ∧ (¬ ((6 : Int32) ≤ a3) → (vp_in a3 6) ∧ (((μ.1 14 a0 a3.toNatClampNeg) < a1 → K4 μ a0 a1 a2 (a3 + (1 : Int32))) ∧ (¬ ((μ.1 14 a0 a3.toNatClampNeg) < a1) → (a2 = (-1 : Int32) → pX4_leastExtra_b43 K4 μ a0 a1 a3) ∧ (¬ (a2 = (-1 : Int32)) → (vp_in a3 6) ∧ ((a2 ≤ (μ.1 13 a0 a3.toNatClampNeg) → K4 μ a0 a1 a2 (a3 + (1 : Int32))) ∧ (¬ (a2 ≤ (μ.1 13 a0 a3.toNatClampNeg)) → pX4_leastExtra_b43 K4 μ a0 a1 a3))))))))
def pX4_leastExtra (Po : Int32 → mm_T → Prop) (μ : mm_T) (i0 : Nat) (p1 : Int32) : Prop := i0 < 49 ∧ (lp_ (fun (K9 : mm_T × Nat × Int32 × Int32 × Int32 → Prop) (t9 : mm_T × Nat × Int32 × Int32 × Int32) => pX4_leastExtra_l4 Po (fun μ c2 => Po c2 μ) (fun μ a0 a1 a2 a3 => K9 (μ, a0, a1, a2, a3)) t9.1 t9.2.1 t9.2.2.1 t9.2.2.2.1 t9.2.2.2.2) (μ, i0, p1, (-1 : Int32), (0 : Int32)))
set_option maxHeartbeats 4000000 in
set_option maxRecDepth 100000 in
theorem kX4_leastExtra (l : Launch) (i0 : Nat) (p1 : Int32) : mm_CI l yX4_leastExtra wsX4_leastExtra ({ frames := 0, cells := 0, slots := 0, locals := 0 }) (fun z => [.ref (z + mm_ad 12 i0), .int p1]) (fun μ Po => pX4_leastExtra Po μ i0 p1) := by
  refine je_I (cc := cX4_leastExtra) (nL := 4) (own := RX4) (plainFor_of_name (by decide)) rfl rfl (fun _ => Nat.le_of_ble_eq_true rfl) ?_
  intro p e s m args below meth c D cy z μ Po C hr hk h
  change jJ p l e ({ frames := 0, cells := 0, slots := 0, locals := 0 }) s m args below meth c D cy z (MQ below (va_Qi Po (mm_Po D cy z) (mm_A z)) args s 0 0 (mm_A z)) 4 μ 0 [(0, .ref (z + mm_ad 12 i0)), (1, .int p1)] []
  replace h : pX4_leastExtra Po μ i0 p1 := h
  unfold pX4_leastExtra at h
  obtain ⟨hi_i0, h⟩ := h
  refine jr_iconst (q := 1) (v := (-1 : Int32)) C dX4_leastExtra_0 (by decide) rfl ?_
  refine jr_istore_n (q := 2) (lv' := [(2, .int (-1 : Int32)), (0, .ref (z + mm_ad 12 i0)), (1, .int p1)]) C dX4_leastExtra_1 rfl (by decide) rfl rfl ?_
  refine jr_iconst (q := 3) (v := (0 : Int32)) C dX4_leastExtra_2 (by decide) rfl ?_
  refine jr_istore_n (q := 4) (lv' := [(3, .int (0 : Int32)), (2, .int (-1 : Int32)), (0, .ref (z + mm_ad 12 i0)), (1, .int p1)]) C dX4_leastExtra_3 rfl (by decide) rfl rfl ?_
  have l4 : ∀ (E4_56 : mm_T → Int32 → Prop) (hE4_56 : ∀ (μ : mm_T) (c2 : Int32), E4_56 μ c2 → jJ p l e ({ frames := 0, cells := 0, slots := 0, locals := 0 }) s m args below meth c D cy z (MQ below (va_Qi Po (mm_Po D cy z) (mm_A z)) args s 0 0 (mm_A z)) 4 μ 56 [(2, .int c2)] []), ∀ t9 : mm_T × Nat × Int32 × Int32 × Int32, lp_ (fun (K9 : mm_T × Nat × Int32 × Int32 × Int32 → Prop) (t9 : mm_T × Nat × Int32 × Int32 × Int32) => pX4_leastExtra_l4 Po E4_56 (fun μ a0 a1 a2 a3 => K9 (μ, a0, a1, a2, a3)) t9.1 t9.2.1 t9.2.2.1 t9.2.2.2.1 t9.2.2.2.2) t9 → jJ p l e ({ frames := 0, cells := 0, slots := 0, locals := 0 }) s m args below meth c D cy z (MQ below (va_Qi Po (mm_Po D cy z) (mm_A z)) args s 0 0 (mm_A z)) 4 t9.1 4 [(0, .ref (z + mm_ad 12 t9.2.1)), (1, .int t9.2.2.1), (2, .int t9.2.2.2.1), (3, .int t9.2.2.2.2)] [] := by
    intro E4_56 hE4_56 t9 h
    refine lp_go (P := fun t9 : mm_T × Nat × Int32 × Int32 × Int32 => jJ p l e ({ frames := 0, cells := 0, slots := 0, locals := 0 }) s m args below meth c D cy z (MQ below (va_Qi Po (mm_Po D cy z) (mm_A z)) args s 0 0 (mm_A z)) 4 t9.1 4 [(0, .ref (z + mm_ad 12 t9.2.1)), (1, .int t9.2.2.1), (2, .int t9.2.2.2.1), (3, .int t9.2.2.2.2)] []) (fun K9 t9 hK h => ?_) t9 h
    obtain ⟨μ, a0, a1, a2, a3⟩ := t9
    obtain ⟨K4, eK4⟩ : ∃ K : mm_T → Nat → Int32 → Int32 → Int32 → Prop, K = (fun μ a0 a1 a2 a3 => K9 (μ, a0, a1, a2, a3)) := ⟨_, rfl⟩
    have hK4 : ∀ (μ : mm_T) (a0 : Nat) (a1 : Int32) (a2 : Int32) (a3 : Int32), K4 μ a0 a1 a2 a3 → jJ p l e ({ frames := 0, cells := 0, slots := 0, locals := 0 }) s m args below meth c D cy z (MQ below (va_Qi Po (mm_Po D cy z) (mm_A z)) args s 0 0 (mm_A z)) 4 μ 4 [(0, .ref (z + mm_ad 12 a0)), (1, .int a1), (2, .int a2), (3, .int a3)] [] := fun μ a0 a1 a2 a3 h9 => hK (μ, a0, a1, a2, a3) (by rw [eK4] at h9; exact h9)
    replace h : pX4_leastExtra_l4 Po E4_56 K4 μ a0 a1 a2 a3 := by rw [eK4]; exact h
    unfold pX4_leastExtra_l4 at h
    refine jr_iload_n (q := 5) C 3 dX4_leastExtra_4 rfl rfl rfl ?_
    refine jr_aload_n (q := 6) C 0 dX4_leastExtra_5 rfl rfl rfl ?_
    obtain ⟨g1, h⟩ := h
    refine jr_getI (q := 9) (ci := 4) (Cn := RX4) (T := TX4) (N := 5) (j := 2) C g1 rfl rfl (by decide) rfl rfl nX4_leastExtra_4 mX4_leastExtra_1 dX4_leastExtra_6 rfl rfl ?_
    refine jr_icmp_ge (q := 12) (tgt := 56) C dX4_leastExtra_9 (by decide) rfl (fun c11 => ?_) (fun c11 => ?_)
    · replace h := h.1 c11
      refine jr_sub [2] rfl ?_
      exact hE4_56 _ _ h
    · replace h := h.2 c11
      refine jr_iload_n (q := 13) C 3 dX4_leastExtra_12 rfl rfl rfl ?_
      refine jr_bipush (q := 15) (v := (6 : Int32)) C dX4_leastExtra_13 (by decide) rfl ?_
      refine jr_icmp_ge (q := 18) (tgt := 56) C dX4_leastExtra_15 (by decide) rfl (fun c10 => ?_) (fun c10 => ?_)
      · replace h := h.1 c10
        refine jr_sub [2] rfl ?_
        exact hE4_56 _ _ h
      · replace h := h.2 c10
        refine jr_aload_n (q := 19) C 0 dX4_leastExtra_18 rfl rfl rfl ?_
        refine jr_getR (q := 22) (ci := 4) (Cn := RX4) (T := TX4) (N := 5) (j := 1) C g1 rfl rfl (by decide) rfl 14 a0 rfl rfl rfl nX4_leastExtra_4 mX4_leastExtra_2 dX4_leastExtra_19 rfl rfl ?_
        refine jr_iload_n (q := 23) C 3 dX4_leastExtra_22 rfl rfl rfl ?_
        obtain ⟨g2, h⟩ := h
        refine jr_iald (q := 24) C g1 rfl g2 dX4_leastExtra_23 rfl ?_
        refine jr_iload_n (q := 25) C 1 dX4_leastExtra_24 rfl rfl rfl ?_
        refine jr_icmp_lt (q := 28) (tgt := 50) C dX4_leastExtra_25 (by decide) rfl (fun c9 => ?_) (fun c9 => ?_)
        · replace h := h.1 c9
          refine jr_iinc (q := 53) (lv' := [(3, .int (a3 + (1 : Int32))), (0, .ref (z + mm_ad 12 a0)), (1, .int a1), (2, .int a2)]) C 3 dX4_leastExtra_50 rfl (by rfl) (by decide) rfl rfl ?_
          refine jr_goto (tgt := 4) C dX4_leastExtra_53 (by decide) ?_
          refine jr_sub [1, 2, 3, 0] rfl ?_
          exact hK4 _ _ _ _ _ h
        · replace h := h.2 c9
          refine jr_iload_n (q := 29) C 2 dX4_leastExtra_28 rfl rfl rfl ?_
          refine jr_iconst (q := 30) (v := (-1 : Int32)) C dX4_leastExtra_29 (by decide) rfl ?_
          have b43 : ∀ (μ : mm_T) (a0 : Nat) (a1 : Int32) (a3 : Int32), pX4_leastExtra_b43 K4 μ a0 a1 a3 → jJ p l e ({ frames := 0, cells := 0, slots := 0, locals := 0 }) s m args below meth c D cy z (MQ below (va_Qi Po (mm_Po D cy z) (mm_A z)) args s 0 0 (mm_A z)) 4 μ 43 [(0, .ref (z + mm_ad 12 a0)), (1, .int a1), (3, .int a3)] [] := by
            intro μ a0 a1 a3 h
            unfold pX4_leastExtra_b43 at h
            refine jr_aload_n (q := 44) C 0 dX4_leastExtra_43 rfl rfl rfl ?_
            obtain ⟨g3, h⟩ := h
            refine jr_getR (q := 47) (ci := 4) (Cn := RX4) (T := TX4) (N := 5) (j := 0) C g3 rfl rfl (by decide) rfl 13 a0 rfl rfl rfl nX4_leastExtra_4 mX4_leastExtra_3 dX4_leastExtra_44 rfl rfl ?_
            refine jr_iload_n (q := 48) C 2 dX4_leastExtra_47 rfl rfl rfl ?_
            obtain ⟨g4, h⟩ := h
            refine jr_iald (q := 49) C g3 rfl g4 dX4_leastExtra_48 rfl ?_
            refine jn_int (fun x5 ex5 => ?_)
            replace h := h x5 ex5
            refine jr_istore_n (q := 50) (lv' := [(2, .int x5), (0, .ref (z + mm_ad 12 a0)), (1, .int a1), (3, .int a3)]) C dX4_leastExtra_49 rfl (by decide) rfl rfl ?_
            refine jr_iinc (q := 53) (lv' := [(3, .int (a3 + (1 : Int32))), (2, .int x5), (0, .ref (z + mm_ad 12 a0)), (1, .int a1)]) C 3 dX4_leastExtra_50 rfl (by rfl) (by decide) rfl rfl ?_
            refine jr_goto (tgt := 4) C dX4_leastExtra_53 (by decide) ?_
            refine jr_sub [2, 3, 1, 0] rfl ?_
            exact hK4 _ _ _ _ _ h
          refine jr_icmp_eq (q := 33) (tgt := 43) C dX4_leastExtra_30 (by decide) rfl (fun c8 => ?_) (fun c8 => ?_)
          · replace h := h.1 c8
            refine jr_sub [0, 1, 3] rfl ?_
            exact b43 _ _ _ _ h
          · replace h := h.2 c8
            refine jr_aload_n (q := 34) C 0 dX4_leastExtra_33 rfl rfl rfl ?_
            refine jr_getR (q := 37) (ci := 4) (Cn := RX4) (T := TX4) (N := 5) (j := 0) C g1 rfl rfl (by decide) rfl 13 a0 rfl rfl rfl nX4_leastExtra_4 mX4_leastExtra_3 dX4_leastExtra_34 rfl rfl ?_
            refine jr_iload_n (q := 38) C 3 dX4_leastExtra_37 rfl rfl rfl ?_
            obtain ⟨g6, h⟩ := h
            refine jr_iald (q := 39) C g1 rfl g6 dX4_leastExtra_38 rfl ?_
            refine jr_iload_n (q := 40) C 2 dX4_leastExtra_39 rfl rfl rfl ?_
            refine jr_icmp_ge (q := 43) (tgt := 50) C dX4_leastExtra_40 (by decide) rfl (fun c7 => ?_) (fun c7 => ?_)
            · replace h := h.1 c7
              refine jr_iinc (q := 53) (lv' := [(3, .int (a3 + (1 : Int32))), (0, .ref (z + mm_ad 12 a0)), (1, .int a1), (2, .int a2)]) C 3 dX4_leastExtra_50 rfl (by rfl) (by decide) rfl rfl ?_
              refine jr_goto (tgt := 4) C dX4_leastExtra_53 (by decide) ?_
              refine jr_sub [1, 2, 3, 0] rfl ?_
              exact hK4 _ _ _ _ _ h
            · replace h := h.2 c7
              refine jr_sub [0, 1, 3] rfl ?_
              exact b43 _ _ _ _ h
  have x4_56 : ∀ (μ : mm_T) (c2 : Int32), (Po c2 μ) → jJ p l e ({ frames := 0, cells := 0, slots := 0, locals := 0 }) s m args below meth c D cy z (MQ below (va_Qi Po (mm_Po D cy z) (mm_A z)) args s 0 0 (mm_A z)) 4 μ 56 [(2, .int c2)] [] := by
    intro μ c2 h
    refine jr_iload_n (q := 57) C 0 dX4_leastExtra_56 rfl rfl rfl ?_
    exact jr_iret C hr hk dX4_leastExtra_57 h
  refine jr_sub [2, 3, 1, 0] rfl ?_
  exact l4 _ x4_56 _ h
theorem nX5_clockAt_5 : ∀ w ∈ wsX50, w ∈ wsX5_clockAt := fun _ h => List.mem_cons_of_mem _ (List.mem_append_right _ h)
theorem mX5_clockAt_1 : Cond.fieldLink RX5 25 RX5 (TX5 4).2.1 (TX5 4).2.2.1 ∈ wsX5_clockAt := List.mem_of_getElem? (i := 1) (by decide +kernel)
theorem mX5_clockAt_2 : Cond.fieldLink RX5 22 RX5 (TX5 3).2.1 (TX5 3).2.2.1 ∈ wsX5_clockAt := List.mem_of_getElem? (i := 2) (by decide +kernel)
theorem mX5_clockAt_3 : Cond.constantLong RX5 34 (10000) ∈ wsX5_clockAt := List.mem_of_getElem? (i := 3) (by decide +kernel)
theorem dsc_X5_clockAt : yX5_clockAt.cls ≠ "java/lang/invoke/MethodHandle" ∧ yX5_clockAt.cls ≠ "java/lang/invoke/VarHandle" ∧ (parseMethodDescriptor yX5_clockAt.desc).map (fun d => d.parameters.length) = some 1 := by decide +kernel
def pX5_clockAt (Po : Int64 → mm_T → Prop) (μ : mm_T) (i0 : Nat) (p1 : Int64) : Prop := i0 < 7 ∧ (pJ9_floorDiv_f86c9 (fun r2 μ1 => Po ((((μ.1 9 i0 4).toInt64) + p1) + r2) μ1) μ (((μ.1 9 i0 3).toInt64) * p1) (10000 : Int64))
set_option maxHeartbeats 4000000 in
set_option maxRecDepth 100000 in
theorem kX5_clockAt (l : Launch) (i0 : Nat) (p1 : Int64) : mm_CL l yX5_clockAt wsX5_clockAt ({ frames := 1, cells := 0, slots := 0, locals := 25 }) (fun z => [.ref (z + mm_ad 9 i0), .long p1]) (fun μ Po => pX5_clockAt Po μ i0 p1) := by
  refine je_L (cc := cX5_clockAt) (nL := 3) (own := RX5) (plainFor_of_name (by decide)) rfl rfl (fun _ => Nat.le_of_ble_eq_true rfl) ?_
  intro p e s m args below meth c D cy z μ Po C hr hk h
  change jJ p l e ({ frames := 1, cells := 0, slots := 0, locals := 25 }) s m args below meth c D cy z (MQ below (va_Ql Po (mm_Po D cy z) (mm_A z)) args s 0 0 (mm_A z)) 3 μ 0 [(0, .ref (z + mm_ad 9 i0)), (1, .long p1)] []
  replace h : pX5_clockAt Po μ i0 p1 := h
  unfold pX5_clockAt at h
  obtain ⟨hi_i0, h⟩ := h
  refine jr_aload_n (q := 1) C 0 dX5_clockAt_0 rfl rfl rfl ?_
  refine jr_getI (q := 4) (ci := 5) (Cn := RX5) (T := TX5) (N := 8) (j := 4) C hi_i0 rfl rfl (by decide) rfl rfl nX5_clockAt_5 mX5_clockAt_1 dX5_clockAt_1 rfl rfl ?_
  refine jr_i2l (q := 5) C dX5_clockAt_4 rfl ?_
  refine jr_lload_n (q := 6) C 1 dX5_clockAt_5 rfl rfl rfl ?_
  refine jr_ladd (q := 7) C dX5_clockAt_6 rfl ?_
  refine jr_aload_n (q := 8) C 0 dX5_clockAt_7 rfl rfl rfl ?_
  refine jr_getI (q := 11) (ci := 5) (Cn := RX5) (T := TX5) (N := 8) (j := 3) C hi_i0 rfl rfl (by decide) rfl rfl nX5_clockAt_5 mX5_clockAt_2 dX5_clockAt_8 rfl rfl ?_
  refine jr_i2l (q := 12) C dX5_clockAt_11 rfl ?_
  refine jr_lload_n (q := 13) C 1 dX5_clockAt_12 rfl rfl rfl ?_
  refine jr_lmul (q := 14) C dX5_clockAt_13 rfl ?_
  refine jr_ldc2 (q := 17) (v := (10000 : Int64)) C dX5_clockAt_14 mX5_clockAt_3 rfl ?_
  refine jr_csL (q := 20) (As := [.long (((μ.1 9 i0 3).toInt64) * p1), .long (10000 : Int64)]) (rest := [.long (((μ.1 9 i0 4).toInt64) + p1)]) C  (kJ9_floorDiv_f86c9 l (((μ.1 9 i0 3).toInt64) * p1) (10000 : Int64)) rfl gX5_clockAt_J9_floorDiv_f86c9 rfl dsc_J9_floorDiv_f86c9 ⟨rfl, rfl⟩ ⟨by decide, by decide⟩ rfl rfl (Nat.le_of_ble_eq_true rfl) dX5_clockAt_17 rfl h (fun r2 μ1 h => ?_)
  refine jr_ladd (q := 21) C dX5_clockAt_20 rfl ?_
  exact jr_lret C hr hk dX5_clockAt_21 h
theorem nX3_replyA_3 : ∀ w ∈ wsX30, w ∈ wsX3_replyA := fun _ h => List.mem_cons_of_mem _ (List.mem_append_right _ h)
theorem mX3_replyA_1 : Cond.fieldLink RX3 9 RX3 (TX3 8).2.1 (TX3 8).2.2.1 ∈ wsX3_replyA := List.mem_of_getElem? (i := 1) (by decide +kernel)
theorem dsc_X3_replyA : yX3_replyA.cls ≠ "java/lang/invoke/MethodHandle" ∧ yX3_replyA.cls ≠ "java/lang/invoke/VarHandle" ∧ (parseMethodDescriptor yX3_replyA.desc).map (fun d => d.parameters.length) = some 0 := by decide +kernel
def pX3_replyA (Po : Int64 → mm_T → Prop) (μ : mm_T) : Prop := (vp_in (3 : Int32) 7) ∧ ((vp_in (2 : Int32) 7) ∧ (Po ((μ.2 16 0 (3 : Int32).toNatClampNeg) - (μ.2 16 0 (2 : Int32).toNatClampNeg)) μ))
set_option maxHeartbeats 4000000 in
set_option maxRecDepth 100000 in
theorem kX3_replyA (l : Launch) : mm_CL l yX3_replyA wsX3_replyA ({ frames := 0, cells := 0, slots := 0, locals := 0 }) (fun z => [.ref (z + mm_ad 15 0)]) (fun μ Po => pX3_replyA Po μ) := by
  refine je_L (cc := cX3_replyA) (nL := 1) (own := RX3) (plainFor_of_name (by decide)) rfl rfl (fun _ => Nat.le_of_ble_eq_true rfl) ?_
  intro p e s m args below meth c D cy z μ Po C hr hk h
  change jJ p l e ({ frames := 0, cells := 0, slots := 0, locals := 0 }) s m args below meth c D cy z (MQ below (va_Ql Po (mm_Po D cy z) (mm_A z)) args s 0 0 (mm_A z)) 1 μ 0 [(0, .ref (z + mm_ad 15 0))] []
  replace h : pX3_replyA Po μ := h
  unfold pX3_replyA at h
  refine jr_aload_n (q := 1) C 0 dX3_replyA_0 rfl rfl rfl ?_
  refine jr_getR (q := 4) (ci := 3) (Cn := RX3) (T := TX3) (N := 9) (j := 8) C mf_15 rfl rfl (by decide) rfl 16 0 rfl rfl rfl nX3_replyA_3 mX3_replyA_1 dX3_replyA_1 rfl rfl ?_
  refine jr_iconst (q := 5) (v := (3 : Int32)) C dX3_replyA_4 (by decide) rfl ?_
  obtain ⟨g1, h⟩ := h
  refine jr_lald (q := 6) C mf_16 rfl g1 dX3_replyA_5 rfl ?_
  refine jr_aload_n (q := 7) C 0 dX3_replyA_6 rfl rfl rfl ?_
  refine jr_getR (q := 10) (ci := 3) (Cn := RX3) (T := TX3) (N := 9) (j := 8) C mf_15 rfl rfl (by decide) rfl 16 0 rfl rfl rfl nX3_replyA_3 mX3_replyA_1 dX3_replyA_7 rfl rfl ?_
  refine jr_iconst (q := 11) (v := (2 : Int32)) C dX3_replyA_10 (by decide) rfl ?_
  obtain ⟨g2, h⟩ := h
  refine jr_lald (q := 12) C mf_16 rfl g2 dX3_replyA_11 rfl ?_
  refine jr_lsub (q := 13) C dX3_replyA_12 rfl ?_
  exact jr_lret C hr hk dX3_replyA_13 h
theorem nX3_reckon_3 : ∀ w ∈ wsX30, w ∈ wsX3_reckon := fun _ h => List.mem_cons_of_mem _ (List.mem_append_right _ h)
theorem mX3_reckon_1 : Cond.fieldLink RX3 9 RX3 (TX3 8).2.1 (TX3 8).2.2.1 ∈ wsX3_reckon := List.mem_of_getElem? (i := 1) (by decide +kernel)
theorem mX3_reckon_2 : Cond.constantLong RX3 45 (2) ∈ wsX3_reckon := List.mem_of_getElem? (i := 2) (by decide +kernel)
theorem mX3_reckon_3 : Cond.fieldLink RX3 53 RX3 (TX3 6).2.1 (TX3 6).2.2.1 ∈ wsX3_reckon := List.mem_of_getElem? (i := 3) (by decide +kernel)
theorem mX3_reckon_4 : Cond.fieldLink RX3 56 RX3 (TX3 7).2.1 (TX3 7).2.2.1 ∈ wsX3_reckon := List.mem_of_getElem? (i := 4) (by decide +kernel)
theorem dsc_X3_reckon : yX3_reckon.cls ≠ "java/lang/invoke/MethodHandle" ∧ yX3_reckon.cls ≠ "java/lang/invoke/VarHandle" ∧ (parseMethodDescriptor yX3_reckon.desc).map (fun d => d.parameters.length) = some 0 := by decide +kernel
def pX3_reckon (Po : mm_T → Prop) (μ : mm_T) : Prop := (vp_in (4 : Int32) 7) ∧ ((vp_in (1 : Int32) 7) ∧ (∀ x3 : Int64, x3 = (μ.2 16 0 (4 : Int32).toNatClampNeg) - (μ.2 16 0 (1 : Int32).toNatClampNeg) → (pX3_replyA (fun r5 μ4 => (vp_in (6 : Int32) 7) ∧ ((vp_in (3 : Int32) 7) ∧ (∀ x8 : Int64, x8 = (μ4.2 16 0 (6 : Int32).toNatClampNeg) - (μ4.2 16 0 (3 : Int32).toNatClampNeg) → ((vp_in (5 : Int32) 7) ∧ ((vp_in (4 : Int32) 7) ∧ (∀ x11 : Int64, x11 = (μ4.2 16 0 (5 : Int32).toNatClampNeg) - (μ4.2 16 0 (4 : Int32).toNatClampNeg) → (∀ x12 : Int64, x12 = ((x3 + x8) + r5) + x11 → (pJ9_floorDiv_f86c9 (fun r14 μ13 => ∀ μ15 : mm_T, μ15 = mm_I μ13 15 0 6 r14.toInt32 → ((¬ (lg_cmp x12 (0 : Int64)) = 0 → pJ9_floorDiv_f86c9 (fun r17 μ16 => ∀ μ18 : mm_T, μ18 = mm_I μ16 15 0 7 r17.toInt32 → (Po μ18)) μ15 ((x3 * x8) - (r5 * x11)) x12) ∧ ((lg_cmp x12 (0 : Int64)) = 0 → ∀ μ19 : mm_T, μ19 = mm_I μ15 15 0 7 (0 : Int32) → (Po μ19)))) μ4 (x3 - r5) (2 : Int64))))))))) μ )))
set_option maxHeartbeats 4000000 in
set_option maxRecDepth 100000 in
theorem kX3_reckon (l : Launch) : mm_CV l yX3_reckon wsX3_reckon ({ frames := 1, cells := 0, slots := 0, locals := 25 }) (fun z => [.ref (z + mm_ad 15 0)]) (fun μ Po => pX3_reckon Po μ) := by
  refine je_V (cc := cX3_reckon) (nL := 11) (own := RX3) (plainFor_of_name (by decide)) rfl rfl (fun _ => Nat.le_of_ble_eq_true rfl) ?_
  intro p e s m args below meth c D cy z μ Po C hr hk h
  change jJ p l e ({ frames := 1, cells := 0, slots := 0, locals := 25 }) s m args below meth c D cy z (MQ below (va_Qv Po (mm_Po D cy z) (mm_A z)) args s 0 0 (mm_A z)) 11 μ 0 [(0, .ref (z + mm_ad 15 0))] []
  replace h : pX3_reckon Po μ := h
  unfold pX3_reckon at h
  refine jr_aload_n (q := 1) C 0 dX3_reckon_0 rfl rfl rfl ?_
  refine jr_getR (q := 4) (ci := 3) (Cn := RX3) (T := TX3) (N := 9) (j := 8) C mf_15 rfl rfl (by decide) rfl 16 0 rfl rfl rfl nX3_reckon_3 mX3_reckon_1 dX3_reckon_1 rfl rfl ?_
  refine jr_iconst (q := 5) (v := (4 : Int32)) C dX3_reckon_4 (by decide) rfl ?_
  obtain ⟨g1, h⟩ := h
  refine jr_lald (q := 6) C mf_16 rfl g1 dX3_reckon_5 rfl ?_
  refine jr_aload_n (q := 7) C 0 dX3_reckon_6 rfl rfl rfl ?_
  refine jr_getR (q := 10) (ci := 3) (Cn := RX3) (T := TX3) (N := 9) (j := 8) C mf_15 rfl rfl (by decide) rfl 16 0 rfl rfl rfl nX3_reckon_3 mX3_reckon_1 dX3_reckon_7 rfl rfl ?_
  refine jr_iconst (q := 11) (v := (1 : Int32)) C dX3_reckon_10 (by decide) rfl ?_
  obtain ⟨g2, h⟩ := h
  refine jr_lald (q := 12) C mf_16 rfl g2 dX3_reckon_11 rfl ?_
  refine jr_lsub (q := 13) C dX3_reckon_12 rfl ?_
  refine jn_lng (fun x3 ex3 => ?_)
  replace h := h x3 ex3
  refine jr_lstore_n (q := 14) (lv' := [(1, .long x3), (0, .ref (z + mm_ad 15 0))]) C dX3_reckon_13 rfl (by decide) rfl rfl ?_
  refine jr_aload_n (q := 15) C 1 dX3_reckon_14 rfl rfl rfl ?_
  refine jr_cvL (q := 18) (As := []) (rest := []) C (f := 15) (i := 0) (ci := 3) mf_15 rfl rfl rfl (kX3_replyA l) rfl gX3_reckon_X3_replyA rfl dsc_X3_replyA ⟨rfl, rfl⟩ ⟨by decide, by decide⟩ rfl rfl (Nat.le_of_ble_eq_true rfl) dX3_reckon_15 rfl h (fun r5 μ4 h => ?_)
  refine jr_lstore_n (q := 19) (lv' := [(3, .long r5), (1, .long x3), (0, .ref (z + mm_ad 15 0))]) C dX3_reckon_18 rfl (by decide) rfl rfl ?_
  refine jr_aload_n (q := 20) C 2 dX3_reckon_19 rfl rfl rfl ?_
  refine jr_getR (q := 23) (ci := 3) (Cn := RX3) (T := TX3) (N := 9) (j := 8) C mf_15 rfl rfl (by decide) rfl 16 0 rfl rfl rfl nX3_reckon_3 mX3_reckon_1 dX3_reckon_20 rfl rfl ?_
  refine jr_bipush (q := 25) (v := (6 : Int32)) C dX3_reckon_23 (by decide) rfl ?_
  obtain ⟨g6, h⟩ := h
  refine jr_lald (q := 26) C mf_16 rfl g6 dX3_reckon_25 rfl ?_
  refine jr_aload_n (q := 27) C 2 dX3_reckon_26 rfl rfl rfl ?_
  refine jr_getR (q := 30) (ci := 3) (Cn := RX3) (T := TX3) (N := 9) (j := 8) C mf_15 rfl rfl (by decide) rfl 16 0 rfl rfl rfl nX3_reckon_3 mX3_reckon_1 dX3_reckon_27 rfl rfl ?_
  refine jr_iconst (q := 31) (v := (3 : Int32)) C dX3_reckon_30 (by decide) rfl ?_
  obtain ⟨g7, h⟩ := h
  refine jr_lald (q := 32) C mf_16 rfl g7 dX3_reckon_31 rfl ?_
  refine jr_lsub (q := 33) C dX3_reckon_32 rfl ?_
  refine jn_lng (fun x8 ex8 => ?_)
  replace h := h x8 ex8
  refine jr_lstore (q := 35) (lv' := [(5, .long x8), (3, .long r5), (1, .long x3), (0, .ref (z + mm_ad 15 0))]) C dX3_reckon_33 (by decide) rfl rfl ?_
  refine jr_aload_n (q := 36) C 3 dX3_reckon_35 rfl rfl rfl ?_
  refine jr_getR (q := 39) (ci := 3) (Cn := RX3) (T := TX3) (N := 9) (j := 8) C mf_15 rfl rfl (by decide) rfl 16 0 rfl rfl rfl nX3_reckon_3 mX3_reckon_1 dX3_reckon_36 rfl rfl ?_
  refine jr_iconst (q := 40) (v := (5 : Int32)) C dX3_reckon_39 (by decide) rfl ?_
  obtain ⟨g9, h⟩ := h
  refine jr_lald (q := 41) C mf_16 rfl g9 dX3_reckon_40 rfl ?_
  refine jr_aload_n (q := 42) C 3 dX3_reckon_41 rfl rfl rfl ?_
  refine jr_getR (q := 45) (ci := 3) (Cn := RX3) (T := TX3) (N := 9) (j := 8) C mf_15 rfl rfl (by decide) rfl 16 0 rfl rfl rfl nX3_reckon_3 mX3_reckon_1 dX3_reckon_42 rfl rfl ?_
  refine jr_iconst (q := 46) (v := (4 : Int32)) C dX3_reckon_45 (by decide) rfl ?_
  obtain ⟨g10, h⟩ := h
  refine jr_lald (q := 47) C mf_16 rfl g10 dX3_reckon_46 rfl ?_
  refine jr_lsub (q := 48) C dX3_reckon_47 rfl ?_
  refine jn_lng (fun x11 ex11 => ?_)
  replace h := h x11 ex11
  refine jr_lstore (q := 50) (lv' := [(7, .long x11), (5, .long x8), (3, .long r5), (1, .long x3), (0, .ref (z + mm_ad 15 0))]) C dX3_reckon_48 (by decide) rfl rfl ?_
  refine jr_lload_n (q := 51) C 3 dX3_reckon_50 rfl rfl rfl ?_
  refine jr_lload (q := 53) C 1 dX3_reckon_51 rfl rfl ?_
  refine jr_ladd (q := 54) C dX3_reckon_53 rfl ?_
  refine jr_lload_n (q := 55) C 2 dX3_reckon_54 rfl rfl rfl ?_
  refine jr_ladd (q := 56) C dX3_reckon_55 rfl ?_
  refine jr_lload (q := 58) C 0 dX3_reckon_56 rfl rfl ?_
  refine jr_ladd (q := 59) C dX3_reckon_58 rfl ?_
  refine jn_lng (fun x12 ex12 => ?_)
  replace h := h x12 ex12
  refine jr_lstore (q := 61) (lv' := [(9, .long x12), (7, .long x11), (5, .long x8), (3, .long r5), (1, .long x3), (0, .ref (z + mm_ad 15 0))]) C dX3_reckon_59 (by decide) rfl rfl ?_
  refine jr_aload_n (q := 62) C 5 dX3_reckon_61 rfl rfl rfl ?_
  refine jr_lload_n (q := 63) C 4 dX3_reckon_62 rfl rfl rfl ?_
  refine jr_lload_n (q := 64) C 3 dX3_reckon_63 rfl rfl rfl ?_
  refine jr_lsub (q := 65) C dX3_reckon_64 rfl ?_
  refine jr_ldc2 (q := 68) (v := (2 : Int64)) C dX3_reckon_65 mX3_reckon_2 rfl ?_
  refine jr_csL (q := 71) (As := [.long (x3 - r5), .long (2 : Int64)]) (rest := [.ref (z + mm_ad 15 0)]) C  (kJ9_floorDiv_f86c9 l (x3 - r5) (2 : Int64)) rfl gX3_reckon_J9_floorDiv_f86c9 rfl dsc_J9_floorDiv_f86c9 ⟨rfl, rfl⟩ ⟨by decide, by decide⟩ rfl rfl (Nat.le_of_ble_eq_true rfl) dX3_reckon_68 rfl h (fun r14 μ13 h => ?_)
  refine jr_l2i (q := 72) C dX3_reckon_71 rfl ?_
  refine jr_putI (q := 75) (ci := 3) (Cn := RX3) (T := TX3) (N := 9) (j := 6) C mf_15 rfl rfl (by decide) rfl rfl tyX3 tyX3_ok nmX3 rfl (by decide +kernel) nX3_reckon_3 mX3_reckon_3 dX3_reckon_72 rfl rfl ?_
  refine jn_mem (fun μ15 eμ15 => ?_)
  replace h := h μ15 eμ15
  refine jr_aload_n (q := 76) C 5 dX3_reckon_75 rfl rfl rfl ?_
  refine jr_lload (q := 78) C 0 dX3_reckon_76 rfl rfl ?_
  refine jr_lconst (q := 79) (v := (0 : Int64)) C dX3_reckon_78 (by decide) rfl ?_
  refine jr_lcmp (q := 80) C dX3_reckon_79 rfl ?_
  refine jr_if_ne (q := 83) (tgt := 87) C dX3_reckon_80 (by decide) rfl (fun c20 => ?_) (fun c20 => ?_)
  · replace h := h.1 c20
    refine jr_lload_n (q := 88) C 4 dX3_reckon_87 rfl rfl rfl ?_
    refine jr_lload (q := 90) C 2 dX3_reckon_88 rfl rfl ?_
    refine jr_lmul (q := 91) C dX3_reckon_90 rfl ?_
    refine jr_lload_n (q := 92) C 3 dX3_reckon_91 rfl rfl rfl ?_
    refine jr_lload (q := 94) C 1 dX3_reckon_92 rfl rfl ?_
    refine jr_lmul (q := 95) C dX3_reckon_94 rfl ?_
    refine jr_lsub (q := 96) C dX3_reckon_95 rfl ?_
    refine jr_lload (q := 98) C 0 dX3_reckon_96 rfl rfl ?_
    refine jr_csL (q := 101) (As := [.long ((x3 * x8) - (r5 * x11)), .long x12]) (rest := [.ref (z + mm_ad 15 0)]) C  (kJ9_floorDiv_f86c9 l ((x3 * x8) - (r5 * x11)) x12) rfl gX3_reckon_J9_floorDiv_f86c9 rfl dsc_J9_floorDiv_f86c9 ⟨rfl, rfl⟩ ⟨by decide, by decide⟩ rfl rfl (Nat.le_of_ble_eq_true rfl) dX3_reckon_98 rfl h (fun r17 μ16 h => ?_)
    refine jr_l2i (q := 102) C dX3_reckon_101 rfl ?_
    refine jr_putI (q := 105) (ci := 3) (Cn := RX3) (T := TX3) (N := 9) (j := 7) C mf_15 rfl rfl (by decide) rfl rfl tyX3 tyX3_ok nmX3 rfl (by decide +kernel) nX3_reckon_3 mX3_reckon_4 dX3_reckon_102 rfl rfl ?_
    refine jn_mem (fun μ18 eμ18 => ?_)
    replace h := h μ18 eμ18
    exact jr_vret C hr hk dX3_reckon_105 h
  · replace h := h.2 c20
    refine jr_iconst (q := 84) (v := (0 : Int32)) C dX3_reckon_83 (by decide) rfl ?_
    refine jr_goto (tgt := 102) C dX3_reckon_84 (by decide) ?_
    refine jr_putI (q := 105) (ci := 3) (Cn := RX3) (T := TX3) (N := 9) (j := 7) C mf_15 rfl rfl (by decide) rfl rfl tyX3 tyX3_ok nmX3 rfl (by decide +kernel) nX3_reckon_3 mX3_reckon_4 dX3_reckon_102 rfl rfl ?_
    refine jn_mem (fun μ19 eμ19 => ?_)
    replace h := h μ19 eμ19
    exact jr_vret C hr hk dX3_reckon_105 h
theorem nX3_stamp_5 : ∀ w ∈ wsX50, w ∈ wsX3_stamp := fun _ h => List.mem_cons_of_mem _ (List.mem_append_left _ (List.mem_append_right _ h))
theorem mX3_stamp_1 : Cond.fieldLink RX3 22 RX5 (TX5 5).2.1 (TX5 5).2.2.1 ∈ wsX3_stamp := List.mem_of_getElem? (i := 1) (by decide +kernel)
theorem nX3_stamp_3 : ∀ w ∈ wsX30, w ∈ wsX3_stamp := fun _ h => List.mem_cons_of_mem _ (List.mem_append_right _ h)
theorem mX3_stamp_3 : Cond.fieldLink RX3 9 RX3 (TX3 8).2.1 (TX3 8).2.2.1 ∈ wsX3_stamp := List.mem_of_getElem? (i := 2) (by decide +kernel)
theorem mX3_stamp_4 : Cond.fieldLink RX3 31 RX3 (TX3 3).2.1 (TX3 3).2.2.1 ∈ wsX3_stamp := List.mem_of_getElem? (i := 3) (by decide +kernel)
theorem mX3_stamp_5 : Cond.fieldLink RX3 35 RX3 (TX3 4).2.1 (TX3 4).2.2.1 ∈ wsX3_stamp := List.mem_of_getElem? (i := 4) (by decide +kernel)
theorem dsc_X3_stamp : yX3_stamp.cls ≠ "java/lang/invoke/MethodHandle" ∧ yX3_stamp.cls ≠ "java/lang/invoke/VarHandle" ∧ (parseMethodDescriptor yX3_stamp.desc).map (fun d => d.parameters.length) = some 4 := by decide +kernel
def pX3_stamp (Po : Int64 → mm_T → Prop) (μ : mm_T) (i1 : Nat) (i2 : Nat) (p3 : Int64) (p4 : Int32) : Prop := i1 < 7 ∧ (i2 < 7 ∧ (∀ x1 : Int64, x1 = p3 + p4.toInt64 → (∀ x2 : Int64, x2 = x1 + ((μ.1 9 i2 5).toInt64) → (∀ x3 : Int64, x3 = x2 + p4.toInt64 → (∀ x4 : Int64, x4 = x3 + ((μ.1 9 i1 5).toInt64) → (∀ x5 : Int64, x5 = x4 + p4.toInt64 → (pX5_clockAt (fun r7 μ6 => (vp_in (1 : Int32) 7) ∧ (∀ μ9 : mm_T, μ9 = mm_L μ6 16 0 (1 : Int32).toNatClampNeg r7 → (pX5_clockAt (fun r11 μ10 => (vp_in (2 : Int32) 7) ∧ (∀ μ13 : mm_T, μ13 = mm_L μ10 16 0 (2 : Int32).toNatClampNeg r11 → (pX5_clockAt (fun r15 μ14 => (vp_in (3 : Int32) 7) ∧ (∀ μ17 : mm_T, μ17 = mm_L μ14 16 0 (3 : Int32).toNatClampNeg r15 → (pX5_clockAt (fun r19 μ18 => (vp_in (4 : Int32) 7) ∧ (∀ μ21 : mm_T, μ21 = mm_L μ18 16 0 (4 : Int32).toNatClampNeg r19 → (pX5_clockAt (fun r23 μ22 => (vp_in (5 : Int32) 7) ∧ (∀ μ25 : mm_T, μ25 = mm_L μ22 16 0 (5 : Int32).toNatClampNeg r23 → (pX5_clockAt (fun r27 μ26 => (vp_in (6 : Int32) 7) ∧ (∀ μ29 : mm_T, μ29 = mm_L μ26 16 0 (6 : Int32).toNatClampNeg r27 → (∀ μ30 : mm_T, μ30 = mm_L μ29 15 0 3 p3 → (∀ μ31 : mm_T, μ31 = mm_L μ30 15 0 4 x2 → (pX3_reckon (fun μ32 => Po x5 μ32) μ31 ))))) μ25 i2 x5))) μ21 i1 x4))) μ17 i1 x3))) μ13 i2 x2))) μ9 i2 x1))) μ i1 p3)))))))
set_option maxHeartbeats 4000000 in
set_option maxRecDepth 100000 in
theorem kX3_stamp (l : Launch) (i1 : Nat) (i2 : Nat) (p3 : Int64) (p4 : Int32) : mm_CL l yX3_stamp wsX3_stamp ({ frames := 2, cells := 0, slots := 0, locals := 55 }) (fun z => [.ref (z + mm_ad 15 0), .ref (z + mm_ad 9 i1), .ref (z + mm_ad 9 i2), .long p3, .int p4]) (fun μ Po => pX3_stamp Po μ i1 i2 p3 p4) := by
  refine je_L (cc := cX3_stamp) (nL := 18) (own := RX3) (plainFor_of_name (by decide)) rfl rfl (fun _ => Nat.le_of_ble_eq_true rfl) ?_
  intro p e s m args below meth c D cy z μ Po C hr hk h
  change jJ p l e ({ frames := 2, cells := 0, slots := 0, locals := 55 }) s m args below meth c D cy z (MQ below (va_Ql Po (mm_Po D cy z) (mm_A z)) args s 0 0 (mm_A z)) 18 μ 0 [(0, .ref (z + mm_ad 15 0)), (1, .ref (z + mm_ad 9 i1)), (2, .ref (z + mm_ad 9 i2)), (3, .long p3), (5, .int p4)] []
  replace h : pX3_stamp Po μ i1 i2 p3 p4 := h
  unfold pX3_stamp at h
  obtain ⟨hi_i1, h⟩ := h
  obtain ⟨hi_i2, h⟩ := h
  refine jr_lload_n (q := 1) C 3 dX3_stamp_0 rfl rfl rfl ?_
  refine jr_lstore (q := 3) (lv' := [(6, .long p3), (0, .ref (z + mm_ad 15 0)), (1, .ref (z + mm_ad 9 i1)), (2, .ref (z + mm_ad 9 i2)), (3, .long p3), (5, .int p4)]) C dX3_stamp_1 (by decide) rfl rfl ?_
  refine jr_lload (q := 5) C 0 dX3_stamp_3 rfl rfl ?_
  refine jr_iload (q := 7) C 5 dX3_stamp_5 rfl rfl ?_
  refine jr_i2l (q := 8) C dX3_stamp_7 rfl ?_
  refine jr_ladd (q := 9) C dX3_stamp_8 rfl ?_
  refine jn_lng (fun x1 ex1 => ?_)
  replace h := h x1 ex1
  refine jr_lstore (q := 11) (lv' := [(8, .long x1), (6, .long p3), (0, .ref (z + mm_ad 15 0)), (1, .ref (z + mm_ad 9 i1)), (2, .ref (z + mm_ad 9 i2)), (3, .long p3), (5, .int p4)]) C dX3_stamp_9 (by decide) rfl rfl ?_
  refine jr_lload (q := 13) C 0 dX3_stamp_11 rfl rfl ?_
  refine jr_aload_n (q := 14) C 4 dX3_stamp_13 rfl rfl rfl ?_
  refine jr_getI (q := 17) (ci := 5) (Cn := RX5) (T := TX5) (N := 8) (j := 5) C hi_i2 rfl rfl (by decide) rfl rfl nX3_stamp_5 mX3_stamp_1 dX3_stamp_14 rfl rfl ?_
  refine jr_i2l (q := 18) C dX3_stamp_17 rfl ?_
  refine jr_ladd (q := 19) C dX3_stamp_18 rfl ?_
  refine jn_lng (fun x2 ex2 => ?_)
  replace h := h x2 ex2
  refine jr_lstore (q := 21) (lv' := [(10, .long x2), (8, .long x1), (6, .long p3), (0, .ref (z + mm_ad 15 0)), (1, .ref (z + mm_ad 9 i1)), (2, .ref (z + mm_ad 9 i2)), (3, .long p3), (5, .int p4)]) C dX3_stamp_19 (by decide) rfl rfl ?_
  refine jr_lload (q := 23) C 0 dX3_stamp_21 rfl rfl ?_
  refine jr_iload (q := 25) C 7 dX3_stamp_23 rfl rfl ?_
  refine jr_i2l (q := 26) C dX3_stamp_25 rfl ?_
  refine jr_ladd (q := 27) C dX3_stamp_26 rfl ?_
  refine jn_lng (fun x3 ex3 => ?_)
  replace h := h x3 ex3
  refine jr_lstore (q := 29) (lv' := [(12, .long x3), (10, .long x2), (8, .long x1), (6, .long p3), (0, .ref (z + mm_ad 15 0)), (1, .ref (z + mm_ad 9 i1)), (2, .ref (z + mm_ad 9 i2)), (3, .long p3), (5, .int p4)]) C dX3_stamp_27 (by decide) rfl rfl ?_
  refine jr_lload (q := 31) C 0 dX3_stamp_29 rfl rfl ?_
  refine jr_aload_n (q := 32) C 5 dX3_stamp_31 rfl rfl rfl ?_
  refine jr_getI (q := 35) (ci := 5) (Cn := RX5) (T := TX5) (N := 8) (j := 5) C hi_i1 rfl rfl (by decide) rfl rfl nX3_stamp_5 mX3_stamp_1 dX3_stamp_32 rfl rfl ?_
  refine jr_i2l (q := 36) C dX3_stamp_35 rfl ?_
  refine jr_ladd (q := 37) C dX3_stamp_36 rfl ?_
  refine jn_lng (fun x4 ex4 => ?_)
  replace h := h x4 ex4
  refine jr_lstore (q := 39) (lv' := [(14, .long x4), (12, .long x3), (10, .long x2), (8, .long x1), (6, .long p3), (0, .ref (z + mm_ad 15 0)), (1, .ref (z + mm_ad 9 i1)), (2, .ref (z + mm_ad 9 i2)), (3, .long p3), (5, .int p4)]) C dX3_stamp_37 (by decide) rfl rfl ?_
  refine jr_lload (q := 41) C 0 dX3_stamp_39 rfl rfl ?_
  refine jr_iload (q := 43) C 9 dX3_stamp_41 rfl rfl ?_
  refine jr_i2l (q := 44) C dX3_stamp_43 rfl ?_
  refine jr_ladd (q := 45) C dX3_stamp_44 rfl ?_
  refine jn_lng (fun x5 ex5 => ?_)
  replace h := h x5 ex5
  refine jr_lstore (q := 47) (lv' := [(16, .long x5), (14, .long x4), (12, .long x3), (10, .long x2), (8, .long x1), (6, .long p3), (0, .ref (z + mm_ad 15 0)), (1, .ref (z + mm_ad 9 i1)), (2, .ref (z + mm_ad 9 i2)), (3, .long p3), (5, .int p4)]) C dX3_stamp_45 (by decide) rfl rfl ?_
  refine jr_aload_n (q := 48) C 6 dX3_stamp_47 rfl rfl rfl ?_
  refine jr_getR (q := 51) (ci := 3) (Cn := RX3) (T := TX3) (N := 9) (j := 8) C mf_15 rfl rfl (by decide) rfl 16 0 rfl rfl rfl nX3_stamp_3 mX3_stamp_3 dX3_stamp_48 rfl rfl ?_
  refine jr_iconst (q := 52) (v := (1 : Int32)) C dX3_stamp_51 (by decide) rfl ?_
  refine jr_aload_n (q := 53) C 7 dX3_stamp_52 rfl rfl rfl ?_
  refine jr_lload (q := 55) C 5 dX3_stamp_53 rfl rfl ?_
  refine jr_cvL (q := 58) (As := [.long p3]) (rest := [.int (1 : Int32), .ref (z + mm_ad 16 0)]) C (f := 9) (i := i1) (ci := 5) hi_i1 rfl rfl rfl (kX5_clockAt l i1 p3) rfl gX3_stamp_X5_clockAt rfl dsc_X5_clockAt ⟨rfl, rfl⟩ ⟨by decide, by decide⟩ rfl rfl (Nat.le_of_ble_eq_true rfl) dX3_stamp_55 rfl h (fun r7 μ6 h => ?_)
  obtain ⟨g8, h⟩ := h
  refine jr_last (q := 59) C mf_16 rfl g8 dX3_stamp_58 rfl ?_
  refine jn_mem (fun μ9 eμ9 => ?_)
  replace h := h μ9 eμ9
  refine jr_aload_n (q := 60) C 6 dX3_stamp_59 rfl rfl rfl ?_
  refine jr_getR (q := 63) (ci := 3) (Cn := RX3) (T := TX3) (N := 9) (j := 8) C mf_15 rfl rfl (by decide) rfl 16 0 rfl rfl rfl nX3_stamp_3 mX3_stamp_3 dX3_stamp_60 rfl rfl ?_
  refine jr_iconst (q := 64) (v := (2 : Int32)) C dX3_stamp_63 (by decide) rfl ?_
  refine jr_aload_n (q := 65) C 8 dX3_stamp_64 rfl rfl rfl ?_
  refine jr_lload (q := 67) C 4 dX3_stamp_65 rfl rfl ?_
  refine jr_cvL (q := 70) (As := [.long x1]) (rest := [.int (2 : Int32), .ref (z + mm_ad 16 0)]) C (f := 9) (i := i2) (ci := 5) hi_i2 rfl rfl rfl (kX5_clockAt l i2 x1) rfl gX3_stamp_X5_clockAt rfl dsc_X5_clockAt ⟨rfl, rfl⟩ ⟨by decide, by decide⟩ rfl rfl (Nat.le_of_ble_eq_true rfl) dX3_stamp_67 rfl h (fun r11 μ10 h => ?_)
  obtain ⟨g12, h⟩ := h
  refine jr_last (q := 71) C mf_16 rfl g12 dX3_stamp_70 rfl ?_
  refine jn_mem (fun μ13 eμ13 => ?_)
  replace h := h μ13 eμ13
  refine jr_aload_n (q := 72) C 6 dX3_stamp_71 rfl rfl rfl ?_
  refine jr_getR (q := 75) (ci := 3) (Cn := RX3) (T := TX3) (N := 9) (j := 8) C mf_15 rfl rfl (by decide) rfl 16 0 rfl rfl rfl nX3_stamp_3 mX3_stamp_3 dX3_stamp_72 rfl rfl ?_
  refine jr_iconst (q := 76) (v := (3 : Int32)) C dX3_stamp_75 (by decide) rfl ?_
  refine jr_aload_n (q := 77) C 8 dX3_stamp_76 rfl rfl rfl ?_
  refine jr_lload (q := 79) C 3 dX3_stamp_77 rfl rfl ?_
  refine jr_cvL (q := 82) (As := [.long x2]) (rest := [.int (3 : Int32), .ref (z + mm_ad 16 0)]) C (f := 9) (i := i2) (ci := 5) hi_i2 rfl rfl rfl (kX5_clockAt l i2 x2) rfl gX3_stamp_X5_clockAt rfl dsc_X5_clockAt ⟨rfl, rfl⟩ ⟨by decide, by decide⟩ rfl rfl (Nat.le_of_ble_eq_true rfl) dX3_stamp_79 rfl h (fun r15 μ14 h => ?_)
  obtain ⟨g16, h⟩ := h
  refine jr_last (q := 83) C mf_16 rfl g16 dX3_stamp_82 rfl ?_
  refine jn_mem (fun μ17 eμ17 => ?_)
  replace h := h μ17 eμ17
  refine jr_aload_n (q := 84) C 6 dX3_stamp_83 rfl rfl rfl ?_
  refine jr_getR (q := 87) (ci := 3) (Cn := RX3) (T := TX3) (N := 9) (j := 8) C mf_15 rfl rfl (by decide) rfl 16 0 rfl rfl rfl nX3_stamp_3 mX3_stamp_3 dX3_stamp_84 rfl rfl ?_
  refine jr_iconst (q := 88) (v := (4 : Int32)) C dX3_stamp_87 (by decide) rfl ?_
  refine jr_aload_n (q := 89) C 7 dX3_stamp_88 rfl rfl rfl ?_
  refine jr_lload (q := 91) C 2 dX3_stamp_89 rfl rfl ?_
  refine jr_cvL (q := 94) (As := [.long x3]) (rest := [.int (4 : Int32), .ref (z + mm_ad 16 0)]) C (f := 9) (i := i1) (ci := 5) hi_i1 rfl rfl rfl (kX5_clockAt l i1 x3) rfl gX3_stamp_X5_clockAt rfl dsc_X5_clockAt ⟨rfl, rfl⟩ ⟨by decide, by decide⟩ rfl rfl (Nat.le_of_ble_eq_true rfl) dX3_stamp_91 rfl h (fun r19 μ18 h => ?_)
  obtain ⟨g20, h⟩ := h
  refine jr_last (q := 95) C mf_16 rfl g20 dX3_stamp_94 rfl ?_
  refine jn_mem (fun μ21 eμ21 => ?_)
  replace h := h μ21 eμ21
  refine jr_aload_n (q := 96) C 6 dX3_stamp_95 rfl rfl rfl ?_
  refine jr_getR (q := 99) (ci := 3) (Cn := RX3) (T := TX3) (N := 9) (j := 8) C mf_15 rfl rfl (by decide) rfl 16 0 rfl rfl rfl nX3_stamp_3 mX3_stamp_3 dX3_stamp_96 rfl rfl ?_
  refine jr_iconst (q := 100) (v := (5 : Int32)) C dX3_stamp_99 (by decide) rfl ?_
  refine jr_aload_n (q := 101) C 7 dX3_stamp_100 rfl rfl rfl ?_
  refine jr_lload (q := 103) C 1 dX3_stamp_101 rfl rfl ?_
  refine jr_cvL (q := 106) (As := [.long x4]) (rest := [.int (5 : Int32), .ref (z + mm_ad 16 0)]) C (f := 9) (i := i1) (ci := 5) hi_i1 rfl rfl rfl (kX5_clockAt l i1 x4) rfl gX3_stamp_X5_clockAt rfl dsc_X5_clockAt ⟨rfl, rfl⟩ ⟨by decide, by decide⟩ rfl rfl (Nat.le_of_ble_eq_true rfl) dX3_stamp_103 rfl h (fun r23 μ22 h => ?_)
  obtain ⟨g24, h⟩ := h
  refine jr_last (q := 107) C mf_16 rfl g24 dX3_stamp_106 rfl ?_
  refine jn_mem (fun μ25 eμ25 => ?_)
  replace h := h μ25 eμ25
  refine jr_aload_n (q := 108) C 6 dX3_stamp_107 rfl rfl rfl ?_
  refine jr_getR (q := 111) (ci := 3) (Cn := RX3) (T := TX3) (N := 9) (j := 8) C mf_15 rfl rfl (by decide) rfl 16 0 rfl rfl rfl nX3_stamp_3 mX3_stamp_3 dX3_stamp_108 rfl rfl ?_
  refine jr_bipush (q := 113) (v := (6 : Int32)) C dX3_stamp_111 (by decide) rfl ?_
  refine jr_aload_n (q := 114) C 8 dX3_stamp_113 rfl rfl rfl ?_
  refine jr_lload (q := 116) C 0 dX3_stamp_114 rfl rfl ?_
  refine jr_cvL (q := 119) (As := [.long x5]) (rest := [.int (6 : Int32), .ref (z + mm_ad 16 0)]) C (f := 9) (i := i2) (ci := 5) hi_i2 rfl rfl rfl (kX5_clockAt l i2 x5) rfl gX3_stamp_X5_clockAt rfl dsc_X5_clockAt ⟨rfl, rfl⟩ ⟨by decide, by decide⟩ rfl rfl (Nat.le_of_ble_eq_true rfl) dX3_stamp_116 rfl h (fun r27 μ26 h => ?_)
  obtain ⟨g28, h⟩ := h
  refine jr_last (q := 120) C mf_16 rfl g28 dX3_stamp_119 rfl ?_
  refine jn_mem (fun μ29 eμ29 => ?_)
  replace h := h μ29 eμ29
  refine jr_aload_n (q := 121) C 6 dX3_stamp_120 rfl rfl rfl ?_
  refine jr_lload (q := 123) C 5 dX3_stamp_121 rfl rfl ?_
  refine jr_putL (q := 126) (ci := 3) (Cn := RX3) (T := TX3) (N := 9) (j := 3) C mf_15 rfl rfl (by decide) rfl rfl tyX3 tyX3_ok nmX3 rfl (by decide +kernel) nX3_stamp_3 mX3_stamp_4 dX3_stamp_123 rfl rfl ?_
  refine jn_mem (fun μ30 eμ30 => ?_)
  replace h := h μ30 eμ30
  refine jr_aload_n (q := 127) C 6 dX3_stamp_126 rfl rfl rfl ?_
  refine jr_lload (q := 129) C 3 dX3_stamp_127 rfl rfl ?_
  refine jr_putL (q := 132) (ci := 3) (Cn := RX3) (T := TX3) (N := 9) (j := 4) C mf_15 rfl rfl (by decide) rfl rfl tyX3 tyX3_ok nmX3 rfl (by decide +kernel) nX3_stamp_3 mX3_stamp_5 dX3_stamp_129 rfl rfl ?_
  refine jn_mem (fun μ31 eμ31 => ?_)
  replace h := h μ31 eμ31
  refine jr_aload_n (q := 133) C 6 dX3_stamp_132 rfl rfl rfl ?_
  refine jr_cvV (q := 136) (As := []) (rest := []) C (f := 15) (i := 0) (ci := 3) mf_15 rfl rfl rfl (kX3_reckon l) rfl gX3_stamp_X3_reckon rfl dsc_X3_reckon ⟨rfl, rfl⟩ ⟨by decide, by decide⟩ rfl rfl (Nat.le_of_ble_eq_true rfl) dX3_stamp_133 rfl h (fun μ32 h => ?_)
  refine jr_lload (q := 138) C 0 dX3_stamp_136 rfl rfl ?_
  exact jr_lret C hr hk dX3_stamp_138 h
