theorem nX10_pulsesWithNext_10 : ∀ w ∈ wsX100, w ∈ wsX10_pulsesWithNext := fun _ h => List.mem_cons_of_mem _ (List.mem_append_left _ (List.mem_append_left _ (List.mem_append_left _ (List.mem_append_left _ (List.mem_append_left _ (List.mem_append_left _ (List.mem_append_right _ h)))))))
theorem mX10_pulsesWithNext_1 : Cond.fieldLink RX10 26 RX10 (TX10 2).2.1 (TX10 2).2.2.1 ∈ wsX10_pulsesWithNext := List.mem_of_getElem? (i := 1) (by decide +kernel)
theorem nX10_pulsesWithNext_0 : ∀ w ∈ wsX00, w ∈ wsX10_pulsesWithNext := fun _ h => List.mem_cons_of_mem _ (List.mem_append_left _ (List.mem_append_left _ (List.mem_append_left _ (List.mem_append_left _ (List.mem_append_left _ (List.mem_append_right _ h))))))
theorem mX10_pulsesWithNext_3 : Cond.fieldLink RX10 65 RX0 (TX0 0).2.1 (TX0 0).2.2.1 ∈ wsX10_pulsesWithNext := List.mem_of_getElem? (i := 2) (by decide +kernel)
theorem nX10_pulsesWithNext_5 : ∀ w ∈ wsX50, w ∈ wsX10_pulsesWithNext := fun _ h => List.mem_cons_of_mem _ (List.mem_append_left _ (List.mem_append_left _ (List.mem_append_left _ (List.mem_append_left _ (List.mem_append_right _ h)))))
theorem mX10_pulsesWithNext_5 : Cond.fieldLink RX10 274 RX5 (TX5 7).2.1 (TX5 7).2.2.1 ∈ wsX10_pulsesWithNext := List.mem_of_getElem? (i := 3) (by decide +kernel)
theorem mX10_pulsesWithNext_6 : Cond.constant RX10 203 (-1000005) ∈ wsX10_pulsesWithNext := List.mem_of_getElem? (i := 4) (by decide +kernel)
theorem dsc_X10_pulsesWithNext : yX10_pulsesWithNext.cls ≠ "java/lang/invoke/MethodHandle" ∧ yX10_pulsesWithNext.cls ≠ "java/lang/invoke/VarHandle" ∧ (parseMethodDescriptor yX10_pulsesWithNext.desc).map (fun d => d.parameters.length) = some 1 := by decide +kernel
def pX10_pulsesWithNext (Po : Int32 → mm_T → Prop) (μ : mm_T) (p1 : Int32) : Prop := (vp_in p1 7) ∧ (∀ x2 : Int32, x2 = μ.1 9 p1.toNatClampNeg 7 → (pX0_hasPair (fun r4 μ3 => (¬ r4 = 0 → pX10_countedPulses (fun r6 μ5 => (vp_in p1 7) ∧ (pX0_anchorBehind (fun r9 μ8 => ∀ μ10 : mm_T, μ10 = mm_I μ8 9 p1.toNatClampNeg 7 r9 → (Po r6 μ10)) μ5 x2)) μ3 p1 x2) ∧ (r4 = 0 → Po (-1000005 : Int32) μ3)) μ p1 x2))
set_option maxHeartbeats 4000000 in
set_option maxRecDepth 100000 in
theorem kX10_pulsesWithNext (l : Launch) (p1 : Int32) : mm_CI l yX10_pulsesWithNext wsX10_pulsesWithNext ({ frames := 5, cells := 0, slots := 0, locals := 140 }) (fun z => [.ref (z + mm_ad 0 0), .int p1]) (fun μ Po => pX10_pulsesWithNext Po μ p1) := by
  refine je_I (cc := cX10_pulsesWithNext) (nL := 4) (own := RX10) (plainFor_of_name (by decide)) rfl rfl (fun _ => Nat.le_of_ble_eq_true rfl) ?_
  intro p e s m args below meth c D cy z μ Po C hr hk h
  change jJ p l e ({ frames := 5, cells := 0, slots := 0, locals := 140 }) s m args below meth c D cy z (MQ below (va_Qi Po (mm_Po D cy z) (mm_A z)) args s 0 0 (mm_A z)) 4 μ 0 [(0, .ref (z + mm_ad 0 0)), (1, .int p1)] []
  replace h : pX10_pulsesWithNext Po μ p1 := h
  unfold pX10_pulsesWithNext at h
  refine jr_aload_n (q := 1) C 0 dX10_pulsesWithNext_0 rfl rfl rfl ?_
  refine jr_getR (q := 4) (ci := 10) (Cn := RX10) (T := TX10) (N := 7) (j := 2) C mf_0 rfl rfl (by decide) rfl 6 0 rfl rfl rfl nX10_pulsesWithNext_10 mX10_pulsesWithNext_1 dX10_pulsesWithNext_1 rfl rfl ?_
  refine jr_getR (q := 7) (ci := 0) (Cn := RX0) (T := TX0) (N := 11) (j := 0) C mf_6 rfl rfl (by decide) rfl 7 0 rfl rfl rfl nX10_pulsesWithNext_0 mX10_pulsesWithNext_3 dX10_pulsesWithNext_4 rfl rfl ?_
  refine jr_iload_n (q := 8) C 1 dX10_pulsesWithNext_7 rfl rfl rfl ?_
  obtain ⟨g1, h⟩ := h
  refine jr_aald (q := 9) (t := 1) C mf_7 9 (fun _ => rfl) (fun _ _ => rfl) rfl (by decide) g1 dX10_pulsesWithNext_8 rfl ?_
  refine jr_getI (q := 12) (ci := 5) (Cn := RX5) (T := TX5) (N := 8) (j := 7) C (mm_lt g1) rfl rfl (by decide) rfl rfl nX10_pulsesWithNext_5 mX10_pulsesWithNext_5 dX10_pulsesWithNext_9 rfl rfl ?_
  refine jn_int (fun x2 ex2 => ?_)
  replace h := h x2 ex2
  refine jr_istore_n (q := 13) (lv' := [(2, .int x2), (0, .ref (z + mm_ad 0 0)), (1, .int p1)]) C dX10_pulsesWithNext_12 rfl (by decide) rfl rfl ?_
  refine jr_aload_n (q := 14) C 1 dX10_pulsesWithNext_13 rfl rfl rfl ?_
  refine jr_getR (q := 17) (ci := 10) (Cn := RX10) (T := TX10) (N := 7) (j := 2) C mf_0 rfl rfl (by decide) rfl 6 0 rfl rfl rfl nX10_pulsesWithNext_10 mX10_pulsesWithNext_1 dX10_pulsesWithNext_14 rfl rfl ?_
  refine jr_iload_n (q := 18) C 2 dX10_pulsesWithNext_17 rfl rfl rfl ?_
  refine jr_iload_n (q := 19) C 0 dX10_pulsesWithNext_18 rfl rfl rfl ?_
  refine jr_cvI (q := 22) (As := [.int p1, .int x2]) (rest := []) C (f := 6) (i := 0) (ci := 0) mf_6 rfl rfl rfl (kX0_hasPair l p1 x2) rfl gX10_pulsesWithNext_X0_hasPair rfl dsc_X0_hasPair ⟨rfl, rfl⟩ ⟨by decide, by decide⟩ rfl rfl (Nat.le_of_ble_eq_true rfl) dX10_pulsesWithNext_19 rfl h (fun r4 μ3 h => ?_)
  refine jr_if_ne (q := 25) (tgt := 28) C dX10_pulsesWithNext_22 (by decide) rfl (fun c11 => ?_) (fun c11 => ?_)
  · replace h := h.1 c11
    refine jr_aload_n (q := 29) C 1 dX10_pulsesWithNext_28 rfl rfl rfl ?_
    refine jr_iload_n (q := 30) C 2 dX10_pulsesWithNext_29 rfl rfl rfl ?_
    refine jr_iload_n (q := 31) C 0 dX10_pulsesWithNext_30 rfl rfl rfl ?_
    refine jr_cvI (q := 34) (As := [.int p1, .int x2]) (rest := []) C (f := 0) (i := 0) (ci := 10) mf_0 rfl rfl rfl (kX10_countedPulses l p1 x2) rfl gX10_pulsesWithNext_X10_countedPulses rfl dsc_X10_countedPulses ⟨rfl, rfl⟩ ⟨by decide, by decide⟩ rfl rfl (Nat.le_of_ble_eq_true rfl) dX10_pulsesWithNext_31 rfl h (fun r6 μ5 h => ?_)
    refine jr_istore_n (q := 35) (lv' := [(3, .int r6), (2, .int x2), (0, .ref (z + mm_ad 0 0)), (1, .int p1)]) C dX10_pulsesWithNext_34 rfl (by decide) rfl rfl ?_
    refine jr_aload_n (q := 36) C 2 dX10_pulsesWithNext_35 rfl rfl rfl ?_
    refine jr_getR (q := 39) (ci := 10) (Cn := RX10) (T := TX10) (N := 7) (j := 2) C mf_0 rfl rfl (by decide) rfl 6 0 rfl rfl rfl nX10_pulsesWithNext_10 mX10_pulsesWithNext_1 dX10_pulsesWithNext_36 rfl rfl ?_
    refine jr_getR (q := 42) (ci := 0) (Cn := RX0) (T := TX0) (N := 11) (j := 0) C mf_6 rfl rfl (by decide) rfl 7 0 rfl rfl rfl nX10_pulsesWithNext_0 mX10_pulsesWithNext_3 dX10_pulsesWithNext_39 rfl rfl ?_
    refine jr_iload_n (q := 43) C 3 dX10_pulsesWithNext_42 rfl rfl rfl ?_
    obtain ⟨g7, h⟩ := h
    refine jr_aald (q := 44) (t := 1) C mf_7 9 (fun _ => rfl) (fun _ _ => rfl) rfl (by decide) g7 dX10_pulsesWithNext_43 rfl ?_
    refine jr_aload_n (q := 45) C 2 dX10_pulsesWithNext_44 rfl rfl rfl ?_
    refine jr_getR (q := 48) (ci := 10) (Cn := RX10) (T := TX10) (N := 7) (j := 2) C mf_0 rfl rfl (by decide) rfl 6 0 rfl rfl rfl nX10_pulsesWithNext_10 mX10_pulsesWithNext_1 dX10_pulsesWithNext_45 rfl rfl ?_
    refine jr_iload_n (q := 49) C 1 dX10_pulsesWithNext_48 rfl rfl rfl ?_
    refine jr_cvI (q := 52) (As := [.int x2]) (rest := [.ref (z + mm_ad 9 p1.toNatClampNeg)]) C (f := 6) (i := 0) (ci := 0) mf_6 rfl rfl rfl (kX0_anchorBehind l x2) rfl gX10_pulsesWithNext_X0_anchorBehind rfl dsc_X0_anchorBehind ⟨rfl, rfl⟩ ⟨by decide, by decide⟩ rfl rfl (Nat.le_of_ble_eq_true rfl) dX10_pulsesWithNext_49 rfl h (fun r9 μ8 h => ?_)
    refine jr_putI (q := 55) (ci := 5) (Cn := RX5) (T := TX5) (N := 8) (j := 7) C (mm_lt g7) rfl rfl (by decide) rfl rfl tyX5 tyX5_ok nmX5 rfl (by decide +kernel) nX10_pulsesWithNext_5 mX10_pulsesWithNext_5 dX10_pulsesWithNext_52 rfl rfl ?_
    refine jn_mem (fun μ10 eμ10 => ?_)
    replace h := h μ10 eμ10
    refine jr_iload_n (q := 56) C 0 dX10_pulsesWithNext_55 rfl rfl rfl ?_
    exact jr_iret C hr hk dX10_pulsesWithNext_56 h
  · replace h := h.2 c11
    refine jr_ldc (q := 27) (v := (-1000005 : Int32)) C dX10_pulsesWithNext_25 mX10_pulsesWithNext_6 rfl ?_
    exact jr_iret C hr hk dX10_pulsesWithNext_27 h
theorem nX10_frame_10 : ∀ w ∈ wsX100, w ∈ wsX10_frame := fun _ h => List.mem_cons_of_mem _ (List.mem_append_left _ (List.mem_append_left _ (List.mem_append_left _ (List.mem_append_left _ (List.mem_append_left _ (List.mem_append_left _ (List.mem_append_left _ (List.mem_append_right _ h))))))))
theorem mX10_frame_1 : Cond.fieldLink RX10 26 RX10 (TX10 2).2.1 (TX10 2).2.2.1 ∈ wsX10_frame := List.mem_of_getElem? (i := 1) (by decide +kernel)
theorem mX10_frame_2 : Cond.constant RX10 51 (-1000003) ∈ wsX10_frame := List.mem_of_getElem? (i := 5) (by decide +kernel)
theorem nX10_frame_0 : ∀ w ∈ wsX00, w ∈ wsX10_frame := fun _ h => List.mem_cons_of_mem _ (List.mem_append_left _ (List.mem_append_left _ (List.mem_append_left _ (List.mem_append_left _ (List.mem_append_left _ (List.mem_append_left _ (List.mem_append_right _ h)))))))
theorem mX10_frame_4 : Cond.fieldLink RX10 69 RX0 (TX0 2).2.1 (TX0 2).2.2.1 ∈ wsX10_frame := List.mem_of_getElem? (i := 2) (by decide +kernel)
theorem mX10_frame_5 : Cond.constantLong RX10 194 (48000) ∈ wsX10_frame := List.mem_of_getElem? (i := 3) (by decide +kernel)
theorem mX10_frame_6 : Cond.constantLong RX10 121 (9999999) ∈ wsX10_frame := List.mem_of_getElem? (i := 4) (by decide +kernel)
theorem mX10_frame_7 : Cond.fieldLink RX10 204 RX10 (TX10 6).2.1 (TX10 6).2.2.1 ∈ wsX10_frame := List.mem_of_getElem? (i := 9) (by decide +kernel)
theorem mX10_frame_8 : Cond.fieldLink RX10 184 RX0 (TX0 6).2.1 (TX0 6).2.2.1 ∈ wsX10_frame := List.mem_of_getElem? (i := 6) (by decide +kernel)
theorem nX10_frame_9 : ∀ w ∈ wsX90, w ∈ wsX10_frame := fun _ h => List.mem_cons_of_mem _ (List.mem_append_left _ (List.mem_append_left _ (List.mem_append_left _ (List.mem_append_left _ (List.mem_append_left _ (List.mem_append_right _ h))))))
theorem mX10_frame_10 : Cond.fieldLink RX10 188 RX9 (TX9 0).2.1 (TX9 0).2.2.1 ∈ wsX10_frame := List.mem_of_getElem? (i := 7) (by decide +kernel)
theorem mX10_frame_11 : Cond.constant RX10 203 (-1000005) ∈ wsX10_frame := List.mem_of_getElem? (i := 8) (by decide +kernel)
theorem dsc_X10_frame : yX10_frame.cls ≠ "java/lang/invoke/MethodHandle" ∧ yX10_frame.cls ≠ "java/lang/invoke/VarHandle" ∧ (parseMethodDescriptor yX10_frame.desc).map (fun d => d.parameters.length) = some 0 := by decide +kernel
def pX10_frame_l44 (Po : Int32 → mm_T → Prop) (E44_114 : mm_T → Int64 → Int32 → Prop) (K44 : mm_T → Int64 → Int32 → Int32 → Prop) (μ : mm_T) (a1 : Int64) (a3 : Int32) (a4 : Int32) : Prop := ((16 : Int32) ≤ a4 → E44_114 μ a1 a3) ∧ (¬ ((16 : Int32) ≤ a4) → pX0_waitUntil (fun μ6 => (vp_in a4 16) ∧ (∀ x8 : Int32, x8 = μ6.1 18 0 a4.toNatClampNeg → (pX0_isTag (fun r10 μ9 => (r10 = 0 → K44 μ9 a1 a3 (a4 + (1 : Int32))) ∧ (¬ (r10 = 0) → pX10_pulsesWithNext (fun r12 μ11 => (r12 = (-1000005 : Int32) → K44 μ11 a1 a3 (a4 + (1 : Int32))) ∧ (¬ (r12 = (-1000005 : Int32)) → K44 μ11 a1 (a3 + (1 : Int32)) (a4 + (1 : Int32)))) μ9 x8)) μ6 x8))) μ (a1 + (((3000 : Int32) * a4).toInt64)))
def pX10_frame (Po : Int32 → mm_T → Prop) (μ : mm_T) : Prop := pX0_isRead (fun r2 μ1 => (r2 = 0 → Po (-1000003 : Int32) μ1) ∧ (¬ (r2 = 0) → ((lg_cmp ((μ1.2 6 0 2) + (48000 : Int64)) (9999999 : Int64)) ≤ 0 → ∀ x3 : Int64, x3 = μ1.2 6 0 2 → (lp_ (fun (K9 : mm_T × Int64 × Int32 × Int32 → Prop) (t9 : mm_T × Int64 × Int32 × Int32) => pX10_frame_l44 Po (fun μ c1 c3 => pX0_waitUntil (fun μ4 => ∀ μ5 : mm_T, μ5 = mm_I μ4 0 0 6 ((μ4.1 0 0 6) + (1 : Int32)) → (Po c3 μ5)) μ (c1 + (48000 : Int64))) (fun μ a1 a3 a4 => K9 (μ, a1, a3, a4)) t9.1 t9.2.1 t9.2.2.1 t9.2.2.2) (μ1, x3, (0 : Int32), (0 : Int32)))) ∧ (¬ ((lg_cmp ((μ1.2 6 0 2) + (48000 : Int64)) (9999999 : Int64)) ≤ 0) → Po (-1000003 : Int32) μ1))) μ 
set_option maxHeartbeats 4000000 in
set_option maxRecDepth 100000 in
theorem kX10_frame (l : Launch) : mm_CI l yX10_frame wsX10_frame ({ frames := 6, cells := 0, slots := 0, locals := 163 }) (fun z => [.ref (z + mm_ad 0 0)]) (fun μ Po => pX10_frame Po μ) := by
  refine je_I (cc := cX10_frame) (nL := 6) (own := RX10) (plainFor_of_name (by decide)) rfl rfl (fun _ => Nat.le_of_ble_eq_true rfl) ?_
  intro p e s m args below meth c D cy z μ Po C hr hk h
  change jJ p l e ({ frames := 6, cells := 0, slots := 0, locals := 163 }) s m args below meth c D cy z (MQ below (va_Qi Po (mm_Po D cy z) (mm_A z)) args s 0 0 (mm_A z)) 6 μ 0 [(0, .ref (z + mm_ad 0 0))] []
  replace h : pX10_frame Po μ := h
  unfold pX10_frame at h
  refine jr_aload_n (q := 1) C 0 dX10_frame_0 rfl rfl rfl ?_
  refine jr_getR (q := 4) (ci := 10) (Cn := RX10) (T := TX10) (N := 7) (j := 2) C mf_0 rfl rfl (by decide) rfl 6 0 rfl rfl rfl nX10_frame_10 mX10_frame_1 dX10_frame_1 rfl rfl ?_
  refine jr_cvI (q := 7) (As := []) (rest := []) C (f := 6) (i := 0) (ci := 0) mf_6 rfl rfl rfl (kX0_isRead l) rfl gX10_frame_X0_isRead rfl dsc_X0_isRead ⟨rfl, rfl⟩ ⟨by decide, by decide⟩ rfl rfl (Nat.le_of_ble_eq_true rfl) dX10_frame_4 rfl h (fun r2 μ1 h => ?_)
  refine jr_if_eq (q := 10) (tgt := 28) C dX10_frame_7 (by decide) rfl (fun c17 => ?_) (fun c17 => ?_)
  · replace h := h.1 c17
    refine jr_ldc (q := 30) (v := (-1000003 : Int32)) C dX10_frame_28 mX10_frame_2 rfl ?_
    exact jr_iret C hr hk dX10_frame_30 h
  · replace h := h.2 c17
    refine jr_aload_n (q := 11) C 0 dX10_frame_10 rfl rfl rfl ?_
    refine jr_getR (q := 14) (ci := 10) (Cn := RX10) (T := TX10) (N := 7) (j := 2) C mf_0 rfl rfl (by decide) rfl 6 0 rfl rfl rfl nX10_frame_10 mX10_frame_1 dX10_frame_11 rfl rfl ?_
    refine jr_getL (q := 17) (ci := 0) (Cn := RX0) (T := TX0) (N := 11) (j := 2) C mf_6 rfl rfl (by decide) rfl rfl nX10_frame_0 mX10_frame_4 dX10_frame_14 rfl rfl ?_
    refine jr_ldc2 (q := 20) (v := (48000 : Int64)) C dX10_frame_17 mX10_frame_5 rfl ?_
    refine jr_ladd (q := 21) C dX10_frame_20 rfl ?_
    refine jr_ldc2 (q := 24) (v := (9999999 : Int64)) C dX10_frame_21 mX10_frame_6 rfl ?_
    refine jr_lcmp (q := 25) C dX10_frame_24 rfl ?_
    refine jr_if_le (q := 28) (tgt := 31) C dX10_frame_25 (by decide) rfl (fun c16 => ?_) (fun c16 => ?_)
    · replace h := h.1 c16
      refine jr_aload_n (q := 32) C 0 dX10_frame_31 rfl rfl rfl ?_
      refine jr_getR (q := 35) (ci := 10) (Cn := RX10) (T := TX10) (N := 7) (j := 2) C mf_0 rfl rfl (by decide) rfl 6 0 rfl rfl rfl nX10_frame_10 mX10_frame_1 dX10_frame_32 rfl rfl ?_
      refine jr_getL (q := 38) (ci := 0) (Cn := RX0) (T := TX0) (N := 11) (j := 2) C mf_6 rfl rfl (by decide) rfl rfl nX10_frame_0 mX10_frame_4 dX10_frame_35 rfl rfl ?_
      refine jn_lng (fun x3 ex3 => ?_)
      replace h := h x3 ex3
      refine jr_lstore_n (q := 39) (lv' := [(1, .long x3), (0, .ref (z + mm_ad 0 0))]) C dX10_frame_38 rfl (by decide) rfl rfl ?_
      refine jr_iconst (q := 40) (v := (0 : Int32)) C dX10_frame_39 (by decide) rfl ?_
      refine jr_istore_n (q := 41) (lv' := [(3, .int (0 : Int32)), (1, .long x3), (0, .ref (z + mm_ad 0 0))]) C dX10_frame_40 rfl (by decide) rfl rfl ?_
      refine jr_iconst (q := 42) (v := (0 : Int32)) C dX10_frame_41 (by decide) rfl ?_
      refine jr_istore (q := 44) (lv' := [(4, .int (0 : Int32)), (3, .int (0 : Int32)), (1, .long x3), (0, .ref (z + mm_ad 0 0))]) C dX10_frame_42 (by decide) rfl rfl ?_
      have l44 : ∀ (E44_114 : mm_T → Int64 → Int32 → Prop) (hE44_114 : ∀ (μ : mm_T) (c1 : Int64) (c3 : Int32), E44_114 μ c1 c3 → jJ p l e ({ frames := 6, cells := 0, slots := 0, locals := 163 }) s m args below meth c D cy z (MQ below (va_Qi Po (mm_Po D cy z) (mm_A z)) args s 0 0 (mm_A z)) 6 μ 114 [(0, .ref (z + mm_ad 0 0)), (1, .long c1), (3, .int c3)] []), ∀ t9 : mm_T × Int64 × Int32 × Int32, lp_ (fun (K9 : mm_T × Int64 × Int32 × Int32 → Prop) (t9 : mm_T × Int64 × Int32 × Int32) => pX10_frame_l44 Po E44_114 (fun μ a1 a3 a4 => K9 (μ, a1, a3, a4)) t9.1 t9.2.1 t9.2.2.1 t9.2.2.2) t9 → jJ p l e ({ frames := 6, cells := 0, slots := 0, locals := 163 }) s m args below meth c D cy z (MQ below (va_Qi Po (mm_Po D cy z) (mm_A z)) args s 0 0 (mm_A z)) 6 t9.1 44 [(0, .ref (z + mm_ad 0 0)), (1, .long t9.2.1), (3, .int t9.2.2.1), (4, .int t9.2.2.2)] [] := by
        intro E44_114 hE44_114 t9 h
        refine lp_go (P := fun t9 : mm_T × Int64 × Int32 × Int32 => jJ p l e ({ frames := 6, cells := 0, slots := 0, locals := 163 }) s m args below meth c D cy z (MQ below (va_Qi Po (mm_Po D cy z) (mm_A z)) args s 0 0 (mm_A z)) 6 t9.1 44 [(0, .ref (z + mm_ad 0 0)), (1, .long t9.2.1), (3, .int t9.2.2.1), (4, .int t9.2.2.2)] []) (fun K9 t9 hK h => ?_) t9 h
        obtain ⟨μ, a1, a3, a4⟩ := t9
        obtain ⟨K44, eK44⟩ : ∃ K : mm_T → Int64 → Int32 → Int32 → Prop, K = (fun μ a1 a3 a4 => K9 (μ, a1, a3, a4)) := ⟨_, rfl⟩
        have hK44 : ∀ (μ : mm_T) (a1 : Int64) (a3 : Int32) (a4 : Int32), K44 μ a1 a3 a4 → jJ p l e ({ frames := 6, cells := 0, slots := 0, locals := 163 }) s m args below meth c D cy z (MQ below (va_Qi Po (mm_Po D cy z) (mm_A z)) args s 0 0 (mm_A z)) 6 μ 44 [(0, .ref (z + mm_ad 0 0)), (1, .long a1), (3, .int a3), (4, .int a4)] [] := fun μ a1 a3 a4 h9 => hK (μ, a1, a3, a4) (by rw [eK44] at h9; exact h9)
        replace h : pX10_frame_l44 Po E44_114 K44 μ a1 a3 a4 := by rw [eK44]; exact h
        unfold pX10_frame_l44 at h
        refine jr_iload (q := 46) C 3 dX10_frame_44 rfl rfl ?_
        refine jr_bipush (q := 48) (v := (16 : Int32)) C dX10_frame_46 (by decide) rfl ?_
        refine jr_icmp_ge (q := 51) (tgt := 114) C dX10_frame_48 (by decide) rfl (fun c15 => ?_) (fun c15 => ?_)
        · replace h := h.1 c15
          refine jr_sub [0, 1, 2] rfl ?_
          exact hE44_114 _ _ _ h
        · replace h := h.2 c15
          refine jr_aload_n (q := 52) C 0 dX10_frame_51 rfl rfl rfl ?_
          refine jr_getR (q := 55) (ci := 10) (Cn := RX10) (T := TX10) (N := 7) (j := 2) C mf_0 rfl rfl (by decide) rfl 6 0 rfl rfl rfl nX10_frame_10 mX10_frame_1 dX10_frame_52 rfl rfl ?_
          refine jr_lload_n (q := 56) C 1 dX10_frame_55 rfl rfl rfl ?_
          refine jr_sipush (q := 59) (v := (3000 : Int32)) C dX10_frame_56 (by decide) rfl ?_
          refine jr_iload (q := 61) C 3 dX10_frame_59 rfl rfl ?_
          refine jr_imul (q := 62) C dX10_frame_61 rfl ?_
          refine jr_i2l (q := 63) C dX10_frame_62 rfl ?_
          refine jr_ladd (q := 64) C dX10_frame_63 rfl ?_
          refine jr_cvV (q := 67) (As := [.long (a1 + (((3000 : Int32) * a4).toInt64))]) (rest := []) C (f := 6) (i := 0) (ci := 0) mf_6 rfl rfl rfl (kX0_waitUntil l (a1 + (((3000 : Int32) * a4).toInt64))) rfl gX10_frame_X0_waitUntil rfl dsc_X0_waitUntil ⟨rfl, rfl⟩ ⟨by decide, by decide⟩ rfl rfl (Nat.le_of_ble_eq_true rfl) dX10_frame_64 rfl h (fun μ6 h => ?_)
          refine jr_aload_n (q := 68) C 0 dX10_frame_67 rfl rfl rfl ?_
          refine jr_getR (q := 71) (ci := 10) (Cn := RX10) (T := TX10) (N := 7) (j := 2) C mf_0 rfl rfl (by decide) rfl 6 0 rfl rfl rfl nX10_frame_10 mX10_frame_1 dX10_frame_68 rfl rfl ?_
          refine jr_getR (q := 74) (ci := 0) (Cn := RX0) (T := TX0) (N := 11) (j := 6) C mf_6 rfl rfl (by decide) rfl 17 0 rfl rfl rfl nX10_frame_0 mX10_frame_8 dX10_frame_71 rfl rfl ?_
          refine jr_getR (q := 77) (ci := 9) (Cn := RX9) (T := TX9) (N := 1) (j := 0) C mf_17 rfl rfl (by decide) rfl 18 0 rfl rfl rfl nX10_frame_9 mX10_frame_10 dX10_frame_74 rfl rfl ?_
          refine jr_iload (q := 79) C 3 dX10_frame_77 rfl rfl ?_
          obtain ⟨g7, h⟩ := h
          refine jr_iald (q := 80) C mf_18 rfl g7 dX10_frame_79 rfl ?_
          refine jn_int (fun x8 ex8 => ?_)
          replace h := h x8 ex8
          refine jr_istore (q := 82) (lv' := [(5, .int x8), (0, .ref (z + mm_ad 0 0)), (1, .long a1), (3, .int a3), (4, .int a4)]) C dX10_frame_80 (by decide) rfl rfl ?_
          refine jr_aload_n (q := 83) C 1 dX10_frame_82 rfl rfl rfl ?_
          refine jr_getR (q := 86) (ci := 10) (Cn := RX10) (T := TX10) (N := 7) (j := 2) C mf_0 rfl rfl (by decide) rfl 6 0 rfl rfl rfl nX10_frame_10 mX10_frame_1 dX10_frame_83 rfl rfl ?_
          refine jr_iload (q := 88) C 0 dX10_frame_86 rfl rfl ?_
          refine jr_cvI (q := 91) (As := [.int x8]) (rest := []) C (f := 6) (i := 0) (ci := 0) mf_6 rfl rfl rfl (kX0_isTag l x8) rfl gX10_frame_X0_isTag rfl dsc_X0_isTag ⟨rfl, rfl⟩ ⟨by decide, by decide⟩ rfl rfl (Nat.le_of_ble_eq_true rfl) dX10_frame_88 rfl h (fun r10 μ9 h => ?_)
          refine jr_if_eq (q := 94) (tgt := 108) C dX10_frame_91 (by decide) rfl (fun c14 => ?_) (fun c14 => ?_)
          · replace h := h.1 c14
            refine jr_iinc (q := 111) (lv' := [(4, .int (a4 + (1 : Int32))), (5, .int x8), (0, .ref (z + mm_ad 0 0)), (1, .long a1), (3, .int a3)]) C 4 dX10_frame_108 rfl (by rfl) (by decide) rfl rfl ?_
            refine jr_goto (tgt := 44) C dX10_frame_111 (by decide) ?_
            refine jr_sub [2, 3, 4, 0] rfl ?_
            exact hK44 _ _ _ _ h
          · replace h := h.2 c14
            refine jr_aload_n (q := 95) C 1 dX10_frame_94 rfl rfl rfl ?_
            refine jr_iload (q := 97) C 0 dX10_frame_95 rfl rfl ?_
            refine jr_cvI (q := 100) (As := [.int x8]) (rest := []) C (f := 0) (i := 0) (ci := 10) mf_0 rfl rfl rfl (kX10_pulsesWithNext l x8) rfl gX10_frame_X10_pulsesWithNext rfl dsc_X10_pulsesWithNext ⟨rfl, rfl⟩ ⟨by decide, by decide⟩ rfl rfl (Nat.le_of_ble_eq_true rfl) dX10_frame_97 rfl h (fun r12 μ11 h => ?_)
            refine jr_ldc (q := 102) (v := (-1000005 : Int32)) C dX10_frame_100 mX10_frame_11 rfl ?_
            refine jr_icmp_eq (q := 105) (tgt := 108) C dX10_frame_102 (by decide) rfl (fun c13 => ?_) (fun c13 => ?_)
            · replace h := h.1 c13
              refine jr_iinc (q := 111) (lv' := [(4, .int (a4 + (1 : Int32))), (5, .int x8), (0, .ref (z + mm_ad 0 0)), (1, .long a1), (3, .int a3)]) C 4 dX10_frame_108 rfl (by rfl) (by decide) rfl rfl ?_
              refine jr_goto (tgt := 44) C dX10_frame_111 (by decide) ?_
              refine jr_sub [2, 3, 4, 0] rfl ?_
              exact hK44 _ _ _ _ h
            · replace h := h.2 c13
              refine jr_iinc (q := 108) (lv' := [(3, .int (a3 + (1 : Int32))), (5, .int x8), (0, .ref (z + mm_ad 0 0)), (1, .long a1), (4, .int a4)]) C 3 dX10_frame_105 rfl (by rfl) (by decide) rfl rfl ?_
              refine jr_iinc (q := 111) (lv' := [(4, .int (a4 + (1 : Int32))), (3, .int (a3 + (1 : Int32))), (5, .int x8), (0, .ref (z + mm_ad 0 0)), (1, .long a1)]) C 4 dX10_frame_108 rfl (by rfl) (by decide) rfl rfl ?_
              refine jr_goto (tgt := 44) C dX10_frame_111 (by decide) ?_
              refine jr_sub [3, 4, 1, 0] rfl ?_
              exact hK44 _ _ _ _ h
      have x44_114 : ∀ (μ : mm_T) (c1 : Int64) (c3 : Int32), (pX0_waitUntil (fun μ4 => ∀ μ5 : mm_T, μ5 = mm_I μ4 0 0 6 ((μ4.1 0 0 6) + (1 : Int32)) → (Po c3 μ5)) μ (c1 + (48000 : Int64))) → jJ p l e ({ frames := 6, cells := 0, slots := 0, locals := 163 }) s m args below meth c D cy z (MQ below (va_Qi Po (mm_Po D cy z) (mm_A z)) args s 0 0 (mm_A z)) 6 μ 114 [(0, .ref (z + mm_ad 0 0)), (1, .long c1), (3, .int c3)] [] := by
        intro μ c1 c3 h
        refine jr_aload_n (q := 115) C 0 dX10_frame_114 rfl rfl rfl ?_
        refine jr_getR (q := 118) (ci := 10) (Cn := RX10) (T := TX10) (N := 7) (j := 2) C mf_0 rfl rfl (by decide) rfl 6 0 rfl rfl rfl nX10_frame_10 mX10_frame_1 dX10_frame_115 rfl rfl ?_
        refine jr_lload_n (q := 119) C 1 dX10_frame_118 rfl rfl rfl ?_
        refine jr_ldc2 (q := 122) (v := (48000 : Int64)) C dX10_frame_119 mX10_frame_5 rfl ?_
        refine jr_ladd (q := 123) C dX10_frame_122 rfl ?_
        refine jr_cvV (q := 126) (As := [.long (c1 + (48000 : Int64))]) (rest := []) C (f := 6) (i := 0) (ci := 0) mf_6 rfl rfl rfl (kX0_waitUntil l (c1 + (48000 : Int64))) rfl gX10_frame_X0_waitUntil rfl dsc_X0_waitUntil ⟨rfl, rfl⟩ ⟨by decide, by decide⟩ rfl rfl (Nat.le_of_ble_eq_true rfl) dX10_frame_123 rfl h (fun μ4 h => ?_)
        refine jr_aload_n (q := 127) C 0 dX10_frame_126 rfl rfl rfl ?_
        refine jr_dup (q := 128) C dX10_frame_127 rfl rfl ?_
        refine jr_getI (q := 131) (ci := 10) (Cn := RX10) (T := TX10) (N := 7) (j := 6) C mf_0 rfl rfl (by decide) rfl rfl nX10_frame_10 mX10_frame_7 dX10_frame_128 rfl rfl ?_
        refine jr_iconst (q := 132) (v := (1 : Int32)) C dX10_frame_131 (by decide) rfl ?_
        refine jr_iadd (q := 133) C dX10_frame_132 rfl ?_
        refine jr_putI (q := 136) (ci := 10) (Cn := RX10) (T := TX10) (N := 7) (j := 6) C mf_0 rfl rfl (by decide) rfl rfl tyX10 tyX10_ok nmX10 rfl (by decide +kernel) nX10_frame_10 mX10_frame_7 dX10_frame_133 rfl rfl ?_
        refine jn_mem (fun μ5 eμ5 => ?_)
        replace h := h μ5 eμ5
        refine jr_iload_n (q := 137) C 2 dX10_frame_136 rfl rfl rfl ?_
        exact jr_iret C hr hk dX10_frame_137 h
      refine jr_sub [3, 2, 1, 0] rfl ?_
      exact l44 _ x44_114 _ h
    · replace h := h.2 c16
      refine jr_ldc (q := 30) (v := (-1000003 : Int32)) C dX10_frame_28 mX10_frame_2 rfl ?_
      exact jr_iret C hr hk dX10_frame_30 h
theorem nX10_about_10 : ∀ w ∈ wsX100, w ∈ wsX10_about := fun _ h => List.mem_cons_of_mem _ (List.mem_append_left _ (List.mem_append_left _ (List.mem_append_left _ (List.mem_append_left _ (List.mem_append_right _ h)))))
theorem mX10_about_1 : Cond.fieldLink RX10 26 RX10 (TX10 2).2.1 (TX10 2).2.2.1 ∈ wsX10_about := List.mem_of_getElem? (i := 1) (by decide +kernel)
theorem nX10_about_0 : ∀ w ∈ wsX00, w ∈ wsX10_about := fun _ h => List.mem_cons_of_mem _ (List.mem_append_left _ (List.mem_append_left _ (List.mem_append_left _ (List.mem_append_right _ h))))
theorem mX10_about_3 : Cond.fieldLink RX10 59 RX0 (TX0 1).2.1 (TX0 1).2.2.1 ∈ wsX10_about := List.mem_of_getElem? (i := 3) (by decide +kernel)
theorem mX10_about_4 : Cond.fieldLink RX10 69 RX0 (TX0 2).2.1 (TX0 2).2.2.1 ∈ wsX10_about := List.mem_of_getElem? (i := 4) (by decide +kernel)
theorem mX10_about_5 : Cond.fieldLink RX10 107 RX0 (TX0 3).2.1 (TX0 3).2.2.1 ∈ wsX10_about := List.mem_of_getElem? (i := 5) (by decide +kernel)
theorem mX10_about_6 : Cond.fieldLink RX10 166 RX0 (TX0 4).2.1 (TX0 4).2.2.1 ∈ wsX10_about := List.mem_of_getElem? (i := 6) (by decide +kernel)
theorem mX10_about_7 : Cond.fieldLink RX10 184 RX0 (TX0 6).2.1 (TX0 6).2.2.1 ∈ wsX10_about := List.mem_of_getElem? (i := 7) (by decide +kernel)
theorem mX10_about_8 : Cond.constant RX10 30 (-1000002) ∈ wsX10_about := List.mem_of_getElem? (i := 8) (by decide +kernel)
theorem mX10_about_9 : Cond.constant RX10 51 (-1000003) ∈ wsX10_about := List.mem_of_getElem? (i := 2) (by decide +kernel)
theorem dsc_X10_about : yX10_about.cls ≠ "java/lang/invoke/MethodHandle" ∧ yX10_about.cls ≠ "java/lang/invoke/VarHandle" ∧ (parseMethodDescriptor yX10_about.desc).map (fun d => d.parameters.length) = some 1 := by decide +kernel
def pX10_about (Po : Int32 → mm_T → Prop) (μ : mm_T) (p1 : Int32) : Prop := pX0_isRead (fun r2 μ1 => (¬ r2 = 0 → (p1 = (0 : Int32) → Po (μ1.1 6 0 1) μ1) ∧ (p1 = (1 : Int32) → pX0_tagCount (fun r4 μ3 => Po r4 μ3) μ1 ) ∧ (p1 = (2 : Int32) → pX0_tagCount (fun r6 μ5 => Po ((μ1.1 6 0 1) - r6) μ5) μ1 ) ∧ (p1 = (3 : Int32) → Po ((μ1.2 6 0 2).toInt32) μ1) ∧ (p1 = (4 : Int32) → Po (μ1.1 6 0 3) μ1) ∧ (p1 = (5 : Int32) → Po (μ1.1 6 0 4) μ1) ∧ (p1 = (6 : Int32) → pX9_takenCount (fun r8 μ7 => Po r8 μ7) μ1 ) ∧ (p1 = (7 : Int32) → pX0_placedCount (fun r10 μ9 => Po r10 μ9) μ1 ) ∧ (¬ p1 = (0 : Int32) → ¬ p1 = (1 : Int32) → ¬ p1 = (2 : Int32) → ¬ p1 = (3 : Int32) → ¬ p1 = (4 : Int32) → ¬ p1 = (5 : Int32) → ¬ p1 = (6 : Int32) → ¬ p1 = (7 : Int32) → Po (-1000002 : Int32) μ1)) ∧ (r2 = 0 → Po (-1000003 : Int32) μ1)) μ 
set_option maxHeartbeats 4000000 in
set_option maxRecDepth 100000 in
theorem kX10_about (l : Launch) (p1 : Int32) : mm_CI l yX10_about wsX10_about ({ frames := 3, cells := 0, slots := 0, locals := 67 }) (fun z => [.ref (z + mm_ad 0 0), .int p1]) (fun μ Po => pX10_about Po μ p1) := by
  refine je_I (cc := cX10_about) (nL := 2) (own := RX10) (plainFor_of_name (by decide)) rfl rfl (fun _ => Nat.le_of_ble_eq_true rfl) ?_
  intro p e s m args below meth c D cy z μ Po C hr hk h
  change jJ p l e ({ frames := 3, cells := 0, slots := 0, locals := 67 }) s m args below meth c D cy z (MQ below (va_Qi Po (mm_Po D cy z) (mm_A z)) args s 0 0 (mm_A z)) 2 μ 0 [(0, .ref (z + mm_ad 0 0)), (1, .int p1)] []
  replace h : pX10_about Po μ p1 := h
  unfold pX10_about at h
  refine jr_aload_n (q := 1) C 0 dX10_about_0 rfl rfl rfl ?_
  refine jr_getR (q := 4) (ci := 10) (Cn := RX10) (T := TX10) (N := 7) (j := 2) C mf_0 rfl rfl (by decide) rfl 6 0 rfl rfl rfl nX10_about_10 mX10_about_1 dX10_about_1 rfl rfl ?_
  refine jr_cvI (q := 7) (As := []) (rest := []) C (f := 6) (i := 0) (ci := 0) mf_6 rfl rfl rfl (kX0_isRead l) rfl gX10_about_X0_isRead rfl dsc_X0_isRead ⟨rfl, rfl⟩ ⟨by decide, by decide⟩ rfl rfl (Nat.le_of_ble_eq_true rfl) dX10_about_4 rfl h (fun r2 μ1 h => ?_)
  refine jr_if_ne (q := 10) (tgt := 13) C dX10_about_7 (by decide) rfl (fun c11 => ?_) (fun c11 => ?_)
  · replace h := h.1 c11
    refine jr_iload_n (q := 14) C 1 dX10_about_13 rfl rfl rfl ?_
    by_cases w0 : p1 = (0 : Int32)
    · replace h := h.1 w0
      refine jr_tabI (tgt := 60) C (0 : Int32) w0 dX10_about_14 (by decide) (by decide) rfl (by decide) ?_
      refine jr_aload_n (q := 61) C 0 dX10_about_60 rfl rfl rfl ?_
      refine jr_getR (q := 64) (ci := 10) (Cn := RX10) (T := TX10) (N := 7) (j := 2) C mf_0 rfl rfl (by decide) rfl 6 0 rfl rfl rfl nX10_about_10 mX10_about_1 dX10_about_61 rfl rfl ?_
      refine jr_getI (q := 67) (ci := 0) (Cn := RX0) (T := TX0) (N := 11) (j := 1) C mf_6 rfl rfl (by decide) rfl rfl nX10_about_0 mX10_about_3 dX10_about_64 rfl rfl ?_
      exact jr_iret C hr hk dX10_about_67 h
    by_cases w1 : p1 = (1 : Int32)
    · replace h := h.2.1 w1
      refine jr_tabI (tgt := 68) C (1 : Int32) w1 dX10_about_14 (by decide) (by decide) rfl (by decide) ?_
      refine jr_aload_n (q := 69) C 0 dX10_about_68 rfl rfl rfl ?_
      refine jr_getR (q := 72) (ci := 10) (Cn := RX10) (T := TX10) (N := 7) (j := 2) C mf_0 rfl rfl (by decide) rfl 6 0 rfl rfl rfl nX10_about_10 mX10_about_1 dX10_about_69 rfl rfl ?_
      refine jr_cvI (q := 75) (As := []) (rest := []) C (f := 6) (i := 0) (ci := 0) mf_6 rfl rfl rfl (kX0_tagCount l) rfl gX10_about_X0_tagCount rfl dsc_X0_tagCount ⟨rfl, rfl⟩ ⟨by decide, by decide⟩ rfl rfl (Nat.le_of_ble_eq_true rfl) dX10_about_72 rfl h (fun r4 μ3 h => ?_)
      exact jr_iret C hr hk dX10_about_75 h
    by_cases w2 : p1 = (2 : Int32)
    · replace h := h.2.2.1 w2
      refine jr_tabI (tgt := 76) C (2 : Int32) w2 dX10_about_14 (by decide) (by decide) rfl (by decide) ?_
      refine jr_aload_n (q := 77) C 0 dX10_about_76 rfl rfl rfl ?_
      refine jr_getR (q := 80) (ci := 10) (Cn := RX10) (T := TX10) (N := 7) (j := 2) C mf_0 rfl rfl (by decide) rfl 6 0 rfl rfl rfl nX10_about_10 mX10_about_1 dX10_about_77 rfl rfl ?_
      refine jr_getI (q := 83) (ci := 0) (Cn := RX0) (T := TX0) (N := 11) (j := 1) C mf_6 rfl rfl (by decide) rfl rfl nX10_about_0 mX10_about_3 dX10_about_80 rfl rfl ?_
      refine jr_aload_n (q := 84) C 0 dX10_about_83 rfl rfl rfl ?_
      refine jr_getR (q := 87) (ci := 10) (Cn := RX10) (T := TX10) (N := 7) (j := 2) C mf_0 rfl rfl (by decide) rfl 6 0 rfl rfl rfl nX10_about_10 mX10_about_1 dX10_about_84 rfl rfl ?_
      refine jr_cvI (q := 90) (As := []) (rest := [.int (μ1.1 6 0 1)]) C (f := 6) (i := 0) (ci := 0) mf_6 rfl rfl rfl (kX0_tagCount l) rfl gX10_about_X0_tagCount rfl dsc_X0_tagCount ⟨rfl, rfl⟩ ⟨by decide, by decide⟩ rfl rfl (Nat.le_of_ble_eq_true rfl) dX10_about_87 rfl h (fun r6 μ5 h => ?_)
      refine jr_isub (q := 91) C dX10_about_90 rfl ?_
      exact jr_iret C hr hk dX10_about_91 h
    by_cases w3 : p1 = (3 : Int32)
    · replace h := h.2.2.2.1 w3
      refine jr_tabI (tgt := 92) C (3 : Int32) w3 dX10_about_14 (by decide) (by decide) rfl (by decide) ?_
      refine jr_aload_n (q := 93) C 0 dX10_about_92 rfl rfl rfl ?_
      refine jr_getR (q := 96) (ci := 10) (Cn := RX10) (T := TX10) (N := 7) (j := 2) C mf_0 rfl rfl (by decide) rfl 6 0 rfl rfl rfl nX10_about_10 mX10_about_1 dX10_about_93 rfl rfl ?_
      refine jr_getL (q := 99) (ci := 0) (Cn := RX0) (T := TX0) (N := 11) (j := 2) C mf_6 rfl rfl (by decide) rfl rfl nX10_about_0 mX10_about_4 dX10_about_96 rfl rfl ?_
      refine jr_l2i (q := 100) C dX10_about_99 rfl ?_
      exact jr_iret C hr hk dX10_about_100 h
    by_cases w4 : p1 = (4 : Int32)
    · replace h := h.2.2.2.2.1 w4
      refine jr_tabI (tgt := 101) C (4 : Int32) w4 dX10_about_14 (by decide) (by decide) rfl (by decide) ?_
      refine jr_aload_n (q := 102) C 0 dX10_about_101 rfl rfl rfl ?_
      refine jr_getR (q := 105) (ci := 10) (Cn := RX10) (T := TX10) (N := 7) (j := 2) C mf_0 rfl rfl (by decide) rfl 6 0 rfl rfl rfl nX10_about_10 mX10_about_1 dX10_about_102 rfl rfl ?_
      refine jr_getI (q := 108) (ci := 0) (Cn := RX0) (T := TX0) (N := 11) (j := 3) C mf_6 rfl rfl (by decide) rfl rfl nX10_about_0 mX10_about_5 dX10_about_105 rfl rfl ?_
      exact jr_iret C hr hk dX10_about_108 h
    by_cases w5 : p1 = (5 : Int32)
    · replace h := h.2.2.2.2.2.1 w5
      refine jr_tabI (tgt := 109) C (5 : Int32) w5 dX10_about_14 (by decide) (by decide) rfl (by decide) ?_
      refine jr_aload_n (q := 110) C 0 dX10_about_109 rfl rfl rfl ?_
      refine jr_getR (q := 113) (ci := 10) (Cn := RX10) (T := TX10) (N := 7) (j := 2) C mf_0 rfl rfl (by decide) rfl 6 0 rfl rfl rfl nX10_about_10 mX10_about_1 dX10_about_110 rfl rfl ?_
      refine jr_getI (q := 116) (ci := 0) (Cn := RX0) (T := TX0) (N := 11) (j := 4) C mf_6 rfl rfl (by decide) rfl rfl nX10_about_0 mX10_about_6 dX10_about_113 rfl rfl ?_
      exact jr_iret C hr hk dX10_about_116 h
    by_cases w6 : p1 = (6 : Int32)
    · replace h := h.2.2.2.2.2.2.1 w6
      refine jr_tabI (tgt := 117) C (6 : Int32) w6 dX10_about_14 (by decide) (by decide) rfl (by decide) ?_
      refine jr_aload_n (q := 118) C 0 dX10_about_117 rfl rfl rfl ?_
      refine jr_getR (q := 121) (ci := 10) (Cn := RX10) (T := TX10) (N := 7) (j := 2) C mf_0 rfl rfl (by decide) rfl 6 0 rfl rfl rfl nX10_about_10 mX10_about_1 dX10_about_118 rfl rfl ?_
      refine jr_getR (q := 124) (ci := 0) (Cn := RX0) (T := TX0) (N := 11) (j := 6) C mf_6 rfl rfl (by decide) rfl 17 0 rfl rfl rfl nX10_about_0 mX10_about_7 dX10_about_121 rfl rfl ?_
      refine jr_cvI (q := 127) (As := []) (rest := []) C (f := 17) (i := 0) (ci := 9) mf_17 rfl rfl rfl (kX9_takenCount l) rfl gX10_about_X9_takenCount rfl dsc_X9_takenCount ⟨rfl, rfl⟩ ⟨by decide, by decide⟩ rfl rfl (Nat.le_of_ble_eq_true rfl) dX10_about_124 rfl h (fun r8 μ7 h => ?_)
      exact jr_iret C hr hk dX10_about_127 h
    by_cases w7 : p1 = (7 : Int32)
    · replace h := h.2.2.2.2.2.2.2.1 w7
      refine jr_tabI (tgt := 128) C (7 : Int32) w7 dX10_about_14 (by decide) (by decide) rfl (by decide) ?_
      refine jr_aload_n (q := 129) C 0 dX10_about_128 rfl rfl rfl ?_
      refine jr_getR (q := 132) (ci := 10) (Cn := RX10) (T := TX10) (N := 7) (j := 2) C mf_0 rfl rfl (by decide) rfl 6 0 rfl rfl rfl nX10_about_10 mX10_about_1 dX10_about_129 rfl rfl ?_
      refine jr_cvI (q := 135) (As := []) (rest := []) C (f := 6) (i := 0) (ci := 0) mf_6 rfl rfl rfl (kX0_placedCount l) rfl gX10_about_X0_placedCount rfl dsc_X0_placedCount ⟨rfl, rfl⟩ ⟨by decide, by decide⟩ rfl rfl (Nat.le_of_ble_eq_true rfl) dX10_about_132 rfl h (fun r10 μ9 h => ?_)
      exact jr_iret C hr hk dX10_about_135 h
    replace h := h.2.2.2.2.2.2.2.2 w0 w1 w2 w3 w4 w5 w6 w7
    have vw0 := lv_neT (a := 0) w0 (by decide)
    have vw1 := lv_neT (a := 1) w1 (by decide)
    have vw2 := lv_neT (a := 2) w2 (by decide)
    have vw3 := lv_neT (a := 3) w3 (by decide)
    have vw4 := lv_neT (a := 4) w4 (by decide)
    have vw5 := lv_neT (a := 5) w5 (by decide)
    have vw6 := lv_neT (a := 6) w6 (by decide)
    have vw7 := lv_neT (a := 7) w7 (by decide)
    refine jr_tabO (tgt := 136) C dX10_about_14 (by omega) (by decide) ?_
    refine jr_ldc (q := 138) (v := (-1000002 : Int32)) C dX10_about_136 mX10_about_8 rfl ?_
    exact jr_iret C hr hk dX10_about_138 h
  · replace h := h.2 c11
    refine jr_ldc (q := 12) (v := (-1000003 : Int32)) C dX10_about_10 mX10_about_9 rfl ?_
    exact jr_iret C hr hk dX10_about_12 h
theorem nX10_count_10 : ∀ w ∈ wsX100, w ∈ wsX10_count := fun _ h => List.mem_cons_of_mem _ (List.mem_append_left _ (List.mem_append_right _ h))
theorem mX10_count_1 : Cond.fieldLink RX10 12 RX10 (TX10 0).2.1 (TX10 0).2.2.1 ∈ wsX10_count := List.mem_of_getElem? (i := 1) (by decide +kernel)
theorem nX10_count_6 : ∀ w ∈ wsX60, w ∈ wsX10_count := fun _ h => List.mem_cons_of_mem _ (List.mem_append_right _ h)
theorem mX10_count_3 : Cond.fieldLink RX10 31 RX6 (TX6 1).2.1 (TX6 1).2.2.1 ∈ wsX10_count := List.mem_of_getElem? (i := 2) (by decide +kernel)
theorem mX10_count_4 : Cond.fieldLink RX10 216 RX10 (TX10 3).2.1 (TX10 3).2.2.1 ∈ wsX10_count := List.mem_of_getElem? (i := 3) (by decide +kernel)
theorem mX10_count_5 : Cond.fieldLink RX10 219 RX10 (TX10 4).2.1 (TX10 4).2.2.1 ∈ wsX10_count := List.mem_of_getElem? (i := 4) (by decide +kernel)
theorem mX10_count_6 : Cond.fieldLink RX10 56 RX10 (TX10 5).2.1 (TX10 5).2.2.1 ∈ wsX10_count := List.mem_of_getElem? (i := 5) (by decide +kernel)
theorem mX10_count_7 : Cond.fieldLink RX10 204 RX10 (TX10 6).2.1 (TX10 6).2.2.1 ∈ wsX10_count := List.mem_of_getElem? (i := 6) (by decide +kernel)
theorem mX10_count_8 : Cond.constant RX10 30 (-1000002) ∈ wsX10_count := List.mem_of_getElem? (i := 7) (by decide +kernel)
theorem dsc_X10_count : yX10_count.cls ≠ "java/lang/invoke/MethodHandle" ∧ yX10_count.cls ≠ "java/lang/invoke/VarHandle" ∧ (parseMethodDescriptor yX10_count.desc).map (fun d => d.parameters.length) = some 1 := by decide +kernel
def pX10_count (Po : Int32 → mm_T → Prop) (μ : mm_T) (p1 : Int32) : Prop := (p1 = (0 : Int32) → Po (μ.1 1 0 1) μ) ∧ (p1 = (1 : Int32) → Po (μ.1 0 0 3) μ) ∧ (p1 = (2 : Int32) → Po (μ.1 0 0 4) μ) ∧ (p1 = (3 : Int32) → Po (μ.1 0 0 5) μ) ∧ (p1 = (4 : Int32) → Po (μ.1 0 0 6) μ) ∧ (¬ p1 = (0 : Int32) → ¬ p1 = (1 : Int32) → ¬ p1 = (2 : Int32) → ¬ p1 = (3 : Int32) → ¬ p1 = (4 : Int32) → Po (-1000002 : Int32) μ)
set_option maxHeartbeats 4000000 in
set_option maxRecDepth 100000 in
theorem kX10_count (l : Launch) (p1 : Int32) : mm_CI l yX10_count wsX10_count ({ frames := 0, cells := 0, slots := 0, locals := 0 }) (fun z => [.ref (z + mm_ad 0 0), .int p1]) (fun μ Po => pX10_count Po μ p1) := by
  refine je_I (cc := cX10_count) (nL := 2) (own := RX10) (plainFor_of_name (by decide)) rfl rfl (fun _ => Nat.le_of_ble_eq_true rfl) ?_
  intro p e s m args below meth c D cy z μ Po C hr hk h
  change jJ p l e ({ frames := 0, cells := 0, slots := 0, locals := 0 }) s m args below meth c D cy z (MQ below (va_Qi Po (mm_Po D cy z) (mm_A z)) args s 0 0 (mm_A z)) 2 μ 0 [(0, .ref (z + mm_ad 0 0)), (1, .int p1)] []
  replace h : pX10_count Po μ p1 := h
  unfold pX10_count at h
  refine jr_iload_n (q := 1) C 1 dX10_count_0 rfl rfl rfl ?_
  by_cases w0 : p1 = (0 : Int32)
  · replace h := h.1 w0
    refine jr_tabI (tgt := 36) C (0 : Int32) w0 dX10_count_1 (by decide) (by decide) rfl (by decide) ?_
    refine jr_aload_n (q := 37) C 0 dX10_count_36 rfl rfl rfl ?_
    refine jr_getR (q := 40) (ci := 10) (Cn := RX10) (T := TX10) (N := 7) (j := 0) C mf_0 rfl rfl (by decide) rfl 1 0 rfl rfl rfl nX10_count_10 mX10_count_1 dX10_count_37 rfl rfl ?_
    refine jr_getI (q := 43) (ci := 6) (Cn := RX6) (T := TX6) (N := 2) (j := 1) C mf_1 rfl rfl (by decide) rfl rfl nX10_count_6 mX10_count_3 dX10_count_40 rfl rfl ?_
    exact jr_iret C hr hk dX10_count_43 h
  by_cases w1 : p1 = (1 : Int32)
  · replace h := h.2.1 w1
    refine jr_tabI (tgt := 44) C (1 : Int32) w1 dX10_count_1 (by decide) (by decide) rfl (by decide) ?_
    refine jr_aload_n (q := 45) C 0 dX10_count_44 rfl rfl rfl ?_
    refine jr_getI (q := 48) (ci := 10) (Cn := RX10) (T := TX10) (N := 7) (j := 3) C mf_0 rfl rfl (by decide) rfl rfl nX10_count_10 mX10_count_4 dX10_count_45 rfl rfl ?_
    exact jr_iret C hr hk dX10_count_48 h
  by_cases w2 : p1 = (2 : Int32)
  · replace h := h.2.2.1 w2
    refine jr_tabI (tgt := 49) C (2 : Int32) w2 dX10_count_1 (by decide) (by decide) rfl (by decide) ?_
    refine jr_aload_n (q := 50) C 0 dX10_count_49 rfl rfl rfl ?_
    refine jr_getI (q := 53) (ci := 10) (Cn := RX10) (T := TX10) (N := 7) (j := 4) C mf_0 rfl rfl (by decide) rfl rfl nX10_count_10 mX10_count_5 dX10_count_50 rfl rfl ?_
    exact jr_iret C hr hk dX10_count_53 h
  by_cases w3 : p1 = (3 : Int32)
  · replace h := h.2.2.2.1 w3
    refine jr_tabI (tgt := 54) C (3 : Int32) w3 dX10_count_1 (by decide) (by decide) rfl (by decide) ?_
    refine jr_aload_n (q := 55) C 0 dX10_count_54 rfl rfl rfl ?_
    refine jr_getI (q := 58) (ci := 10) (Cn := RX10) (T := TX10) (N := 7) (j := 5) C mf_0 rfl rfl (by decide) rfl rfl nX10_count_10 mX10_count_6 dX10_count_55 rfl rfl ?_
    exact jr_iret C hr hk dX10_count_58 h
  by_cases w4 : p1 = (4 : Int32)
  · replace h := h.2.2.2.2.1 w4
    refine jr_tabI (tgt := 59) C (4 : Int32) w4 dX10_count_1 (by decide) (by decide) rfl (by decide) ?_
    refine jr_aload_n (q := 60) C 0 dX10_count_59 rfl rfl rfl ?_
    refine jr_getI (q := 63) (ci := 10) (Cn := RX10) (T := TX10) (N := 7) (j := 6) C mf_0 rfl rfl (by decide) rfl rfl nX10_count_10 mX10_count_7 dX10_count_60 rfl rfl ?_
    exact jr_iret C hr hk dX10_count_63 h
  replace h := h.2.2.2.2.2 w0 w1 w2 w3 w4
  have vw0 := lv_neT (a := 0) w0 (by decide)
  have vw1 := lv_neT (a := 1) w1 (by decide)
  have vw2 := lv_neT (a := 2) w2 (by decide)
  have vw3 := lv_neT (a := 3) w3 (by decide)
  have vw4 := lv_neT (a := 4) w4 (by decide)
  refine jr_tabO (tgt := 64) C dX10_count_1 (by omega) (by decide) ?_
  refine jr_ldc (q := 66) (v := (-1000002 : Int32)) C dX10_count_64 mX10_count_8 rfl ?_
  exact jr_iret C hr hk dX10_count_66 h
theorem mX10_with_0 : Cond.constantLong RX10 249 (31) ∈ wsX10_with := List.mem_of_getElem? (i := 1) (by decide +kernel)
theorem dsc_X10_with : yX10_with.cls ≠ "java/lang/invoke/MethodHandle" ∧ yX10_with.cls ≠ "java/lang/invoke/VarHandle" ∧ (parseMethodDescriptor yX10_with.desc).map (fun d => d.parameters.length) = some 2 := by decide +kernel
def pX10_with (Po : Int64 → mm_T → Prop) (μ : mm_T) (p1 : Int64) (p2 : Int32) : Prop := Po (((31 : Int64) * p1) + p2.toInt64) μ
set_option maxHeartbeats 4000000 in
set_option maxRecDepth 100000 in
theorem kX10_with (l : Launch) (p1 : Int64) (p2 : Int32) : mm_CL l yX10_with wsX10_with ({ frames := 0, cells := 0, slots := 0, locals := 0 }) (fun z => [.long p1, .int p2]) (fun μ Po => pX10_with Po μ p1 p2) := by
  refine je_L (cc := cX10_with) (nL := 3) (own := RX10) (plainFor_of_name (by decide)) rfl rfl (fun _ => Nat.le_of_ble_eq_true rfl) ?_
  intro p e s m args below meth c D cy z μ Po C hr hk h
  change jJ p l e ({ frames := 0, cells := 0, slots := 0, locals := 0 }) s m args below meth c D cy z (MQ below (va_Ql Po (mm_Po D cy z) (mm_A z)) args s 0 0 (mm_A z)) 3 μ 0 [(0, .long p1), (2, .int p2)] []
  replace h : pX10_with Po μ p1 p2 := h
  unfold pX10_with at h
  refine jr_ldc2 (q := 3) (v := (31 : Int64)) C dX10_with_0 mX10_with_0 rfl ?_
  refine jr_lload_n (q := 4) C 0 dX10_with_3 rfl rfl rfl ?_
  refine jr_lmul (q := 5) C dX10_with_4 rfl ?_
  refine jr_iload_n (q := 6) C 1 dX10_with_5 rfl rfl rfl ?_
  refine jr_i2l (q := 7) C dX10_with_6 rfl ?_
  refine jr_ladd (q := 8) C dX10_with_7 rfl ?_
  exact jr_lret C hr hk dX10_with_8 h
theorem nX10_withNodes_10 : ∀ w ∈ wsX100, w ∈ wsX10_withNodes := fun _ h => List.mem_cons_of_mem _ (List.mem_append_left _ (List.mem_append_left _ (List.mem_append_left _ (List.mem_append_left _ (List.mem_append_right _ h)))))
theorem mX10_withNodes_1 : Cond.fieldLink RX10 26 RX10 (TX10 2).2.1 (TX10 2).2.2.1 ∈ wsX10_withNodes := List.mem_of_getElem? (i := 1) (by decide +kernel)
theorem nX10_withNodes_0 : ∀ w ∈ wsX00, w ∈ wsX10_withNodes := fun _ h => List.mem_cons_of_mem _ (List.mem_append_left _ (List.mem_append_left _ (List.mem_append_left _ (List.mem_append_right _ h))))
theorem mX10_withNodes_3 : Cond.fieldLink RX10 59 RX0 (TX0 1).2.1 (TX0 1).2.2.1 ∈ wsX10_withNodes := List.mem_of_getElem? (i := 2) (by decide +kernel)
theorem dsc_X10_withNodes : yX10_withNodes.cls ≠ "java/lang/invoke/MethodHandle" ∧ yX10_withNodes.cls ≠ "java/lang/invoke/VarHandle" ∧ (parseMethodDescriptor yX10_withNodes.desc).map (fun d => d.parameters.length) = some 1 := by decide +kernel
def pX10_withNodes_l40 (Po : Int64 → mm_T → Prop) (E40_65 : mm_T → Int64 → Int32 → Prop) (K40 : mm_T → Int64 → Int32 → Int32 → Prop) (μ : mm_T) (a1 : Int64) (a3 : Int32) (a4 : Int32) : Prop := ((8 : Int32) < a4 → E40_65 μ a1 a3) ∧ (¬ ((8 : Int32) < a4) → pX10_node (fun r2 μ1 => pX10_with (fun r4 μ3 => K40 μ3 r4 a3 (a4 + (1 : Int32))) μ1 a1 r2) μ a3 a4)
def pX10_withNodes_l26 (Po : Int64 → mm_T → Prop) (E26_71 : mm_T → Int64 → Prop) (K26 : mm_T → Int64 → Int32 → Prop) (μ : mm_T) (a1 : Int64) (a3 : Int32) : Prop := ((μ.1 6 0 1) ≤ a3 → E26_71 μ a1) ∧ (¬ ((μ.1 6 0 1) ≤ a3) → lp_ (fun (K9 : mm_T × Int64 × Int32 × Int32 → Prop) (t9 : mm_T × Int64 × Int32 × Int32) => pX10_withNodes_l40 Po (fun μ c1 c3 => K26 μ c1 (c3 + (1 : Int32))) (fun μ a1 a3 a4 => K9 (μ, a1, a3, a4)) t9.1 t9.2.1 t9.2.2.1 t9.2.2.2) (μ, a1, a3, (0 : Int32)))
def pX10_withNodes_l2 (Po : Int64 → mm_T → Prop) (E2_24 : mm_T → Int64 → Prop) (K2 : mm_T → Int64 → Int32 → Prop) (μ : mm_T) (a1 : Int64) (a3 : Int32) : Prop := ((7 : Int32) < a3 → E2_24 μ a1) ∧ (¬ ((7 : Int32) < a3) → pX10_about (fun r8 μ7 => pX10_with (fun r10 μ9 => K2 μ9 r10 (a3 + (1 : Int32))) μ7 a1 r8) μ a3)
def pX10_withNodes (Po : Int64 → mm_T → Prop) (μ : mm_T) (p1 : Int64) : Prop := lp_ (fun (K9 : mm_T × Int64 × Int32 → Prop) (t9 : mm_T × Int64 × Int32) => pX10_withNodes_l2 Po (fun μ c1 => lp_ (fun (K9 : mm_T × Int64 × Int32 → Prop) (t9 : mm_T × Int64 × Int32) => pX10_withNodes_l26 Po (fun μ c1 => Po c1 μ) (fun μ a1 a3 => K9 (μ, a1, a3)) t9.1 t9.2.1 t9.2.2) (μ, c1, (0 : Int32))) (fun μ a1 a3 => K9 (μ, a1, a3)) t9.1 t9.2.1 t9.2.2) (μ, p1, (0 : Int32))
set_option maxHeartbeats 4000000 in
set_option maxRecDepth 100000 in
theorem kX10_withNodes (l : Launch) (p1 : Int64) : mm_CL l yX10_withNodes wsX10_withNodes ({ frames := 4, cells := 0, slots := 0, locals := 92 }) (fun z => [.ref (z + mm_ad 0 0), .long p1]) (fun μ Po => pX10_withNodes Po μ p1) := by
  refine je_L (cc := cX10_withNodes) (nL := 5) (own := RX10) (plainFor_of_name (by decide)) rfl rfl (fun _ => Nat.le_of_ble_eq_true rfl) ?_
  intro p e s m args below meth c D cy z μ Po C hr hk h
  change jJ p l e ({ frames := 4, cells := 0, slots := 0, locals := 92 }) s m args below meth c D cy z (MQ below (va_Ql Po (mm_Po D cy z) (mm_A z)) args s 0 0 (mm_A z)) 5 μ 0 [(0, .ref (z + mm_ad 0 0)), (1, .long p1)] []
  replace h : pX10_withNodes Po μ p1 := h
  unfold pX10_withNodes at h
  refine jr_iconst (q := 1) (v := (0 : Int32)) C dX10_withNodes_0 (by decide) rfl ?_
  refine jr_istore_n (q := 2) (lv' := [(3, .int (0 : Int32)), (0, .ref (z + mm_ad 0 0)), (1, .long p1)]) C dX10_withNodes_1 rfl (by decide) rfl rfl ?_
  have l2 : ∀ (E2_24 : mm_T → Int64 → Prop) (hE2_24 : ∀ (μ : mm_T) (c1 : Int64), E2_24 μ c1 → jJ p l e ({ frames := 4, cells := 0, slots := 0, locals := 92 }) s m args below meth c D cy z (MQ below (va_Ql Po (mm_Po D cy z) (mm_A z)) args s 0 0 (mm_A z)) 5 μ 24 [(0, .ref (z + mm_ad 0 0)), (1, .long c1)] []), ∀ t9 : mm_T × Int64 × Int32, lp_ (fun (K9 : mm_T × Int64 × Int32 → Prop) (t9 : mm_T × Int64 × Int32) => pX10_withNodes_l2 Po E2_24 (fun μ a1 a3 => K9 (μ, a1, a3)) t9.1 t9.2.1 t9.2.2) t9 → jJ p l e ({ frames := 4, cells := 0, slots := 0, locals := 92 }) s m args below meth c D cy z (MQ below (va_Ql Po (mm_Po D cy z) (mm_A z)) args s 0 0 (mm_A z)) 5 t9.1 2 [(0, .ref (z + mm_ad 0 0)), (1, .long t9.2.1), (3, .int t9.2.2)] [] := by
    intro E2_24 hE2_24 t9 h
    refine lp_go (P := fun t9 : mm_T × Int64 × Int32 => jJ p l e ({ frames := 4, cells := 0, slots := 0, locals := 92 }) s m args below meth c D cy z (MQ below (va_Ql Po (mm_Po D cy z) (mm_A z)) args s 0 0 (mm_A z)) 5 t9.1 2 [(0, .ref (z + mm_ad 0 0)), (1, .long t9.2.1), (3, .int t9.2.2)] []) (fun K9 t9 hK h => ?_) t9 h
    obtain ⟨μ, a1, a3⟩ := t9
    obtain ⟨K2, eK2⟩ : ∃ K : mm_T → Int64 → Int32 → Prop, K = (fun μ a1 a3 => K9 (μ, a1, a3)) := ⟨_, rfl⟩
    have hK2 : ∀ (μ : mm_T) (a1 : Int64) (a3 : Int32), K2 μ a1 a3 → jJ p l e ({ frames := 4, cells := 0, slots := 0, locals := 92 }) s m args below meth c D cy z (MQ below (va_Ql Po (mm_Po D cy z) (mm_A z)) args s 0 0 (mm_A z)) 5 μ 2 [(0, .ref (z + mm_ad 0 0)), (1, .long a1), (3, .int a3)] [] := fun μ a1 a3 h9 => hK (μ, a1, a3) (by rw [eK2] at h9; exact h9)
    replace h : pX10_withNodes_l2 Po E2_24 K2 μ a1 a3 := by rw [eK2]; exact h
    unfold pX10_withNodes_l2 at h
    refine jr_iload_n (q := 3) C 2 dX10_withNodes_2 rfl rfl rfl ?_
    refine jr_bipush (q := 5) (v := (7 : Int32)) C dX10_withNodes_3 (by decide) rfl ?_
    refine jr_icmp_gt (q := 8) (tgt := 24) C dX10_withNodes_5 (by decide) rfl (fun c11 => ?_) (fun c11 => ?_)
    · replace h := h.1 c11
      refine jr_sub [0, 1] rfl ?_
      exact hE2_24 _ _ h
    · replace h := h.2 c11
      refine jr_lload_n (q := 9) C 1 dX10_withNodes_8 rfl rfl rfl ?_
      refine jr_aload_n (q := 10) C 0 dX10_withNodes_9 rfl rfl rfl ?_
      refine jr_iload_n (q := 11) C 2 dX10_withNodes_10 rfl rfl rfl ?_
      refine jr_cvI (q := 14) (As := [.int a3]) (rest := [.long a1]) C (f := 0) (i := 0) (ci := 10) mf_0 rfl rfl rfl (kX10_about l a3) rfl gX10_withNodes_X10_about rfl dsc_X10_about ⟨rfl, rfl⟩ ⟨by decide, by decide⟩ rfl rfl (Nat.le_of_ble_eq_true rfl) dX10_withNodes_11 rfl h (fun r8 μ7 h => ?_)
      refine jr_csL (q := 17) (As := [.long a1, .int r8]) (rest := []) C  (kX10_with l a1 r8) rfl gX10_withNodes_X10_with rfl dsc_X10_with ⟨rfl, rfl⟩ ⟨by decide, by decide⟩ rfl rfl (Nat.le_of_ble_eq_true rfl) dX10_withNodes_14 rfl h (fun r10 μ9 h => ?_)
      refine jr_lstore_n (q := 18) (lv' := [(1, .long r10), (0, .ref (z + mm_ad 0 0)), (3, .int a3)]) C dX10_withNodes_17 rfl (by decide) rfl rfl ?_
      refine jr_iinc (q := 21) (lv' := [(3, .int (a3 + (1 : Int32))), (1, .long r10), (0, .ref (z + mm_ad 0 0))]) C 2 dX10_withNodes_18 rfl (by rfl) (by decide) rfl rfl ?_
      refine jr_goto (tgt := 2) C dX10_withNodes_21 (by decide) ?_
      refine jr_sub [2, 1, 0] rfl ?_
      exact hK2 _ _ _ h
  have x2_24 : ∀ (μ : mm_T) (c1 : Int64), (lp_ (fun (K9 : mm_T × Int64 × Int32 → Prop) (t9 : mm_T × Int64 × Int32) => pX10_withNodes_l26 Po (fun μ c1 => Po c1 μ) (fun μ a1 a3 => K9 (μ, a1, a3)) t9.1 t9.2.1 t9.2.2) (μ, c1, (0 : Int32))) → jJ p l e ({ frames := 4, cells := 0, slots := 0, locals := 92 }) s m args below meth c D cy z (MQ below (va_Ql Po (mm_Po D cy z) (mm_A z)) args s 0 0 (mm_A z)) 5 μ 24 [(0, .ref (z + mm_ad 0 0)), (1, .long c1)] [] := by
    intro μ c1 h
    refine jr_iconst (q := 25) (v := (0 : Int32)) C dX10_withNodes_24 (by decide) rfl ?_
    refine jr_istore_n (q := 26) (lv' := [(3, .int (0 : Int32)), (0, .ref (z + mm_ad 0 0)), (1, .long c1)]) C dX10_withNodes_25 rfl (by decide) rfl rfl ?_
    have l26 : ∀ (E26_71 : mm_T → Int64 → Prop) (hE26_71 : ∀ (μ : mm_T) (c1 : Int64), E26_71 μ c1 → jJ p l e ({ frames := 4, cells := 0, slots := 0, locals := 92 }) s m args below meth c D cy z (MQ below (va_Ql Po (mm_Po D cy z) (mm_A z)) args s 0 0 (mm_A z)) 5 μ 71 [(1, .long c1)] []), ∀ t9 : mm_T × Int64 × Int32, lp_ (fun (K9 : mm_T × Int64 × Int32 → Prop) (t9 : mm_T × Int64 × Int32) => pX10_withNodes_l26 Po E26_71 (fun μ a1 a3 => K9 (μ, a1, a3)) t9.1 t9.2.1 t9.2.2) t9 → jJ p l e ({ frames := 4, cells := 0, slots := 0, locals := 92 }) s m args below meth c D cy z (MQ below (va_Ql Po (mm_Po D cy z) (mm_A z)) args s 0 0 (mm_A z)) 5 t9.1 26 [(0, .ref (z + mm_ad 0 0)), (1, .long t9.2.1), (3, .int t9.2.2)] [] := by
      intro E26_71 hE26_71 t9 h
      refine lp_go (P := fun t9 : mm_T × Int64 × Int32 => jJ p l e ({ frames := 4, cells := 0, slots := 0, locals := 92 }) s m args below meth c D cy z (MQ below (va_Ql Po (mm_Po D cy z) (mm_A z)) args s 0 0 (mm_A z)) 5 t9.1 26 [(0, .ref (z + mm_ad 0 0)), (1, .long t9.2.1), (3, .int t9.2.2)] []) (fun K9 t9 hK h => ?_) t9 h
      obtain ⟨μ, a1, a3⟩ := t9
      obtain ⟨K26, eK26⟩ : ∃ K : mm_T → Int64 → Int32 → Prop, K = (fun μ a1 a3 => K9 (μ, a1, a3)) := ⟨_, rfl⟩
      have hK26 : ∀ (μ : mm_T) (a1 : Int64) (a3 : Int32), K26 μ a1 a3 → jJ p l e ({ frames := 4, cells := 0, slots := 0, locals := 92 }) s m args below meth c D cy z (MQ below (va_Ql Po (mm_Po D cy z) (mm_A z)) args s 0 0 (mm_A z)) 5 μ 26 [(0, .ref (z + mm_ad 0 0)), (1, .long a1), (3, .int a3)] [] := fun μ a1 a3 h9 => hK (μ, a1, a3) (by rw [eK26] at h9; exact h9)
      replace h : pX10_withNodes_l26 Po E26_71 K26 μ a1 a3 := by rw [eK26]; exact h
      unfold pX10_withNodes_l26 at h
      refine jr_iload_n (q := 27) C 2 dX10_withNodes_26 rfl rfl rfl ?_
      refine jr_aload_n (q := 28) C 0 dX10_withNodes_27 rfl rfl rfl ?_
      refine jr_getR (q := 31) (ci := 10) (Cn := RX10) (T := TX10) (N := 7) (j := 2) C mf_0 rfl rfl (by decide) rfl 6 0 rfl rfl rfl nX10_withNodes_10 mX10_withNodes_1 dX10_withNodes_28 rfl rfl ?_
      refine jr_getI (q := 34) (ci := 0) (Cn := RX0) (T := TX0) (N := 11) (j := 1) C mf_6 rfl rfl (by decide) rfl rfl nX10_withNodes_0 mX10_withNodes_3 dX10_withNodes_31 rfl rfl ?_
      refine jr_icmp_ge (q := 37) (tgt := 71) C dX10_withNodes_34 (by decide) rfl (fun c6 => ?_) (fun c6 => ?_)
      · replace h := h.1 c6
        refine jr_sub [1] rfl ?_
        exact hE26_71 _ _ h
      · replace h := h.2 c6
        refine jr_iconst (q := 38) (v := (0 : Int32)) C dX10_withNodes_37 (by decide) rfl ?_
        refine jr_istore (q := 40) (lv' := [(4, .int (0 : Int32)), (0, .ref (z + mm_ad 0 0)), (1, .long a1), (3, .int a3)]) C dX10_withNodes_38 (by decide) rfl rfl ?_
        have l40 : ∀ (E40_65 : mm_T → Int64 → Int32 → Prop) (hE40_65 : ∀ (μ : mm_T) (c1 : Int64) (c3 : Int32), E40_65 μ c1 c3 → jJ p l e ({ frames := 4, cells := 0, slots := 0, locals := 92 }) s m args below meth c D cy z (MQ below (va_Ql Po (mm_Po D cy z) (mm_A z)) args s 0 0 (mm_A z)) 5 μ 65 [(0, .ref (z + mm_ad 0 0)), (1, .long c1), (3, .int c3)] []), ∀ t9 : mm_T × Int64 × Int32 × Int32, lp_ (fun (K9 : mm_T × Int64 × Int32 × Int32 → Prop) (t9 : mm_T × Int64 × Int32 × Int32) => pX10_withNodes_l40 Po E40_65 (fun μ a1 a3 a4 => K9 (μ, a1, a3, a4)) t9.1 t9.2.1 t9.2.2.1 t9.2.2.2) t9 → jJ p l e ({ frames := 4, cells := 0, slots := 0, locals := 92 }) s m args below meth c D cy z (MQ below (va_Ql Po (mm_Po D cy z) (mm_A z)) args s 0 0 (mm_A z)) 5 t9.1 40 [(0, .ref (z + mm_ad 0 0)), (1, .long t9.2.1), (3, .int t9.2.2.1), (4, .int t9.2.2.2)] [] := by
          intro E40_65 hE40_65 t9 h
          refine lp_go (P := fun t9 : mm_T × Int64 × Int32 × Int32 => jJ p l e ({ frames := 4, cells := 0, slots := 0, locals := 92 }) s m args below meth c D cy z (MQ below (va_Ql Po (mm_Po D cy z) (mm_A z)) args s 0 0 (mm_A z)) 5 t9.1 40 [(0, .ref (z + mm_ad 0 0)), (1, .long t9.2.1), (3, .int t9.2.2.1), (4, .int t9.2.2.2)] []) (fun K9 t9 hK h => ?_) t9 h
          obtain ⟨μ, a1, a3, a4⟩ := t9
          obtain ⟨K40, eK40⟩ : ∃ K : mm_T → Int64 → Int32 → Int32 → Prop, K = (fun μ a1 a3 a4 => K9 (μ, a1, a3, a4)) := ⟨_, rfl⟩
          have hK40 : ∀ (μ : mm_T) (a1 : Int64) (a3 : Int32) (a4 : Int32), K40 μ a1 a3 a4 → jJ p l e ({ frames := 4, cells := 0, slots := 0, locals := 92 }) s m args below meth c D cy z (MQ below (va_Ql Po (mm_Po D cy z) (mm_A z)) args s 0 0 (mm_A z)) 5 μ 40 [(0, .ref (z + mm_ad 0 0)), (1, .long a1), (3, .int a3), (4, .int a4)] [] := fun μ a1 a3 a4 h9 => hK (μ, a1, a3, a4) (by rw [eK40] at h9; exact h9)
          replace h : pX10_withNodes_l40 Po E40_65 K40 μ a1 a3 a4 := by rw [eK40]; exact h
          unfold pX10_withNodes_l40 at h
          refine jr_iload (q := 42) C 3 dX10_withNodes_40 rfl rfl ?_
          refine jr_bipush (q := 44) (v := (8 : Int32)) C dX10_withNodes_42 (by decide) rfl ?_
          refine jr_icmp_gt (q := 47) (tgt := 65) C dX10_withNodes_44 (by decide) rfl (fun c5 => ?_) (fun c5 => ?_)
          · replace h := h.1 c5
            refine jr_sub [0, 1, 2] rfl ?_
            exact hE40_65 _ _ _ h
          · replace h := h.2 c5
            refine jr_lload_n (q := 48) C 1 dX10_withNodes_47 rfl rfl rfl ?_
            refine jr_aload_n (q := 49) C 0 dX10_withNodes_48 rfl rfl rfl ?_
            refine jr_iload_n (q := 50) C 2 dX10_withNodes_49 rfl rfl rfl ?_
            refine jr_iload (q := 52) C 3 dX10_withNodes_50 rfl rfl ?_
            refine jr_cvI (q := 55) (As := [.int a3, .int a4]) (rest := [.long a1]) C (f := 0) (i := 0) (ci := 10) mf_0 rfl rfl rfl (kX10_node l a3 a4) rfl gX10_withNodes_X10_node rfl dsc_X10_node ⟨rfl, rfl⟩ ⟨by decide, by decide⟩ rfl rfl (Nat.le_of_ble_eq_true rfl) dX10_withNodes_52 rfl h (fun r2 μ1 h => ?_)
            refine jr_csL (q := 58) (As := [.long a1, .int r2]) (rest := []) C  (kX10_with l a1 r2) rfl gX10_withNodes_X10_with rfl dsc_X10_with ⟨rfl, rfl⟩ ⟨by decide, by decide⟩ rfl rfl (Nat.le_of_ble_eq_true rfl) dX10_withNodes_55 rfl h (fun r4 μ3 h => ?_)
            refine jr_lstore_n (q := 59) (lv' := [(1, .long r4), (0, .ref (z + mm_ad 0 0)), (3, .int a3), (4, .int a4)]) C dX10_withNodes_58 rfl (by decide) rfl rfl ?_
            refine jr_iinc (q := 62) (lv' := [(4, .int (a4 + (1 : Int32))), (1, .long r4), (0, .ref (z + mm_ad 0 0)), (3, .int a3)]) C 3 dX10_withNodes_59 rfl (by rfl) (by decide) rfl rfl ?_
            refine jr_goto (tgt := 40) C dX10_withNodes_62 (by decide) ?_
            refine jr_sub [2, 1, 3, 0] rfl ?_
            exact hK40 _ _ _ _ h
        have x40_65 : ∀ (μ : mm_T) (c1 : Int64) (c3 : Int32), (K26 μ c1 (c3 + (1 : Int32))) → jJ p l e ({ frames := 4, cells := 0, slots := 0, locals := 92 }) s m args below meth c D cy z (MQ below (va_Ql Po (mm_Po D cy z) (mm_A z)) args s 0 0 (mm_A z)) 5 μ 65 [(0, .ref (z + mm_ad 0 0)), (1, .long c1), (3, .int c3)] [] := by
          intro μ c1 c3 h
          refine jr_iinc (q := 68) (lv' := [(3, .int (c3 + (1 : Int32))), (0, .ref (z + mm_ad 0 0)), (1, .long c1)]) C 2 dX10_withNodes_65 rfl (by rfl) (by decide) rfl rfl ?_
          refine jr_goto (tgt := 26) C dX10_withNodes_68 (by decide) ?_
          refine jr_sub [1, 2, 0] rfl ?_
          exact hK26 _ _ _ h
        refine jr_sub [1, 2, 3, 0] rfl ?_
        exact l40 _ x40_65 _ h
    have x26_71 : ∀ (μ : mm_T) (c1 : Int64), (Po c1 μ) → jJ p l e ({ frames := 4, cells := 0, slots := 0, locals := 92 }) s m args below meth c D cy z (MQ below (va_Ql Po (mm_Po D cy z) (mm_A z)) args s 0 0 (mm_A z)) 5 μ 71 [(1, .long c1)] [] := by
      intro μ c1 h
      refine jr_lload_n (q := 72) C 0 dX10_withNodes_71 rfl rfl rfl ?_
      exact jr_lret C hr hk dX10_withNodes_72 h
    refine jr_sub [1, 2, 0] rfl ?_
    exact l26 _ x26_71 _ h
  refine jr_sub [1, 2, 0] rfl ?_
  exact l2 _ x2_24 _ h
theorem nX10_withPairs_10 : ∀ w ∈ wsX100, w ∈ wsX10_withPairs := fun _ h => List.mem_cons_of_mem _ (List.mem_append_left _ (List.mem_append_left _ (List.mem_append_left _ (List.mem_append_left _ (List.mem_append_right _ h)))))
theorem mX10_withPairs_1 : Cond.fieldLink RX10 26 RX10 (TX10 2).2.1 (TX10 2).2.2.1 ∈ wsX10_withPairs := List.mem_of_getElem? (i := 1) (by decide +kernel)
theorem nX10_withPairs_0 : ∀ w ∈ wsX00, w ∈ wsX10_withPairs := fun _ h => List.mem_cons_of_mem _ (List.mem_append_left _ (List.mem_append_left _ (List.mem_append_left _ (List.mem_append_right _ h))))
theorem mX10_withPairs_3 : Cond.fieldLink RX10 59 RX0 (TX0 1).2.1 (TX0 1).2.2.1 ∈ wsX10_withPairs := List.mem_of_getElem? (i := 2) (by decide +kernel)
theorem dsc_X10_withPairs : yX10_withPairs.cls ≠ "java/lang/invoke/MethodHandle" ∧ yX10_withPairs.cls ≠ "java/lang/invoke/VarHandle" ∧ (parseMethodDescriptor yX10_withPairs.desc).map (fun d => d.parameters.length) = some 1 := by decide +kernel
def pX10_withPairs_l16 (Po : Int64 → mm_T → Prop) (E16_83 : mm_T → Int64 → Int32 → Prop) (K16 : mm_T → Int64 → Int32 → Int32 → Prop) (μ : mm_T) (a1 : Int64) (a3 : Int32) (a4 : Int32) : Prop := ((μ.1 6 0 1) ≤ a4 → E16_83 μ a1 a3) ∧ (¬ ((μ.1 6 0 1) ≤ a4) → pX0_hasPair (fun r2 μ1 => (r2 = 0 → K16 μ1 a1 a3 (a4 + (1 : Int32))) ∧ (¬ (r2 = 0) → pX10_flight (fun r4 μ3 => pX10_with (fun r6 μ5 => pX10_firstPath (fun r8 μ7 => pX10_with (fun r10 μ9 => pX10_range (fun r12 μ11 => pX10_with (fun r14 μ13 => K16 μ13 r14 a3 (a4 + (1 : Int32))) μ11 r10 r12) μ9 a3 a4) μ7 r6 r8) μ5 a3 a4) μ3 a1 r4) μ1 a3 a4)) μ a3 a4)
def pX10_withPairs_l2 (Po : Int64 → mm_T → Prop) (E2_89 : mm_T → Int64 → Prop) (K2 : mm_T → Int64 → Int32 → Prop) (μ : mm_T) (a1 : Int64) (a3 : Int32) : Prop := ((μ.1 6 0 1) ≤ a3 → E2_89 μ a1) ∧ (¬ ((μ.1 6 0 1) ≤ a3) → lp_ (fun (K9 : mm_T × Int64 × Int32 × Int32 → Prop) (t9 : mm_T × Int64 × Int32 × Int32) => pX10_withPairs_l16 Po (fun μ c1 c3 => K2 μ c1 (c3 + (1 : Int32))) (fun μ a1 a3 a4 => K9 (μ, a1, a3, a4)) t9.1 t9.2.1 t9.2.2.1 t9.2.2.2) (μ, a1, a3, (0 : Int32)))
def pX10_withPairs (Po : Int64 → mm_T → Prop) (μ : mm_T) (p1 : Int64) : Prop := lp_ (fun (K9 : mm_T × Int64 × Int32 → Prop) (t9 : mm_T × Int64 × Int32) => pX10_withPairs_l2 Po (fun μ c1 => Po c1 μ) (fun μ a1 a3 => K9 (μ, a1, a3)) t9.1 t9.2.1 t9.2.2) (μ, p1, (0 : Int32))
set_option maxHeartbeats 4000000 in
set_option maxRecDepth 100000 in
theorem kX10_withPairs (l : Launch) (p1 : Int64) : mm_CL l yX10_withPairs wsX10_withPairs ({ frames := 4, cells := 0, slots := 0, locals := 86 }) (fun z => [.ref (z + mm_ad 0 0), .long p1]) (fun μ Po => pX10_withPairs Po μ p1) := by
  refine je_L (cc := cX10_withPairs) (nL := 5) (own := RX10) (plainFor_of_name (by decide)) rfl rfl (fun _ => Nat.le_of_ble_eq_true rfl) ?_
  intro p e s m args below meth c D cy z μ Po C hr hk h
  change jJ p l e ({ frames := 4, cells := 0, slots := 0, locals := 86 }) s m args below meth c D cy z (MQ below (va_Ql Po (mm_Po D cy z) (mm_A z)) args s 0 0 (mm_A z)) 5 μ 0 [(0, .ref (z + mm_ad 0 0)), (1, .long p1)] []
  replace h : pX10_withPairs Po μ p1 := h
  unfold pX10_withPairs at h
  refine jr_iconst (q := 1) (v := (0 : Int32)) C dX10_withPairs_0 (by decide) rfl ?_
  refine jr_istore_n (q := 2) (lv' := [(3, .int (0 : Int32)), (0, .ref (z + mm_ad 0 0)), (1, .long p1)]) C dX10_withPairs_1 rfl (by decide) rfl rfl ?_
  have l2 : ∀ (E2_89 : mm_T → Int64 → Prop) (hE2_89 : ∀ (μ : mm_T) (c1 : Int64), E2_89 μ c1 → jJ p l e ({ frames := 4, cells := 0, slots := 0, locals := 86 }) s m args below meth c D cy z (MQ below (va_Ql Po (mm_Po D cy z) (mm_A z)) args s 0 0 (mm_A z)) 5 μ 89 [(1, .long c1)] []), ∀ t9 : mm_T × Int64 × Int32, lp_ (fun (K9 : mm_T × Int64 × Int32 → Prop) (t9 : mm_T × Int64 × Int32) => pX10_withPairs_l2 Po E2_89 (fun μ a1 a3 => K9 (μ, a1, a3)) t9.1 t9.2.1 t9.2.2) t9 → jJ p l e ({ frames := 4, cells := 0, slots := 0, locals := 86 }) s m args below meth c D cy z (MQ below (va_Ql Po (mm_Po D cy z) (mm_A z)) args s 0 0 (mm_A z)) 5 t9.1 2 [(0, .ref (z + mm_ad 0 0)), (1, .long t9.2.1), (3, .int t9.2.2)] [] := by
    intro E2_89 hE2_89 t9 h
    refine lp_go (P := fun t9 : mm_T × Int64 × Int32 => jJ p l e ({ frames := 4, cells := 0, slots := 0, locals := 86 }) s m args below meth c D cy z (MQ below (va_Ql Po (mm_Po D cy z) (mm_A z)) args s 0 0 (mm_A z)) 5 t9.1 2 [(0, .ref (z + mm_ad 0 0)), (1, .long t9.2.1), (3, .int t9.2.2)] []) (fun K9 t9 hK h => ?_) t9 h
    obtain ⟨μ, a1, a3⟩ := t9
    obtain ⟨K2, eK2⟩ : ∃ K : mm_T → Int64 → Int32 → Prop, K = (fun μ a1 a3 => K9 (μ, a1, a3)) := ⟨_, rfl⟩
    have hK2 : ∀ (μ : mm_T) (a1 : Int64) (a3 : Int32), K2 μ a1 a3 → jJ p l e ({ frames := 4, cells := 0, slots := 0, locals := 86 }) s m args below meth c D cy z (MQ below (va_Ql Po (mm_Po D cy z) (mm_A z)) args s 0 0 (mm_A z)) 5 μ 2 [(0, .ref (z + mm_ad 0 0)), (1, .long a1), (3, .int a3)] [] := fun μ a1 a3 h9 => hK (μ, a1, a3) (by rw [eK2] at h9; exact h9)
    replace h : pX10_withPairs_l2 Po E2_89 K2 μ a1 a3 := by rw [eK2]; exact h
    unfold pX10_withPairs_l2 at h
    refine jr_iload_n (q := 3) C 2 dX10_withPairs_2 rfl rfl rfl ?_
    refine jr_aload_n (q := 4) C 0 dX10_withPairs_3 rfl rfl rfl ?_
    refine jr_getR (q := 7) (ci := 10) (Cn := RX10) (T := TX10) (N := 7) (j := 2) C mf_0 rfl rfl (by decide) rfl 6 0 rfl rfl rfl nX10_withPairs_10 mX10_withPairs_1 dX10_withPairs_4 rfl rfl ?_
    refine jr_getI (q := 10) (ci := 0) (Cn := RX0) (T := TX0) (N := 11) (j := 1) C mf_6 rfl rfl (by decide) rfl rfl nX10_withPairs_0 mX10_withPairs_3 dX10_withPairs_7 rfl rfl ?_
    refine jr_icmp_ge (q := 13) (tgt := 89) C dX10_withPairs_10 (by decide) rfl (fun c17 => ?_) (fun c17 => ?_)
    · replace h := h.1 c17
      refine jr_sub [1] rfl ?_
      exact hE2_89 _ _ h
    · replace h := h.2 c17
      refine jr_iconst (q := 14) (v := (0 : Int32)) C dX10_withPairs_13 (by decide) rfl ?_
      refine jr_istore (q := 16) (lv' := [(4, .int (0 : Int32)), (0, .ref (z + mm_ad 0 0)), (1, .long a1), (3, .int a3)]) C dX10_withPairs_14 (by decide) rfl rfl ?_
      have l16 : ∀ (E16_83 : mm_T → Int64 → Int32 → Prop) (hE16_83 : ∀ (μ : mm_T) (c1 : Int64) (c3 : Int32), E16_83 μ c1 c3 → jJ p l e ({ frames := 4, cells := 0, slots := 0, locals := 86 }) s m args below meth c D cy z (MQ below (va_Ql Po (mm_Po D cy z) (mm_A z)) args s 0 0 (mm_A z)) 5 μ 83 [(0, .ref (z + mm_ad 0 0)), (1, .long c1), (3, .int c3)] []), ∀ t9 : mm_T × Int64 × Int32 × Int32, lp_ (fun (K9 : mm_T × Int64 × Int32 × Int32 → Prop) (t9 : mm_T × Int64 × Int32 × Int32) => pX10_withPairs_l16 Po E16_83 (fun μ a1 a3 a4 => K9 (μ, a1, a3, a4)) t9.1 t9.2.1 t9.2.2.1 t9.2.2.2) t9 → jJ p l e ({ frames := 4, cells := 0, slots := 0, locals := 86 }) s m args below meth c D cy z (MQ below (va_Ql Po (mm_Po D cy z) (mm_A z)) args s 0 0 (mm_A z)) 5 t9.1 16 [(0, .ref (z + mm_ad 0 0)), (1, .long t9.2.1), (3, .int t9.2.2.1), (4, .int t9.2.2.2)] [] := by
        intro E16_83 hE16_83 t9 h
        refine lp_go (P := fun t9 : mm_T × Int64 × Int32 × Int32 => jJ p l e ({ frames := 4, cells := 0, slots := 0, locals := 86 }) s m args below meth c D cy z (MQ below (va_Ql Po (mm_Po D cy z) (mm_A z)) args s 0 0 (mm_A z)) 5 t9.1 16 [(0, .ref (z + mm_ad 0 0)), (1, .long t9.2.1), (3, .int t9.2.2.1), (4, .int t9.2.2.2)] []) (fun K9 t9 hK h => ?_) t9 h
        obtain ⟨μ, a1, a3, a4⟩ := t9
        obtain ⟨K16, eK16⟩ : ∃ K : mm_T → Int64 → Int32 → Int32 → Prop, K = (fun μ a1 a3 a4 => K9 (μ, a1, a3, a4)) := ⟨_, rfl⟩
        have hK16 : ∀ (μ : mm_T) (a1 : Int64) (a3 : Int32) (a4 : Int32), K16 μ a1 a3 a4 → jJ p l e ({ frames := 4, cells := 0, slots := 0, locals := 86 }) s m args below meth c D cy z (MQ below (va_Ql Po (mm_Po D cy z) (mm_A z)) args s 0 0 (mm_A z)) 5 μ 16 [(0, .ref (z + mm_ad 0 0)), (1, .long a1), (3, .int a3), (4, .int a4)] [] := fun μ a1 a3 a4 h9 => hK (μ, a1, a3, a4) (by rw [eK16] at h9; exact h9)
        replace h : pX10_withPairs_l16 Po E16_83 K16 μ a1 a3 a4 := by rw [eK16]; exact h
        unfold pX10_withPairs_l16 at h
        refine jr_iload (q := 18) C 3 dX10_withPairs_16 rfl rfl ?_
        refine jr_aload_n (q := 19) C 0 dX10_withPairs_18 rfl rfl rfl ?_
        refine jr_getR (q := 22) (ci := 10) (Cn := RX10) (T := TX10) (N := 7) (j := 2) C mf_0 rfl rfl (by decide) rfl 6 0 rfl rfl rfl nX10_withPairs_10 mX10_withPairs_1 dX10_withPairs_19 rfl rfl ?_
        refine jr_getI (q := 25) (ci := 0) (Cn := RX0) (T := TX0) (N := 11) (j := 1) C mf_6 rfl rfl (by decide) rfl rfl nX10_withPairs_0 mX10_withPairs_3 dX10_withPairs_22 rfl rfl ?_
        refine jr_icmp_ge (q := 28) (tgt := 83) C dX10_withPairs_25 (by decide) rfl (fun c16 => ?_) (fun c16 => ?_)
        · replace h := h.1 c16
          refine jr_sub [0, 1, 2] rfl ?_
          exact hE16_83 _ _ _ h
        · replace h := h.2 c16
          refine jr_aload_n (q := 29) C 0 dX10_withPairs_28 rfl rfl rfl ?_
          refine jr_getR (q := 32) (ci := 10) (Cn := RX10) (T := TX10) (N := 7) (j := 2) C mf_0 rfl rfl (by decide) rfl 6 0 rfl rfl rfl nX10_withPairs_10 mX10_withPairs_1 dX10_withPairs_29 rfl rfl ?_
          refine jr_iload_n (q := 33) C 2 dX10_withPairs_32 rfl rfl rfl ?_
          refine jr_iload (q := 35) C 3 dX10_withPairs_33 rfl rfl ?_
          refine jr_cvI (q := 38) (As := [.int a3, .int a4]) (rest := []) C (f := 6) (i := 0) (ci := 0) mf_6 rfl rfl rfl (kX0_hasPair l a3 a4) rfl gX10_withPairs_X0_hasPair rfl dsc_X0_hasPair ⟨rfl, rfl⟩ ⟨by decide, by decide⟩ rfl rfl (Nat.le_of_ble_eq_true rfl) dX10_withPairs_35 rfl h (fun r2 μ1 h => ?_)
          refine jr_if_eq (q := 41) (tgt := 77) C dX10_withPairs_38 (by decide) rfl (fun c15 => ?_) (fun c15 => ?_)
          · replace h := h.1 c15
            refine jr_iinc (q := 80) (lv' := [(4, .int (a4 + (1 : Int32))), (0, .ref (z + mm_ad 0 0)), (1, .long a1), (3, .int a3)]) C 3 dX10_withPairs_77 rfl (by rfl) (by decide) rfl rfl ?_
            refine jr_goto (tgt := 16) C dX10_withPairs_80 (by decide) ?_
            refine jr_sub [1, 2, 3, 0] rfl ?_
            exact hK16 _ _ _ _ h
          · replace h := h.2 c15
            refine jr_lload_n (q := 42) C 1 dX10_withPairs_41 rfl rfl rfl ?_
            refine jr_aload_n (q := 43) C 0 dX10_withPairs_42 rfl rfl rfl ?_
            refine jr_iload_n (q := 44) C 2 dX10_withPairs_43 rfl rfl rfl ?_
            refine jr_iload (q := 46) C 3 dX10_withPairs_44 rfl rfl ?_
            refine jr_cvI (q := 49) (As := [.int a3, .int a4]) (rest := [.long a1]) C (f := 0) (i := 0) (ci := 10) mf_0 rfl rfl rfl (kX10_flight l a3 a4) rfl gX10_withPairs_X10_flight rfl dsc_X10_flight ⟨rfl, rfl⟩ ⟨by decide, by decide⟩ rfl rfl (Nat.le_of_ble_eq_true rfl) dX10_withPairs_46 rfl h (fun r4 μ3 h => ?_)
            refine jr_csL (q := 52) (As := [.long a1, .int r4]) (rest := []) C  (kX10_with l a1 r4) rfl gX10_withPairs_X10_with rfl dsc_X10_with ⟨rfl, rfl⟩ ⟨by decide, by decide⟩ rfl rfl (Nat.le_of_ble_eq_true rfl) dX10_withPairs_49 rfl h (fun r6 μ5 h => ?_)
            refine jr_lstore_n (q := 53) (lv' := [(1, .long r6), (0, .ref (z + mm_ad 0 0)), (3, .int a3), (4, .int a4)]) C dX10_withPairs_52 rfl (by decide) rfl rfl ?_
            refine jr_lload_n (q := 54) C 0 dX10_withPairs_53 rfl rfl rfl ?_
            refine jr_aload_n (q := 55) C 1 dX10_withPairs_54 rfl rfl rfl ?_
            refine jr_iload_n (q := 56) C 2 dX10_withPairs_55 rfl rfl rfl ?_
            refine jr_iload (q := 58) C 3 dX10_withPairs_56 rfl rfl ?_
            refine jr_cvI (q := 61) (As := [.int a3, .int a4]) (rest := [.long r6]) C (f := 0) (i := 0) (ci := 10) mf_0 rfl rfl rfl (kX10_firstPath l a3 a4) rfl gX10_withPairs_X10_firstPath rfl dsc_X10_firstPath ⟨rfl, rfl⟩ ⟨by decide, by decide⟩ rfl rfl (Nat.le_of_ble_eq_true rfl) dX10_withPairs_58 rfl h (fun r8 μ7 h => ?_)
            refine jr_csL (q := 64) (As := [.long r6, .int r8]) (rest := []) C  (kX10_with l r6 r8) rfl gX10_withPairs_X10_with rfl dsc_X10_with ⟨rfl, rfl⟩ ⟨by decide, by decide⟩ rfl rfl (Nat.le_of_ble_eq_true rfl) dX10_withPairs_61 rfl h (fun r10 μ9 h => ?_)
            refine jr_lstore_n (q := 65) (lv' := [(1, .long r10), (0, .ref (z + mm_ad 0 0)), (3, .int a3), (4, .int a4)]) C dX10_withPairs_64 rfl (by decide) rfl rfl ?_
            refine jr_lload_n (q := 66) C 0 dX10_withPairs_65 rfl rfl rfl ?_
            refine jr_aload_n (q := 67) C 1 dX10_withPairs_66 rfl rfl rfl ?_
            refine jr_iload_n (q := 68) C 2 dX10_withPairs_67 rfl rfl rfl ?_
            refine jr_iload (q := 70) C 3 dX10_withPairs_68 rfl rfl ?_
            refine jr_cvI (q := 73) (As := [.int a3, .int a4]) (rest := [.long r10]) C (f := 0) (i := 0) (ci := 10) mf_0 rfl rfl rfl (kX10_range l a3 a4) rfl gX10_withPairs_X10_range rfl dsc_X10_range ⟨rfl, rfl⟩ ⟨by decide, by decide⟩ rfl rfl (Nat.le_of_ble_eq_true rfl) dX10_withPairs_70 rfl h (fun r12 μ11 h => ?_)
            refine jr_csL (q := 76) (As := [.long r10, .int r12]) (rest := []) C  (kX10_with l r10 r12) rfl gX10_withPairs_X10_with rfl dsc_X10_with ⟨rfl, rfl⟩ ⟨by decide, by decide⟩ rfl rfl (Nat.le_of_ble_eq_true rfl) dX10_withPairs_73 rfl h (fun r14 μ13 h => ?_)
            refine jr_lstore_n (q := 77) (lv' := [(1, .long r14), (0, .ref (z + mm_ad 0 0)), (3, .int a3), (4, .int a4)]) C dX10_withPairs_76 rfl (by decide) rfl rfl ?_
            refine jr_iinc (q := 80) (lv' := [(4, .int (a4 + (1 : Int32))), (1, .long r14), (0, .ref (z + mm_ad 0 0)), (3, .int a3)]) C 3 dX10_withPairs_77 rfl (by rfl) (by decide) rfl rfl ?_
            refine jr_goto (tgt := 16) C dX10_withPairs_80 (by decide) ?_
            refine jr_sub [2, 1, 3, 0] rfl ?_
            exact hK16 _ _ _ _ h
      have x16_83 : ∀ (μ : mm_T) (c1 : Int64) (c3 : Int32), (K2 μ c1 (c3 + (1 : Int32))) → jJ p l e ({ frames := 4, cells := 0, slots := 0, locals := 86 }) s m args below meth c D cy z (MQ below (va_Ql Po (mm_Po D cy z) (mm_A z)) args s 0 0 (mm_A z)) 5 μ 83 [(0, .ref (z + mm_ad 0 0)), (1, .long c1), (3, .int c3)] [] := by
        intro μ c1 c3 h
        refine jr_iinc (q := 86) (lv' := [(3, .int (c3 + (1 : Int32))), (0, .ref (z + mm_ad 0 0)), (1, .long c1)]) C 2 dX10_withPairs_83 rfl (by rfl) (by decide) rfl rfl ?_
        refine jr_goto (tgt := 2) C dX10_withPairs_86 (by decide) ?_
        refine jr_sub [1, 2, 0] rfl ?_
        exact hK2 _ _ _ h
      refine jr_sub [1, 2, 3, 0] rfl ?_
      exact l16 _ x16_83 _ h
  have x2_89 : ∀ (μ : mm_T) (c1 : Int64), (Po c1 μ) → jJ p l e ({ frames := 4, cells := 0, slots := 0, locals := 86 }) s m args below meth c D cy z (MQ below (va_Ql Po (mm_Po D cy z) (mm_A z)) args s 0 0 (mm_A z)) 5 μ 89 [(1, .long c1)] [] := by
    intro μ c1 h
    refine jr_lload_n (q := 90) C 0 dX10_withPairs_89 rfl rfl rfl ?_
    exact jr_lret C hr hk dX10_withPairs_90 h
  refine jr_sub [1, 2, 0] rfl ?_
  exact l2 _ x2_89 _ h
theorem nX10_withLatest_10 : ∀ w ∈ wsX100, w ∈ wsX10_withLatest := fun _ h => List.mem_cons_of_mem _ (List.mem_append_left _ (List.mem_append_left _ (List.mem_append_left _ (List.mem_append_left _ (List.mem_append_right _ h)))))
theorem mX10_withLatest_1 : Cond.fieldLink RX10 26 RX10 (TX10 2).2.1 (TX10 2).2.2.1 ∈ wsX10_withLatest := List.mem_of_getElem? (i := 1) (by decide +kernel)
theorem nX10_withLatest_0 : ∀ w ∈ wsX00, w ∈ wsX10_withLatest := fun _ h => List.mem_cons_of_mem _ (List.mem_append_left _ (List.mem_append_left _ (List.mem_append_left _ (List.mem_append_right _ h))))
theorem mX10_withLatest_3 : Cond.fieldLink RX10 123 RX0 (TX0 5).2.1 (TX0 5).2.2.1 ∈ wsX10_withLatest := List.mem_of_getElem? (i := 2) (by decide +kernel)
theorem nX10_withLatest_3 : ∀ w ∈ wsX30, w ∈ wsX10_withLatest := fun _ h => List.mem_cons_of_mem _ (List.mem_append_left _ (List.mem_append_left _ (List.mem_append_right _ h)))
theorem mX10_withLatest_5 : Cond.fieldLink RX10 127 RX3 (TX3 0).2.1 (TX3 0).2.2.1 ∈ wsX10_withLatest := List.mem_of_getElem? (i := 3) (by decide +kernel)
theorem mX10_withLatest_6 : Cond.fieldLink RX10 59 RX0 (TX0 1).2.1 (TX0 1).2.2.1 ∈ wsX10_withLatest := List.mem_of_getElem? (i := 4) (by decide +kernel)
theorem dsc_X10_withLatest : yX10_withLatest.cls ≠ "java/lang/invoke/MethodHandle" ∧ yX10_withLatest.cls ≠ "java/lang/invoke/VarHandle" ∧ (parseMethodDescriptor yX10_withLatest.desc).map (fun d => d.parameters.length) = some 1 := by decide +kernel
def pX10_withLatest_l41 (Po : Int64 → mm_T → Prop) (E41_82 : mm_T → Int64 → Prop) (K41 : mm_T → Int64 → Int32 → Prop) (μ : mm_T) (a1 : Int64) (a3 : Int32) : Prop := ((μ.1 6 0 1) ≤ a3 → E41_82 μ a1) ∧ (¬ ((μ.1 6 0 1) ≤ a3) → pX3_isOf (fun r2 μ1 => (¬ r2 = 0 → K41 μ1 a1 (a3 + (1 : Int32))) ∧ (r2 = 0 → pX10_heard (fun r4 μ3 => pX10_with (fun r6 μ5 => K41 μ5 r6 (a3 + (1 : Int32))) μ3 a1 r4) μ1 a3)) μ a3)
def pX10_withLatest_l17 (Po : Int64 → mm_T → Prop) (E17_39 : mm_T → Int64 → Prop) (K17 : mm_T → Int64 → Int32 → Prop) (μ : mm_T) (a1 : Int64) (a3 : Int32) : Prop := ((11 : Int32) < a3 → E17_39 μ a1) ∧ (¬ ((11 : Int32) < a3) → pX10_last (fun r10 μ9 => pX10_with (fun r12 μ11 => K17 μ11 r12 (a3 + (1 : Int32))) μ9 a1 r10) μ a3)
def pX10_withLatest (Po : Int64 → mm_T → Prop) (μ : mm_T) (p1 : Int64) : Prop := (¬ (μ.1 15 0 0) = 0 → lp_ (fun (K9 : mm_T × Int64 × Int32 → Prop) (t9 : mm_T × Int64 × Int32) => pX10_withLatest_l17 Po (fun μ c1 => lp_ (fun (K9 : mm_T × Int64 × Int32 → Prop) (t9 : mm_T × Int64 × Int32) => pX10_withLatest_l41 Po (fun μ c1 => Po c1 μ) (fun μ a1 a3 => K9 (μ, a1, a3)) t9.1 t9.2.1 t9.2.2) (μ, c1, (0 : Int32))) (fun μ a1 a3 => K9 (μ, a1, a3)) t9.1 t9.2.1 t9.2.2) (μ, p1, (1 : Int32))) ∧ ((μ.1 15 0 0) = 0 → Po p1 μ)
set_option maxHeartbeats 4000000 in
set_option maxRecDepth 100000 in
theorem kX10_withLatest (l : Launch) (p1 : Int64) : mm_CL l yX10_withLatest wsX10_withLatest ({ frames := 4, cells := 0, slots := 0, locals := 95 }) (fun z => [.ref (z + mm_ad 0 0), .long p1]) (fun μ Po => pX10_withLatest Po μ p1) := by
  refine je_L (cc := cX10_withLatest) (nL := 4) (own := RX10) (plainFor_of_name (by decide)) rfl rfl (fun _ => Nat.le_of_ble_eq_true rfl) ?_
  intro p e s m args below meth c D cy z μ Po C hr hk h
  change jJ p l e ({ frames := 4, cells := 0, slots := 0, locals := 95 }) s m args below meth c D cy z (MQ below (va_Ql Po (mm_Po D cy z) (mm_A z)) args s 0 0 (mm_A z)) 4 μ 0 [(0, .ref (z + mm_ad 0 0)), (1, .long p1)] []
  replace h : pX10_withLatest Po μ p1 := h
  unfold pX10_withLatest at h
  refine jr_aload_n (q := 1) C 0 dX10_withLatest_0 rfl rfl rfl ?_
  refine jr_getR (q := 4) (ci := 10) (Cn := RX10) (T := TX10) (N := 7) (j := 2) C mf_0 rfl rfl (by decide) rfl 6 0 rfl rfl rfl nX10_withLatest_10 mX10_withLatest_1 dX10_withLatest_1 rfl rfl ?_
  refine jr_getR (q := 7) (ci := 0) (Cn := RX0) (T := TX0) (N := 11) (j := 5) C mf_6 rfl rfl (by decide) rfl 15 0 rfl rfl rfl nX10_withLatest_0 mX10_withLatest_3 dX10_withLatest_4 rfl rfl ?_
  refine jr_getI (q := 10) (ci := 3) (Cn := RX3) (T := TX3) (N := 9) (j := 0) C mf_15 rfl rfl (by decide) rfl rfl nX10_withLatest_3 mX10_withLatest_5 dX10_withLatest_7 rfl rfl ?_
  refine jr_if_ne (q := 13) (tgt := 15) C dX10_withLatest_10 (by decide) rfl (fun c14 => ?_) (fun c14 => ?_)
  · replace h := h.1 c14
    refine jr_iconst (q := 16) (v := (1 : Int32)) C dX10_withLatest_15 (by decide) rfl ?_
    refine jr_istore_n (q := 17) (lv' := [(3, .int (1 : Int32)), (0, .ref (z + mm_ad 0 0)), (1, .long p1)]) C dX10_withLatest_16 rfl (by decide) rfl rfl ?_
    have l17 : ∀ (E17_39 : mm_T → Int64 → Prop) (hE17_39 : ∀ (μ : mm_T) (c1 : Int64), E17_39 μ c1 → jJ p l e ({ frames := 4, cells := 0, slots := 0, locals := 95 }) s m args below meth c D cy z (MQ below (va_Ql Po (mm_Po D cy z) (mm_A z)) args s 0 0 (mm_A z)) 4 μ 39 [(0, .ref (z + mm_ad 0 0)), (1, .long c1)] []), ∀ t9 : mm_T × Int64 × Int32, lp_ (fun (K9 : mm_T × Int64 × Int32 → Prop) (t9 : mm_T × Int64 × Int32) => pX10_withLatest_l17 Po E17_39 (fun μ a1 a3 => K9 (μ, a1, a3)) t9.1 t9.2.1 t9.2.2) t9 → jJ p l e ({ frames := 4, cells := 0, slots := 0, locals := 95 }) s m args below meth c D cy z (MQ below (va_Ql Po (mm_Po D cy z) (mm_A z)) args s 0 0 (mm_A z)) 4 t9.1 17 [(0, .ref (z + mm_ad 0 0)), (1, .long t9.2.1), (3, .int t9.2.2)] [] := by
      intro E17_39 hE17_39 t9 h
      refine lp_go (P := fun t9 : mm_T × Int64 × Int32 => jJ p l e ({ frames := 4, cells := 0, slots := 0, locals := 95 }) s m args below meth c D cy z (MQ below (va_Ql Po (mm_Po D cy z) (mm_A z)) args s 0 0 (mm_A z)) 4 t9.1 17 [(0, .ref (z + mm_ad 0 0)), (1, .long t9.2.1), (3, .int t9.2.2)] []) (fun K9 t9 hK h => ?_) t9 h
      obtain ⟨μ, a1, a3⟩ := t9
      obtain ⟨K17, eK17⟩ : ∃ K : mm_T → Int64 → Int32 → Prop, K = (fun μ a1 a3 => K9 (μ, a1, a3)) := ⟨_, rfl⟩
      have hK17 : ∀ (μ : mm_T) (a1 : Int64) (a3 : Int32), K17 μ a1 a3 → jJ p l e ({ frames := 4, cells := 0, slots := 0, locals := 95 }) s m args below meth c D cy z (MQ below (va_Ql Po (mm_Po D cy z) (mm_A z)) args s 0 0 (mm_A z)) 4 μ 17 [(0, .ref (z + mm_ad 0 0)), (1, .long a1), (3, .int a3)] [] := fun μ a1 a3 h9 => hK (μ, a1, a3) (by rw [eK17] at h9; exact h9)
      replace h : pX10_withLatest_l17 Po E17_39 K17 μ a1 a3 := by rw [eK17]; exact h
      unfold pX10_withLatest_l17 at h
      refine jr_iload_n (q := 18) C 2 dX10_withLatest_17 rfl rfl rfl ?_
      refine jr_bipush (q := 20) (v := (11 : Int32)) C dX10_withLatest_18 (by decide) rfl ?_
      refine jr_icmp_gt (q := 23) (tgt := 39) C dX10_withLatest_20 (by decide) rfl (fun c13 => ?_) (fun c13 => ?_)
      · replace h := h.1 c13
        refine jr_sub [0, 1] rfl ?_
        exact hE17_39 _ _ h
      · replace h := h.2 c13
        refine jr_lload_n (q := 24) C 1 dX10_withLatest_23 rfl rfl rfl ?_
        refine jr_aload_n (q := 25) C 0 dX10_withLatest_24 rfl rfl rfl ?_
        refine jr_iload_n (q := 26) C 2 dX10_withLatest_25 rfl rfl rfl ?_
        refine jr_cvI (q := 29) (As := [.int a3]) (rest := [.long a1]) C (f := 0) (i := 0) (ci := 10) mf_0 rfl rfl rfl (kX10_last l a3) rfl gX10_withLatest_X10_last rfl dsc_X10_last ⟨rfl, rfl⟩ ⟨by decide, by decide⟩ rfl rfl (Nat.le_of_ble_eq_true rfl) dX10_withLatest_26 rfl h (fun r10 μ9 h => ?_)
        refine jr_csL (q := 32) (As := [.long a1, .int r10]) (rest := []) C  (kX10_with l a1 r10) rfl gX10_withLatest_X10_with rfl dsc_X10_with ⟨rfl, rfl⟩ ⟨by decide, by decide⟩ rfl rfl (Nat.le_of_ble_eq_true rfl) dX10_withLatest_29 rfl h (fun r12 μ11 h => ?_)
        refine jr_lstore_n (q := 33) (lv' := [(1, .long r12), (0, .ref (z + mm_ad 0 0)), (3, .int a3)]) C dX10_withLatest_32 rfl (by decide) rfl rfl ?_
        refine jr_iinc (q := 36) (lv' := [(3, .int (a3 + (1 : Int32))), (1, .long r12), (0, .ref (z + mm_ad 0 0))]) C 2 dX10_withLatest_33 rfl (by rfl) (by decide) rfl rfl ?_
        refine jr_goto (tgt := 17) C dX10_withLatest_36 (by decide) ?_
        refine jr_sub [2, 1, 0] rfl ?_
        exact hK17 _ _ _ h
    have x17_39 : ∀ (μ : mm_T) (c1 : Int64), (lp_ (fun (K9 : mm_T × Int64 × Int32 → Prop) (t9 : mm_T × Int64 × Int32) => pX10_withLatest_l41 Po (fun μ c1 => Po c1 μ) (fun μ a1 a3 => K9 (μ, a1, a3)) t9.1 t9.2.1 t9.2.2) (μ, c1, (0 : Int32))) → jJ p l e ({ frames := 4, cells := 0, slots := 0, locals := 95 }) s m args below meth c D cy z (MQ below (va_Ql Po (mm_Po D cy z) (mm_A z)) args s 0 0 (mm_A z)) 4 μ 39 [(0, .ref (z + mm_ad 0 0)), (1, .long c1)] [] := by
      intro μ c1 h
      refine jr_iconst (q := 40) (v := (0 : Int32)) C dX10_withLatest_39 (by decide) rfl ?_
      refine jr_istore_n (q := 41) (lv' := [(3, .int (0 : Int32)), (0, .ref (z + mm_ad 0 0)), (1, .long c1)]) C dX10_withLatest_40 rfl (by decide) rfl rfl ?_
      have l41 : ∀ (E41_82 : mm_T → Int64 → Prop) (hE41_82 : ∀ (μ : mm_T) (c1 : Int64), E41_82 μ c1 → jJ p l e ({ frames := 4, cells := 0, slots := 0, locals := 95 }) s m args below meth c D cy z (MQ below (va_Ql Po (mm_Po D cy z) (mm_A z)) args s 0 0 (mm_A z)) 4 μ 82 [(1, .long c1)] []), ∀ t9 : mm_T × Int64 × Int32, lp_ (fun (K9 : mm_T × Int64 × Int32 → Prop) (t9 : mm_T × Int64 × Int32) => pX10_withLatest_l41 Po E41_82 (fun μ a1 a3 => K9 (μ, a1, a3)) t9.1 t9.2.1 t9.2.2) t9 → jJ p l e ({ frames := 4, cells := 0, slots := 0, locals := 95 }) s m args below meth c D cy z (MQ below (va_Ql Po (mm_Po D cy z) (mm_A z)) args s 0 0 (mm_A z)) 4 t9.1 41 [(0, .ref (z + mm_ad 0 0)), (1, .long t9.2.1), (3, .int t9.2.2)] [] := by
        intro E41_82 hE41_82 t9 h
        refine lp_go (P := fun t9 : mm_T × Int64 × Int32 => jJ p l e ({ frames := 4, cells := 0, slots := 0, locals := 95 }) s m args below meth c D cy z (MQ below (va_Ql Po (mm_Po D cy z) (mm_A z)) args s 0 0 (mm_A z)) 4 t9.1 41 [(0, .ref (z + mm_ad 0 0)), (1, .long t9.2.1), (3, .int t9.2.2)] []) (fun K9 t9 hK h => ?_) t9 h
        obtain ⟨μ, a1, a3⟩ := t9
        obtain ⟨K41, eK41⟩ : ∃ K : mm_T → Int64 → Int32 → Prop, K = (fun μ a1 a3 => K9 (μ, a1, a3)) := ⟨_, rfl⟩
        have hK41 : ∀ (μ : mm_T) (a1 : Int64) (a3 : Int32), K41 μ a1 a3 → jJ p l e ({ frames := 4, cells := 0, slots := 0, locals := 95 }) s m args below meth c D cy z (MQ below (va_Ql Po (mm_Po D cy z) (mm_A z)) args s 0 0 (mm_A z)) 4 μ 41 [(0, .ref (z + mm_ad 0 0)), (1, .long a1), (3, .int a3)] [] := fun μ a1 a3 h9 => hK (μ, a1, a3) (by rw [eK41] at h9; exact h9)
        replace h : pX10_withLatest_l41 Po E41_82 K41 μ a1 a3 := by rw [eK41]; exact h
        unfold pX10_withLatest_l41 at h
        refine jr_iload_n (q := 42) C 2 dX10_withLatest_41 rfl rfl rfl ?_
        refine jr_aload_n (q := 43) C 0 dX10_withLatest_42 rfl rfl rfl ?_
        refine jr_getR (q := 46) (ci := 10) (Cn := RX10) (T := TX10) (N := 7) (j := 2) C mf_0 rfl rfl (by decide) rfl 6 0 rfl rfl rfl nX10_withLatest_10 mX10_withLatest_1 dX10_withLatest_43 rfl rfl ?_
        refine jr_getI (q := 49) (ci := 0) (Cn := RX0) (T := TX0) (N := 11) (j := 1) C mf_6 rfl rfl (by decide) rfl rfl nX10_withLatest_0 mX10_withLatest_6 dX10_withLatest_46 rfl rfl ?_
        refine jr_icmp_ge (q := 52) (tgt := 82) C dX10_withLatest_49 (by decide) rfl (fun c8 => ?_) (fun c8 => ?_)
        · replace h := h.1 c8
          refine jr_sub [1] rfl ?_
          exact hE41_82 _ _ h
        · replace h := h.2 c8
          refine jr_aload_n (q := 53) C 0 dX10_withLatest_52 rfl rfl rfl ?_
          refine jr_getR (q := 56) (ci := 10) (Cn := RX10) (T := TX10) (N := 7) (j := 2) C mf_0 rfl rfl (by decide) rfl 6 0 rfl rfl rfl nX10_withLatest_10 mX10_withLatest_1 dX10_withLatest_53 rfl rfl ?_
          refine jr_getR (q := 59) (ci := 0) (Cn := RX0) (T := TX0) (N := 11) (j := 5) C mf_6 rfl rfl (by decide) rfl 15 0 rfl rfl rfl nX10_withLatest_0 mX10_withLatest_3 dX10_withLatest_56 rfl rfl ?_
          refine jr_iload_n (q := 60) C 2 dX10_withLatest_59 rfl rfl rfl ?_
          refine jr_cvI (q := 63) (As := [.int a3]) (rest := []) C (f := 15) (i := 0) (ci := 3) mf_15 rfl rfl rfl (kX3_isOf l a3) rfl gX10_withLatest_X3_isOf rfl dsc_X3_isOf ⟨rfl, rfl⟩ ⟨by decide, by decide⟩ rfl rfl (Nat.le_of_ble_eq_true rfl) dX10_withLatest_60 rfl h (fun r2 μ1 h => ?_)
          refine jr_if_ne (q := 66) (tgt := 76) C dX10_withLatest_63 (by decide) rfl (fun c7 => ?_) (fun c7 => ?_)
          · replace h := h.1 c7
            refine jr_iinc (q := 79) (lv' := [(3, .int (a3 + (1 : Int32))), (0, .ref (z + mm_ad 0 0)), (1, .long a1)]) C 2 dX10_withLatest_76 rfl (by rfl) (by decide) rfl rfl ?_
            refine jr_goto (tgt := 41) C dX10_withLatest_79 (by decide) ?_
            refine jr_sub [1, 2, 0] rfl ?_
            exact hK41 _ _ _ h
          · replace h := h.2 c7
            refine jr_lload_n (q := 67) C 1 dX10_withLatest_66 rfl rfl rfl ?_
            refine jr_aload_n (q := 68) C 0 dX10_withLatest_67 rfl rfl rfl ?_
            refine jr_iload_n (q := 69) C 2 dX10_withLatest_68 rfl rfl rfl ?_
            refine jr_cvI (q := 72) (As := [.int a3]) (rest := [.long a1]) C (f := 0) (i := 0) (ci := 10) mf_0 rfl rfl rfl (kX10_heard l a3) rfl gX10_withLatest_X10_heard rfl dsc_X10_heard ⟨rfl, rfl⟩ ⟨by decide, by decide⟩ rfl rfl (Nat.le_of_ble_eq_true rfl) dX10_withLatest_69 rfl h (fun r4 μ3 h => ?_)
            refine jr_csL (q := 75) (As := [.long a1, .int r4]) (rest := []) C  (kX10_with l a1 r4) rfl gX10_withLatest_X10_with rfl dsc_X10_with ⟨rfl, rfl⟩ ⟨by decide, by decide⟩ rfl rfl (Nat.le_of_ble_eq_true rfl) dX10_withLatest_72 rfl h (fun r6 μ5 h => ?_)
            refine jr_lstore_n (q := 76) (lv' := [(1, .long r6), (0, .ref (z + mm_ad 0 0)), (3, .int a3)]) C dX10_withLatest_75 rfl (by decide) rfl rfl ?_
            refine jr_iinc (q := 79) (lv' := [(3, .int (a3 + (1 : Int32))), (1, .long r6), (0, .ref (z + mm_ad 0 0))]) C 2 dX10_withLatest_76 rfl (by rfl) (by decide) rfl rfl ?_
            refine jr_goto (tgt := 41) C dX10_withLatest_79 (by decide) ?_
            refine jr_sub [2, 1, 0] rfl ?_
            exact hK41 _ _ _ h
      have x41_82 : ∀ (μ : mm_T) (c1 : Int64), (Po c1 μ) → jJ p l e ({ frames := 4, cells := 0, slots := 0, locals := 95 }) s m args below meth c D cy z (MQ below (va_Ql Po (mm_Po D cy z) (mm_A z)) args s 0 0 (mm_A z)) 4 μ 82 [(1, .long c1)] [] := by
        intro μ c1 h
        refine jr_lload_n (q := 83) C 0 dX10_withLatest_82 rfl rfl rfl ?_
        exact jr_lret C hr hk dX10_withLatest_83 h
      refine jr_sub [1, 2, 0] rfl ?_
      exact l41 _ x41_82 _ h
    refine jr_sub [1, 2, 0] rfl ?_
    exact l17 _ x17_39 _ h
  · replace h := h.2 c14
    refine jr_lload_n (q := 14) C 1 dX10_withLatest_13 rfl rfl rfl ?_
    exact jr_lret C hr hk dX10_withLatest_14 h
theorem nX10_withPlaces_10 : ∀ w ∈ wsX100, w ∈ wsX10_withPlaces := fun _ h => List.mem_cons_of_mem _ (List.mem_append_left _ (List.mem_append_left _ (List.mem_append_left _ (List.mem_append_left _ (List.mem_append_left _ (List.mem_append_left _ (List.mem_append_right _ h)))))))
theorem mX10_withPlaces_1 : Cond.fieldLink RX10 26 RX10 (TX10 2).2.1 (TX10 2).2.2.1 ∈ wsX10_withPlaces := List.mem_of_getElem? (i := 1) (by decide +kernel)
theorem nX10_withPlaces_0 : ∀ w ∈ wsX00, w ∈ wsX10_withPlaces := fun _ h => List.mem_cons_of_mem _ (List.mem_append_left _ (List.mem_append_left _ (List.mem_append_left _ (List.mem_append_left _ (List.mem_append_left _ (List.mem_append_right _ h))))))
theorem mX10_withPlaces_3 : Cond.fieldLink RX10 59 RX0 (TX0 1).2.1 (TX0 1).2.2.1 ∈ wsX10_withPlaces := List.mem_of_getElem? (i := 2) (by decide +kernel)
theorem dsc_X10_withPlaces : yX10_withPlaces.cls ≠ "java/lang/invoke/MethodHandle" ∧ yX10_withPlaces.cls ≠ "java/lang/invoke/VarHandle" ∧ (parseMethodDescriptor yX10_withPlaces.desc).map (fun d => d.parameters.length) = some 1 := by decide +kernel
def pX10_withPlaces_l37 (Po : Int64 → mm_T → Prop) (E37_61 : mm_T → Int64 → Int32 → Prop) (K37 : mm_T → Int64 → Int32 → Nat → Int32 → Prop) (μ : mm_T) (a1 : Int64) (a3 : Int32) (a4 : Nat) (a5 : Int32) : Prop := ((4 : Int32) < a5 → E37_61 μ a1 a3) ∧ (¬ ((4 : Int32) < a5) → (a4 < 7) ∧ (pX7_tell (fun r7 μ6 => pX10_with (fun r9 μ8 => K37 μ8 r9 a3 a4 (a5 + (1 : Int32))) μ6 a1 r7) μ a4 a5))
def pX10_withPlaces_l2 (Po : Int64 → mm_T → Prop) (E2_67 : mm_T → Int64 → Prop) (K2 : mm_T → Int64 → Int32 → Prop) (μ : mm_T) (a1 : Int64) (a3 : Int32) : Prop := ((μ.1 6 0 1) ≤ a3 → E2_67 μ a1) ∧ (¬ ((μ.1 6 0 1) ≤ a3) → pX0_isPlaced (fun r2 μ1 => (r2 = 0 → K2 μ1 a1 (a3 + (1 : Int32))) ∧ (¬ (r2 = 0) → pX0_placingOf (fun r4 μ3 => lp_ (fun (K9 : mm_T × Int64 × Int32 × Nat × Int32 → Prop) (t9 : mm_T × Int64 × Int32 × Nat × Int32) => pX10_withPlaces_l37 Po (fun μ c1 c3 => K2 μ c1 (c3 + (1 : Int32))) (fun μ a1 a3 a4 a5 => K9 (μ, a1, a3, a4, a5)) t9.1 t9.2.1 t9.2.2.1 t9.2.2.2.1 t9.2.2.2.2) (μ3, a1, a3, r4, (0 : Int32))) μ1 a3)) μ a3)
def pX10_withPlaces (Po : Int64 → mm_T → Prop) (μ : mm_T) (p1 : Int64) : Prop := lp_ (fun (K9 : mm_T × Int64 × Int32 → Prop) (t9 : mm_T × Int64 × Int32) => pX10_withPlaces_l2 Po (fun μ c1 => Po c1 μ) (fun μ a1 a3 => K9 (μ, a1, a3)) t9.1 t9.2.1 t9.2.2) (μ, p1, (0 : Int32))
set_option maxHeartbeats 4000000 in
set_option maxRecDepth 100000 in
theorem kX10_withPlaces (l : Launch) (p1 : Int64) : mm_CL l yX10_withPlaces wsX10_withPlaces ({ frames := 5, cells := 0, slots := 0, locals := 119 }) (fun z => [.ref (z + mm_ad 0 0), .long p1]) (fun μ Po => pX10_withPlaces Po μ p1) := by
  refine je_L (cc := cX10_withPlaces) (nL := 6) (own := RX10) (plainFor_of_name (by decide)) rfl rfl (fun _ => Nat.le_of_ble_eq_true rfl) ?_
  intro p e s m args below meth c D cy z μ Po C hr hk h
  change jJ p l e ({ frames := 5, cells := 0, slots := 0, locals := 119 }) s m args below meth c D cy z (MQ below (va_Ql Po (mm_Po D cy z) (mm_A z)) args s 0 0 (mm_A z)) 6 μ 0 [(0, .ref (z + mm_ad 0 0)), (1, .long p1)] []
  replace h : pX10_withPlaces Po μ p1 := h
  unfold pX10_withPlaces at h
  refine jr_iconst (q := 1) (v := (0 : Int32)) C dX10_withPlaces_0 (by decide) rfl ?_
  refine jr_istore_n (q := 2) (lv' := [(3, .int (0 : Int32)), (0, .ref (z + mm_ad 0 0)), (1, .long p1)]) C dX10_withPlaces_1 rfl (by decide) rfl rfl ?_
  have l2 : ∀ (E2_67 : mm_T → Int64 → Prop) (hE2_67 : ∀ (μ : mm_T) (c1 : Int64), E2_67 μ c1 → jJ p l e ({ frames := 5, cells := 0, slots := 0, locals := 119 }) s m args below meth c D cy z (MQ below (va_Ql Po (mm_Po D cy z) (mm_A z)) args s 0 0 (mm_A z)) 6 μ 67 [(1, .long c1)] []), ∀ t9 : mm_T × Int64 × Int32, lp_ (fun (K9 : mm_T × Int64 × Int32 → Prop) (t9 : mm_T × Int64 × Int32) => pX10_withPlaces_l2 Po E2_67 (fun μ a1 a3 => K9 (μ, a1, a3)) t9.1 t9.2.1 t9.2.2) t9 → jJ p l e ({ frames := 5, cells := 0, slots := 0, locals := 119 }) s m args below meth c D cy z (MQ below (va_Ql Po (mm_Po D cy z) (mm_A z)) args s 0 0 (mm_A z)) 6 t9.1 2 [(0, .ref (z + mm_ad 0 0)), (1, .long t9.2.1), (3, .int t9.2.2)] [] := by
    intro E2_67 hE2_67 t9 h
    refine lp_go (P := fun t9 : mm_T × Int64 × Int32 => jJ p l e ({ frames := 5, cells := 0, slots := 0, locals := 119 }) s m args below meth c D cy z (MQ below (va_Ql Po (mm_Po D cy z) (mm_A z)) args s 0 0 (mm_A z)) 6 t9.1 2 [(0, .ref (z + mm_ad 0 0)), (1, .long t9.2.1), (3, .int t9.2.2)] []) (fun K9 t9 hK h => ?_) t9 h
    obtain ⟨μ, a1, a3⟩ := t9
    obtain ⟨K2, eK2⟩ : ∃ K : mm_T → Int64 → Int32 → Prop, K = (fun μ a1 a3 => K9 (μ, a1, a3)) := ⟨_, rfl⟩
    have hK2 : ∀ (μ : mm_T) (a1 : Int64) (a3 : Int32), K2 μ a1 a3 → jJ p l e ({ frames := 5, cells := 0, slots := 0, locals := 119 }) s m args below meth c D cy z (MQ below (va_Ql Po (mm_Po D cy z) (mm_A z)) args s 0 0 (mm_A z)) 6 μ 2 [(0, .ref (z + mm_ad 0 0)), (1, .long a1), (3, .int a3)] [] := fun μ a1 a3 h9 => hK (μ, a1, a3) (by rw [eK2] at h9; exact h9)
    replace h : pX10_withPlaces_l2 Po E2_67 K2 μ a1 a3 := by rw [eK2]; exact h
    unfold pX10_withPlaces_l2 at h
    refine jr_iload_n (q := 3) C 2 dX10_withPlaces_2 rfl rfl rfl ?_
    refine jr_aload_n (q := 4) C 0 dX10_withPlaces_3 rfl rfl rfl ?_
    refine jr_getR (q := 7) (ci := 10) (Cn := RX10) (T := TX10) (N := 7) (j := 2) C mf_0 rfl rfl (by decide) rfl 6 0 rfl rfl rfl nX10_withPlaces_10 mX10_withPlaces_1 dX10_withPlaces_4 rfl rfl ?_
    refine jr_getI (q := 10) (ci := 0) (Cn := RX0) (T := TX0) (N := 11) (j := 1) C mf_6 rfl rfl (by decide) rfl rfl nX10_withPlaces_0 mX10_withPlaces_3 dX10_withPlaces_7 rfl rfl ?_
    refine jr_icmp_ge (q := 13) (tgt := 67) C dX10_withPlaces_10 (by decide) rfl (fun c12 => ?_) (fun c12 => ?_)
    · replace h := h.1 c12
      refine jr_sub [1] rfl ?_
      exact hE2_67 _ _ h
    · replace h := h.2 c12
      refine jr_aload_n (q := 14) C 0 dX10_withPlaces_13 rfl rfl rfl ?_
      refine jr_getR (q := 17) (ci := 10) (Cn := RX10) (T := TX10) (N := 7) (j := 2) C mf_0 rfl rfl (by decide) rfl 6 0 rfl rfl rfl nX10_withPlaces_10 mX10_withPlaces_1 dX10_withPlaces_14 rfl rfl ?_
      refine jr_iload_n (q := 18) C 2 dX10_withPlaces_17 rfl rfl rfl ?_
      refine jr_cvI (q := 21) (As := [.int a3]) (rest := []) C (f := 6) (i := 0) (ci := 0) mf_6 rfl rfl rfl (kX0_isPlaced l a3) rfl gX10_withPlaces_X0_isPlaced rfl dsc_X0_isPlaced ⟨rfl, rfl⟩ ⟨by decide, by decide⟩ rfl rfl (Nat.le_of_ble_eq_true rfl) dX10_withPlaces_18 rfl h (fun r2 μ1 h => ?_)
      refine jr_if_eq (q := 24) (tgt := 61) C dX10_withPlaces_21 (by decide) rfl (fun c11 => ?_) (fun c11 => ?_)
      · replace h := h.1 c11
        refine jr_iinc (q := 64) (lv' := [(3, .int (a3 + (1 : Int32))), (0, .ref (z + mm_ad 0 0)), (1, .long a1)]) C 2 dX10_withPlaces_61 rfl (by rfl) (by decide) rfl rfl ?_
        refine jr_goto (tgt := 2) C dX10_withPlaces_64 (by decide) ?_
        refine jr_sub [1, 2, 0] rfl ?_
        exact hK2 _ _ _ h
      · replace h := h.2 c11
        refine jr_aload_n (q := 25) C 0 dX10_withPlaces_24 rfl rfl rfl ?_
        refine jr_getR (q := 28) (ci := 10) (Cn := RX10) (T := TX10) (N := 7) (j := 2) C mf_0 rfl rfl (by decide) rfl 6 0 rfl rfl rfl nX10_withPlaces_10 mX10_withPlaces_1 dX10_withPlaces_25 rfl rfl ?_
        refine jr_iload_n (q := 29) C 2 dX10_withPlaces_28 rfl rfl rfl ?_
        refine jr_cvR (q := 32) (f0 := 10) (As := [.int a3]) (rest := []) C (f := 6) (i := 0) (ci := 0) mf_6 rfl rfl rfl (kX0_placingOf l a3) rfl gX10_withPlaces_X0_placingOf rfl dsc_X0_placingOf ⟨rfl, rfl⟩ ⟨by decide, by decide⟩ rfl rfl (Nat.le_of_ble_eq_true rfl) dX10_withPlaces_29 rfl h (fun r4 μ3 h => ?_)
        refine jr_astore (q := 34) (lv' := [(4, .ref (z + mm_ad 10 r4)), (0, .ref (z + mm_ad 0 0)), (1, .long a1), (3, .int a3)]) C dX10_withPlaces_32 (by decide) rfl rfl ?_
        refine jr_iconst (q := 35) (v := (0 : Int32)) C dX10_withPlaces_34 (by decide) rfl ?_
        refine jr_istore (q := 37) (lv' := [(5, .int (0 : Int32)), (4, .ref (z + mm_ad 10 r4)), (0, .ref (z + mm_ad 0 0)), (1, .long a1), (3, .int a3)]) C dX10_withPlaces_35 (by decide) rfl rfl ?_
        have l37 : ∀ (E37_61 : mm_T → Int64 → Int32 → Prop) (hE37_61 : ∀ (μ : mm_T) (c1 : Int64) (c3 : Int32), E37_61 μ c1 c3 → jJ p l e ({ frames := 5, cells := 0, slots := 0, locals := 119 }) s m args below meth c D cy z (MQ below (va_Ql Po (mm_Po D cy z) (mm_A z)) args s 0 0 (mm_A z)) 6 μ 61 [(0, .ref (z + mm_ad 0 0)), (1, .long c1), (3, .int c3)] []), ∀ t9 : mm_T × Int64 × Int32 × Nat × Int32, lp_ (fun (K9 : mm_T × Int64 × Int32 × Nat × Int32 → Prop) (t9 : mm_T × Int64 × Int32 × Nat × Int32) => pX10_withPlaces_l37 Po E37_61 (fun μ a1 a3 a4 a5 => K9 (μ, a1, a3, a4, a5)) t9.1 t9.2.1 t9.2.2.1 t9.2.2.2.1 t9.2.2.2.2) t9 → jJ p l e ({ frames := 5, cells := 0, slots := 0, locals := 119 }) s m args below meth c D cy z (MQ below (va_Ql Po (mm_Po D cy z) (mm_A z)) args s 0 0 (mm_A z)) 6 t9.1 37 [(0, .ref (z + mm_ad 0 0)), (1, .long t9.2.1), (3, .int t9.2.2.1), (4, .ref (z + mm_ad 10 t9.2.2.2.1)), (5, .int t9.2.2.2.2)] [] := by
          intro E37_61 hE37_61 t9 h
          refine lp_go (P := fun t9 : mm_T × Int64 × Int32 × Nat × Int32 => jJ p l e ({ frames := 5, cells := 0, slots := 0, locals := 119 }) s m args below meth c D cy z (MQ below (va_Ql Po (mm_Po D cy z) (mm_A z)) args s 0 0 (mm_A z)) 6 t9.1 37 [(0, .ref (z + mm_ad 0 0)), (1, .long t9.2.1), (3, .int t9.2.2.1), (4, .ref (z + mm_ad 10 t9.2.2.2.1)), (5, .int t9.2.2.2.2)] []) (fun K9 t9 hK h => ?_) t9 h
          obtain ⟨μ, a1, a3, a4, a5⟩ := t9
          obtain ⟨K37, eK37⟩ : ∃ K : mm_T → Int64 → Int32 → Nat → Int32 → Prop, K = (fun μ a1 a3 a4 a5 => K9 (μ, a1, a3, a4, a5)) := ⟨_, rfl⟩
          have hK37 : ∀ (μ : mm_T) (a1 : Int64) (a3 : Int32) (a4 : Nat) (a5 : Int32), K37 μ a1 a3 a4 a5 → jJ p l e ({ frames := 5, cells := 0, slots := 0, locals := 119 }) s m args below meth c D cy z (MQ below (va_Ql Po (mm_Po D cy z) (mm_A z)) args s 0 0 (mm_A z)) 6 μ 37 [(0, .ref (z + mm_ad 0 0)), (1, .long a1), (3, .int a3), (4, .ref (z + mm_ad 10 a4)), (5, .int a5)] [] := fun μ a1 a3 a4 a5 h9 => hK (μ, a1, a3, a4, a5) (by rw [eK37] at h9; exact h9)
          replace h : pX10_withPlaces_l37 Po E37_61 K37 μ a1 a3 a4 a5 := by rw [eK37]; exact h
          unfold pX10_withPlaces_l37 at h
          refine jr_iload (q := 39) C 4 dX10_withPlaces_37 rfl rfl ?_
          refine jr_iconst (q := 40) (v := (4 : Int32)) C dX10_withPlaces_39 (by decide) rfl ?_
          refine jr_icmp_gt (q := 43) (tgt := 61) C dX10_withPlaces_40 (by decide) rfl (fun c10 => ?_) (fun c10 => ?_)
          · replace h := h.1 c10
            refine jr_sub [0, 1, 2] rfl ?_
            exact hE37_61 _ _ _ h
          · replace h := h.2 c10
            refine jr_lload_n (q := 44) C 1 dX10_withPlaces_43 rfl rfl rfl ?_
            refine jr_aload (q := 46) C 3 dX10_withPlaces_44 rfl rfl ?_
            refine jr_iload (q := 48) C 4 dX10_withPlaces_46 rfl rfl ?_
            obtain ⟨g5, h⟩ := h
            refine jr_cvI (q := 51) (As := [.int a5]) (rest := [.long a1]) C (f := 10) (i := a4) (ci := 7) g5 rfl rfl rfl (kX7_tell l a4 a5) rfl gX10_withPlaces_X7_tell rfl dsc_X7_tell ⟨rfl, rfl⟩ ⟨by decide, by decide⟩ rfl rfl (Nat.le_of_ble_eq_true rfl) dX10_withPlaces_48 rfl h (fun r7 μ6 h => ?_)
            refine jr_csL (q := 54) (As := [.long a1, .int r7]) (rest := []) C  (kX10_with l a1 r7) rfl gX10_withPlaces_X10_with rfl dsc_X10_with ⟨rfl, rfl⟩ ⟨by decide, by decide⟩ rfl rfl (Nat.le_of_ble_eq_true rfl) dX10_withPlaces_51 rfl h (fun r9 μ8 h => ?_)
            refine jr_lstore_n (q := 55) (lv' := [(1, .long r9), (0, .ref (z + mm_ad 0 0)), (3, .int a3), (4, .ref (z + mm_ad 10 a4)), (5, .int a5)]) C dX10_withPlaces_54 rfl (by decide) rfl rfl ?_
            refine jr_iinc (q := 58) (lv' := [(5, .int (a5 + (1 : Int32))), (1, .long r9), (0, .ref (z + mm_ad 0 0)), (3, .int a3), (4, .ref (z + mm_ad 10 a4))]) C 4 dX10_withPlaces_55 rfl (by rfl) (by decide) rfl rfl ?_
            refine jr_goto (tgt := 37) C dX10_withPlaces_58 (by decide) ?_
            refine jr_sub [2, 1, 3, 4, 0] rfl ?_
            exact hK37 _ _ _ _ _ h
        have x37_61 : ∀ (μ : mm_T) (c1 : Int64) (c3 : Int32), (K2 μ c1 (c3 + (1 : Int32))) → jJ p l e ({ frames := 5, cells := 0, slots := 0, locals := 119 }) s m args below meth c D cy z (MQ below (va_Ql Po (mm_Po D cy z) (mm_A z)) args s 0 0 (mm_A z)) 6 μ 61 [(0, .ref (z + mm_ad 0 0)), (1, .long c1), (3, .int c3)] [] := by
          intro μ c1 c3 h
          refine jr_iinc (q := 64) (lv' := [(3, .int (c3 + (1 : Int32))), (0, .ref (z + mm_ad 0 0)), (1, .long c1)]) C 2 dX10_withPlaces_61 rfl (by rfl) (by decide) rfl rfl ?_
          refine jr_goto (tgt := 2) C dX10_withPlaces_64 (by decide) ?_
          refine jr_sub [1, 2, 0] rfl ?_
          exact hK2 _ _ _ h
        refine jr_sub [2, 3, 4, 1, 0] rfl ?_
        exact l37 _ x37_61 _ h
  have x2_67 : ∀ (μ : mm_T) (c1 : Int64), (Po c1 μ) → jJ p l e ({ frames := 5, cells := 0, slots := 0, locals := 119 }) s m args below meth c D cy z (MQ below (va_Ql Po (mm_Po D cy z) (mm_A z)) args s 0 0 (mm_A z)) 6 μ 67 [(1, .long c1)] [] := by
    intro μ c1 h
    refine jr_lload_n (q := 68) C 0 dX10_withPlaces_67 rfl rfl rfl ?_
    exact jr_lret C hr hk dX10_withPlaces_68 h
  refine jr_sub [1, 2, 0] rfl ?_
  exact l2 _ x2_67 _ h
theorem dsc_X10_withSlots : yX10_withSlots.cls ≠ "java/lang/invoke/MethodHandle" ∧ yX10_withSlots.cls ≠ "java/lang/invoke/VarHandle" ∧ (parseMethodDescriptor yX10_withSlots.desc).map (fun d => d.parameters.length) = some 1 := by decide +kernel
def pX10_withSlots_l2 (Po : Int64 → mm_T → Prop) (E2_24 : mm_T → Int64 → Prop) (K2 : mm_T → Int64 → Int32 → Prop) (μ : mm_T) (a1 : Int64) (a3 : Int32) : Prop := ((16 : Int32) ≤ a3 → E2_24 μ a1) ∧ (¬ ((16 : Int32) ≤ a3) → pX10_slot (fun r2 μ1 => pX10_with (fun r4 μ3 => K2 μ3 r4 (a3 + (1 : Int32))) μ1 a1 r2) μ a3)
def pX10_withSlots (Po : Int64 → mm_T → Prop) (μ : mm_T) (p1 : Int64) : Prop := lp_ (fun (K9 : mm_T × Int64 × Int32 → Prop) (t9 : mm_T × Int64 × Int32) => pX10_withSlots_l2 Po (fun μ c1 => Po c1 μ) (fun μ a1 a3 => K9 (μ, a1, a3)) t9.1 t9.2.1 t9.2.2) (μ, p1, (0 : Int32))
set_option maxHeartbeats 4000000 in
set_option maxRecDepth 100000 in
theorem kX10_withSlots (l : Launch) (p1 : Int64) : mm_CL l yX10_withSlots wsX10_withSlots ({ frames := 2, cells := 0, slots := 0, locals := 41 }) (fun z => [.ref (z + mm_ad 0 0), .long p1]) (fun μ Po => pX10_withSlots Po μ p1) := by
  refine je_L (cc := cX10_withSlots) (nL := 4) (own := RX10) (plainFor_of_name (by decide)) rfl rfl (fun _ => Nat.le_of_ble_eq_true rfl) ?_
  intro p e s m args below meth c D cy z μ Po C hr hk h
  change jJ p l e ({ frames := 2, cells := 0, slots := 0, locals := 41 }) s m args below meth c D cy z (MQ below (va_Ql Po (mm_Po D cy z) (mm_A z)) args s 0 0 (mm_A z)) 4 μ 0 [(0, .ref (z + mm_ad 0 0)), (1, .long p1)] []
  replace h : pX10_withSlots Po μ p1 := h
  unfold pX10_withSlots at h
  refine jr_iconst (q := 1) (v := (0 : Int32)) C dX10_withSlots_0 (by decide) rfl ?_
  refine jr_istore_n (q := 2) (lv' := [(3, .int (0 : Int32)), (0, .ref (z + mm_ad 0 0)), (1, .long p1)]) C dX10_withSlots_1 rfl (by decide) rfl rfl ?_
  have l2 : ∀ (E2_24 : mm_T → Int64 → Prop) (hE2_24 : ∀ (μ : mm_T) (c1 : Int64), E2_24 μ c1 → jJ p l e ({ frames := 2, cells := 0, slots := 0, locals := 41 }) s m args below meth c D cy z (MQ below (va_Ql Po (mm_Po D cy z) (mm_A z)) args s 0 0 (mm_A z)) 4 μ 24 [(1, .long c1)] []), ∀ t9 : mm_T × Int64 × Int32, lp_ (fun (K9 : mm_T × Int64 × Int32 → Prop) (t9 : mm_T × Int64 × Int32) => pX10_withSlots_l2 Po E2_24 (fun μ a1 a3 => K9 (μ, a1, a3)) t9.1 t9.2.1 t9.2.2) t9 → jJ p l e ({ frames := 2, cells := 0, slots := 0, locals := 41 }) s m args below meth c D cy z (MQ below (va_Ql Po (mm_Po D cy z) (mm_A z)) args s 0 0 (mm_A z)) 4 t9.1 2 [(0, .ref (z + mm_ad 0 0)), (1, .long t9.2.1), (3, .int t9.2.2)] [] := by
    intro E2_24 hE2_24 t9 h
    refine lp_go (P := fun t9 : mm_T × Int64 × Int32 => jJ p l e ({ frames := 2, cells := 0, slots := 0, locals := 41 }) s m args below meth c D cy z (MQ below (va_Ql Po (mm_Po D cy z) (mm_A z)) args s 0 0 (mm_A z)) 4 t9.1 2 [(0, .ref (z + mm_ad 0 0)), (1, .long t9.2.1), (3, .int t9.2.2)] []) (fun K9 t9 hK h => ?_) t9 h
    obtain ⟨μ, a1, a3⟩ := t9
    obtain ⟨K2, eK2⟩ : ∃ K : mm_T → Int64 → Int32 → Prop, K = (fun μ a1 a3 => K9 (μ, a1, a3)) := ⟨_, rfl⟩
    have hK2 : ∀ (μ : mm_T) (a1 : Int64) (a3 : Int32), K2 μ a1 a3 → jJ p l e ({ frames := 2, cells := 0, slots := 0, locals := 41 }) s m args below meth c D cy z (MQ below (va_Ql Po (mm_Po D cy z) (mm_A z)) args s 0 0 (mm_A z)) 4 μ 2 [(0, .ref (z + mm_ad 0 0)), (1, .long a1), (3, .int a3)] [] := fun μ a1 a3 h9 => hK (μ, a1, a3) (by rw [eK2] at h9; exact h9)
    replace h : pX10_withSlots_l2 Po E2_24 K2 μ a1 a3 := by rw [eK2]; exact h
    unfold pX10_withSlots_l2 at h
    refine jr_iload_n (q := 3) C 2 dX10_withSlots_2 rfl rfl rfl ?_
    refine jr_bipush (q := 5) (v := (16 : Int32)) C dX10_withSlots_3 (by decide) rfl ?_
    refine jr_icmp_ge (q := 8) (tgt := 24) C dX10_withSlots_5 (by decide) rfl (fun c5 => ?_) (fun c5 => ?_)
    · replace h := h.1 c5
      refine jr_sub [1] rfl ?_
      exact hE2_24 _ _ h
    · replace h := h.2 c5
      refine jr_lload_n (q := 9) C 1 dX10_withSlots_8 rfl rfl rfl ?_
      refine jr_aload_n (q := 10) C 0 dX10_withSlots_9 rfl rfl rfl ?_
      refine jr_iload_n (q := 11) C 2 dX10_withSlots_10 rfl rfl rfl ?_
      refine jr_cvI (q := 14) (As := [.int a3]) (rest := [.long a1]) C (f := 0) (i := 0) (ci := 10) mf_0 rfl rfl rfl (kX10_slot l a3) rfl gX10_withSlots_X10_slot rfl dsc_X10_slot ⟨rfl, rfl⟩ ⟨by decide, by decide⟩ rfl rfl (Nat.le_of_ble_eq_true rfl) dX10_withSlots_11 rfl h (fun r2 μ1 h => ?_)
      refine jr_csL (q := 17) (As := [.long a1, .int r2]) (rest := []) C  (kX10_with l a1 r2) rfl gX10_withSlots_X10_with rfl dsc_X10_with ⟨rfl, rfl⟩ ⟨by decide, by decide⟩ rfl rfl (Nat.le_of_ble_eq_true rfl) dX10_withSlots_14 rfl h (fun r4 μ3 h => ?_)
      refine jr_lstore_n (q := 18) (lv' := [(1, .long r4), (0, .ref (z + mm_ad 0 0)), (3, .int a3)]) C dX10_withSlots_17 rfl (by decide) rfl rfl ?_
      refine jr_iinc (q := 21) (lv' := [(3, .int (a3 + (1 : Int32))), (1, .long r4), (0, .ref (z + mm_ad 0 0))]) C 2 dX10_withSlots_18 rfl (by rfl) (by decide) rfl rfl ?_
      refine jr_goto (tgt := 2) C dX10_withSlots_21 (by decide) ?_
      refine jr_sub [2, 1, 0] rfl ?_
      exact hK2 _ _ _ h
  have x2_24 : ∀ (μ : mm_T) (c1 : Int64), (Po c1 μ) → jJ p l e ({ frames := 2, cells := 0, slots := 0, locals := 41 }) s m args below meth c D cy z (MQ below (va_Ql Po (mm_Po D cy z) (mm_A z)) args s 0 0 (mm_A z)) 4 μ 24 [(1, .long c1)] [] := by
    intro μ c1 h
    refine jr_lload_n (q := 25) C 0 dX10_withSlots_24 rfl rfl rfl ?_
    exact jr_lret C hr hk dX10_withSlots_25 h
  refine jr_sub [1, 2, 0] rfl ?_
  exact l2 _ x2_24 _ h
theorem mX10_digest_0 : Cond.constantLong RX10 222 (1601) ∈ wsX10_digest := List.mem_of_getElem? (i := 1) (by decide +kernel)
theorem nX10_digest_10 : ∀ w ∈ wsX100, w ∈ wsX10_digest := fun _ h => List.mem_cons_of_mem _ (List.mem_append_left _ (List.mem_append_left _ (List.mem_append_left _ (List.mem_append_left _ (List.mem_append_left _ (List.mem_append_left _ (List.mem_append_left _ (List.mem_append_left _ (List.mem_append_left _ (List.mem_append_right _ h))))))))))
theorem mX10_digest_2 : Cond.fieldLink RX10 26 RX10 (TX10 2).2.1 (TX10 2).2.2.1 ∈ wsX10_digest := List.mem_of_getElem? (i := 2) (by decide +kernel)
theorem mX10_digest_3 : Cond.fieldLink RX10 12 RX10 (TX10 0).2.1 (TX10 0).2.2.1 ∈ wsX10_digest := List.mem_of_getElem? (i := 3) (by decide +kernel)
theorem nX10_digest_6 : ∀ w ∈ wsX60, w ∈ wsX10_digest := fun _ h => List.mem_cons_of_mem _ (List.mem_append_left _ (List.mem_append_left _ (List.mem_append_left _ (List.mem_append_left _ (List.mem_append_left _ (List.mem_append_left _ (List.mem_append_left _ (List.mem_append_left _ (List.mem_append_right _ h)))))))))
theorem mX10_digest_5 : Cond.fieldLink RX10 31 RX6 (TX6 1).2.1 (TX6 1).2.2.1 ∈ wsX10_digest := List.mem_of_getElem? (i := 4) (by decide +kernel)
theorem mX10_digest_6 : Cond.fieldLink RX10 239 RX6 (TX6 0).2.1 (TX6 0).2.2.1 ∈ wsX10_digest := List.mem_of_getElem? (i := 5) (by decide +kernel)
theorem dsc_X10_digest : yX10_digest.cls ≠ "java/lang/invoke/MethodHandle" ∧ yX10_digest.cls ≠ "java/lang/invoke/VarHandle" ∧ (parseMethodDescriptor yX10_digest.desc).map (fun d => d.parameters.length) = some 0 := by decide +kernel
def pX10_digest_l79 (Po : Int64 → mm_T → Prop) (E79_100 : mm_T → Int64 → Prop) (K79 : mm_T → Int64 → Int32 → Prop) (μ : mm_T) (a1 : Int64) (a3 : Int32) : Prop := ((4 : Int32) < a3 → E79_100 μ a1) ∧ (¬ ((4 : Int32) < a3) → pX10_count (fun r4 μ3 => pX10_with (fun r6 μ5 => K79 μ5 r6 (a3 + (1 : Int32))) μ3 a1 r4) μ a3)
def pX10_digest_l46 (Po : Int64 → mm_T → Prop) (E46_77 : mm_T → Int64 → Prop) (K46 : mm_T → Int64 → Int32 → Prop) (μ : mm_T) (a1 : Int64) (a3 : Int32) : Prop := ((μ.1 1 0 1) ≤ a3 → E46_77 μ a1) ∧ (¬ ((μ.1 1 0 1) ≤ a3) → (vp_in a3 110) ∧ (pX10_with (fun r10 μ9 => K46 μ9 r10 (a3 + (1 : Int32))) μ a1 (μ.1 2 0 a3.toNatClampNeg)))
def pX10_digest_b44 (Po : Int64 → mm_T → Prop) (μ : mm_T) (a1 : Int64) : Prop := lp_ (fun (K9 : mm_T × Int64 × Int32 → Prop) (t9 : mm_T × Int64 × Int32) => pX10_digest_l46 Po (fun μ c1 => lp_ (fun (K9 : mm_T × Int64 × Int32 → Prop) (t9 : mm_T × Int64 × Int32) => pX10_digest_l79 Po (fun μ c1 => Po c1 μ) (fun μ a1 a3 => K9 (μ, a1, a3)) t9.1 t9.2.1 t9.2.2) (μ, c1, (0 : Int32))) (fun μ a1 a3 => K9 (μ, a1, a3)) t9.1 t9.2.1 t9.2.2) (μ, a1, (0 : Int32))
def pX10_digest (Po : Int64 → mm_T → Prop) (μ : mm_T) : Prop := pX0_isRead (fun r2 μ1 => (r2 = 0 → pX10_digest_b44 Po μ1 (1601 : Int64)) ∧ (¬ (r2 = 0) → pX10_withNodes (fun r13 μ12 => pX10_withPairs (fun r15 μ14 => pX10_withLatest (fun r17 μ16 => pX10_withPlaces (fun r19 μ18 => pX10_withSlots (fun r21 μ20 => pX10_digest_b44 Po μ20 r21) μ18 r19) μ16 r17) μ14 r15) μ12 r13) μ1 (1601 : Int64))) μ 
set_option maxHeartbeats 4000000 in
set_option maxRecDepth 100000 in
theorem kX10_digest (l : Launch) : mm_CL l yX10_digest wsX10_digest ({ frames := 6, cells := 0, slots := 0, locals := 144 }) (fun z => [.ref (z + mm_ad 0 0)]) (fun μ Po => pX10_digest Po μ) := by
  refine je_L (cc := cX10_digest) (nL := 4) (own := RX10) (plainFor_of_name (by decide)) rfl rfl (fun _ => Nat.le_of_ble_eq_true rfl) ?_
  intro p e s m args below meth c D cy z μ Po C hr hk h
  change jJ p l e ({ frames := 6, cells := 0, slots := 0, locals := 144 }) s m args below meth c D cy z (MQ below (va_Ql Po (mm_Po D cy z) (mm_A z)) args s 0 0 (mm_A z)) 4 μ 0 [(0, .ref (z + mm_ad 0 0))] []
  replace h : pX10_digest Po μ := h
  unfold pX10_digest at h
  refine jr_ldc2 (q := 3) (v := (1601 : Int64)) C dX10_digest_0 mX10_digest_0 rfl ?_
  refine jr_lstore_n (q := 4) (lv' := [(1, .long (1601 : Int64)), (0, .ref (z + mm_ad 0 0))]) C dX10_digest_3 rfl (by decide) rfl rfl ?_
  refine jr_aload_n (q := 5) C 1 dX10_digest_4 rfl rfl rfl ?_
  refine jr_getR (q := 8) (ci := 10) (Cn := RX10) (T := TX10) (N := 7) (j := 2) C mf_0 rfl rfl (by decide) rfl 6 0 rfl rfl rfl nX10_digest_10 mX10_digest_2 dX10_digest_5 rfl rfl ?_
  refine jr_cvI (q := 11) (As := []) (rest := []) C (f := 6) (i := 0) (ci := 0) mf_6 rfl rfl rfl (kX0_isRead l) rfl gX10_digest_X0_isRead rfl dsc_X0_isRead ⟨rfl, rfl⟩ ⟨by decide, by decide⟩ rfl rfl (Nat.le_of_ble_eq_true rfl) dX10_digest_8 rfl h (fun r2 μ1 h => ?_)
  have b44 : ∀ (μ : mm_T) (a1 : Int64), pX10_digest_b44 Po μ a1 → jJ p l e ({ frames := 6, cells := 0, slots := 0, locals := 144 }) s m args below meth c D cy z (MQ below (va_Ql Po (mm_Po D cy z) (mm_A z)) args s 0 0 (mm_A z)) 4 μ 44 [(0, .ref (z + mm_ad 0 0)), (1, .long a1)] [] := by
    intro μ a1 h
    unfold pX10_digest_b44 at h
    refine jr_iconst (q := 45) (v := (0 : Int32)) C dX10_digest_44 (by decide) rfl ?_
    refine jr_istore_n (q := 46) (lv' := [(3, .int (0 : Int32)), (0, .ref (z + mm_ad 0 0)), (1, .long a1)]) C dX10_digest_45 rfl (by decide) rfl rfl ?_
    have l46 : ∀ (E46_77 : mm_T → Int64 → Prop) (hE46_77 : ∀ (μ : mm_T) (c1 : Int64), E46_77 μ c1 → jJ p l e ({ frames := 6, cells := 0, slots := 0, locals := 144 }) s m args below meth c D cy z (MQ below (va_Ql Po (mm_Po D cy z) (mm_A z)) args s 0 0 (mm_A z)) 4 μ 77 [(0, .ref (z + mm_ad 0 0)), (1, .long c1)] []), ∀ t9 : mm_T × Int64 × Int32, lp_ (fun (K9 : mm_T × Int64 × Int32 → Prop) (t9 : mm_T × Int64 × Int32) => pX10_digest_l46 Po E46_77 (fun μ a1 a3 => K9 (μ, a1, a3)) t9.1 t9.2.1 t9.2.2) t9 → jJ p l e ({ frames := 6, cells := 0, slots := 0, locals := 144 }) s m args below meth c D cy z (MQ below (va_Ql Po (mm_Po D cy z) (mm_A z)) args s 0 0 (mm_A z)) 4 t9.1 46 [(0, .ref (z + mm_ad 0 0)), (1, .long t9.2.1), (3, .int t9.2.2)] [] := by
      intro E46_77 hE46_77 t9 h
      refine lp_go (P := fun t9 : mm_T × Int64 × Int32 => jJ p l e ({ frames := 6, cells := 0, slots := 0, locals := 144 }) s m args below meth c D cy z (MQ below (va_Ql Po (mm_Po D cy z) (mm_A z)) args s 0 0 (mm_A z)) 4 t9.1 46 [(0, .ref (z + mm_ad 0 0)), (1, .long t9.2.1), (3, .int t9.2.2)] []) (fun K9 t9 hK h => ?_) t9 h
      obtain ⟨μ, a1, a3⟩ := t9
      obtain ⟨K46, eK46⟩ : ∃ K : mm_T → Int64 → Int32 → Prop, K = (fun μ a1 a3 => K9 (μ, a1, a3)) := ⟨_, rfl⟩
      have hK46 : ∀ (μ : mm_T) (a1 : Int64) (a3 : Int32), K46 μ a1 a3 → jJ p l e ({ frames := 6, cells := 0, slots := 0, locals := 144 }) s m args below meth c D cy z (MQ below (va_Ql Po (mm_Po D cy z) (mm_A z)) args s 0 0 (mm_A z)) 4 μ 46 [(0, .ref (z + mm_ad 0 0)), (1, .long a1), (3, .int a3)] [] := fun μ a1 a3 h9 => hK (μ, a1, a3) (by rw [eK46] at h9; exact h9)
      replace h : pX10_digest_l46 Po E46_77 K46 μ a1 a3 := by rw [eK46]; exact h
      unfold pX10_digest_l46 at h
      refine jr_iload_n (q := 47) C 2 dX10_digest_46 rfl rfl rfl ?_
      refine jr_aload_n (q := 48) C 0 dX10_digest_47 rfl rfl rfl ?_
      refine jr_getR (q := 51) (ci := 10) (Cn := RX10) (T := TX10) (N := 7) (j := 0) C mf_0 rfl rfl (by decide) rfl 1 0 rfl rfl rfl nX10_digest_10 mX10_digest_3 dX10_digest_48 rfl rfl ?_
      refine jr_getI (q := 54) (ci := 6) (Cn := RX6) (T := TX6) (N := 2) (j := 1) C mf_1 rfl rfl (by decide) rfl rfl nX10_digest_6 mX10_digest_5 dX10_digest_51 rfl rfl ?_
      refine jr_icmp_ge (q := 57) (tgt := 77) C dX10_digest_54 (by decide) rfl (fun c11 => ?_) (fun c11 => ?_)
      · replace h := h.1 c11
        refine jr_sub [0, 1] rfl ?_
        exact hE46_77 _ _ h
      · replace h := h.2 c11
        refine jr_lload_n (q := 58) C 1 dX10_digest_57 rfl rfl rfl ?_
        refine jr_aload_n (q := 59) C 0 dX10_digest_58 rfl rfl rfl ?_
        refine jr_getR (q := 62) (ci := 10) (Cn := RX10) (T := TX10) (N := 7) (j := 0) C mf_0 rfl rfl (by decide) rfl 1 0 rfl rfl rfl nX10_digest_10 mX10_digest_3 dX10_digest_59 rfl rfl ?_
        refine jr_getR (q := 65) (ci := 6) (Cn := RX6) (T := TX6) (N := 2) (j := 0) C mf_1 rfl rfl (by decide) rfl 2 0 rfl rfl rfl nX10_digest_6 mX10_digest_6 dX10_digest_62 rfl rfl ?_
        refine jr_iload_n (q := 66) C 2 dX10_digest_65 rfl rfl rfl ?_
        obtain ⟨g8, h⟩ := h
        refine jr_iald (q := 67) C mf_2 rfl g8 dX10_digest_66 rfl ?_
        refine jr_csL (q := 70) (As := [.long a1, .int (μ.1 2 0 a3.toNatClampNeg)]) (rest := []) C  (kX10_with l a1 (μ.1 2 0 a3.toNatClampNeg)) rfl gX10_digest_X10_with rfl dsc_X10_with ⟨rfl, rfl⟩ ⟨by decide, by decide⟩ rfl rfl (Nat.le_of_ble_eq_true rfl) dX10_digest_67 rfl h (fun r10 μ9 h => ?_)
        refine jr_lstore_n (q := 71) (lv' := [(1, .long r10), (0, .ref (z + mm_ad 0 0)), (3, .int a3)]) C dX10_digest_70 rfl (by decide) rfl rfl ?_
        refine jr_iinc (q := 74) (lv' := [(3, .int (a3 + (1 : Int32))), (1, .long r10), (0, .ref (z + mm_ad 0 0))]) C 2 dX10_digest_71 rfl (by rfl) (by decide) rfl rfl ?_
        refine jr_goto (tgt := 46) C dX10_digest_74 (by decide) ?_
        refine jr_sub [2, 1, 0] rfl ?_
        exact hK46 _ _ _ h
    have x46_77 : ∀ (μ : mm_T) (c1 : Int64), (lp_ (fun (K9 : mm_T × Int64 × Int32 → Prop) (t9 : mm_T × Int64 × Int32) => pX10_digest_l79 Po (fun μ c1 => Po c1 μ) (fun μ a1 a3 => K9 (μ, a1, a3)) t9.1 t9.2.1 t9.2.2) (μ, c1, (0 : Int32))) → jJ p l e ({ frames := 6, cells := 0, slots := 0, locals := 144 }) s m args below meth c D cy z (MQ below (va_Ql Po (mm_Po D cy z) (mm_A z)) args s 0 0 (mm_A z)) 4 μ 77 [(0, .ref (z + mm_ad 0 0)), (1, .long c1)] [] := by
      intro μ c1 h
      refine jr_iconst (q := 78) (v := (0 : Int32)) C dX10_digest_77 (by decide) rfl ?_
      refine jr_istore_n (q := 79) (lv' := [(3, .int (0 : Int32)), (0, .ref (z + mm_ad 0 0)), (1, .long c1)]) C dX10_digest_78 rfl (by decide) rfl rfl ?_
      have l79 : ∀ (E79_100 : mm_T → Int64 → Prop) (hE79_100 : ∀ (μ : mm_T) (c1 : Int64), E79_100 μ c1 → jJ p l e ({ frames := 6, cells := 0, slots := 0, locals := 144 }) s m args below meth c D cy z (MQ below (va_Ql Po (mm_Po D cy z) (mm_A z)) args s 0 0 (mm_A z)) 4 μ 100 [(1, .long c1)] []), ∀ t9 : mm_T × Int64 × Int32, lp_ (fun (K9 : mm_T × Int64 × Int32 → Prop) (t9 : mm_T × Int64 × Int32) => pX10_digest_l79 Po E79_100 (fun μ a1 a3 => K9 (μ, a1, a3)) t9.1 t9.2.1 t9.2.2) t9 → jJ p l e ({ frames := 6, cells := 0, slots := 0, locals := 144 }) s m args below meth c D cy z (MQ below (va_Ql Po (mm_Po D cy z) (mm_A z)) args s 0 0 (mm_A z)) 4 t9.1 79 [(0, .ref (z + mm_ad 0 0)), (1, .long t9.2.1), (3, .int t9.2.2)] [] := by
        intro E79_100 hE79_100 t9 h
        refine lp_go (P := fun t9 : mm_T × Int64 × Int32 => jJ p l e ({ frames := 6, cells := 0, slots := 0, locals := 144 }) s m args below meth c D cy z (MQ below (va_Ql Po (mm_Po D cy z) (mm_A z)) args s 0 0 (mm_A z)) 4 t9.1 79 [(0, .ref (z + mm_ad 0 0)), (1, .long t9.2.1), (3, .int t9.2.2)] []) (fun K9 t9 hK h => ?_) t9 h
        obtain ⟨μ, a1, a3⟩ := t9
        obtain ⟨K79, eK79⟩ : ∃ K : mm_T → Int64 → Int32 → Prop, K = (fun μ a1 a3 => K9 (μ, a1, a3)) := ⟨_, rfl⟩
        have hK79 : ∀ (μ : mm_T) (a1 : Int64) (a3 : Int32), K79 μ a1 a3 → jJ p l e ({ frames := 6, cells := 0, slots := 0, locals := 144 }) s m args below meth c D cy z (MQ below (va_Ql Po (mm_Po D cy z) (mm_A z)) args s 0 0 (mm_A z)) 4 μ 79 [(0, .ref (z + mm_ad 0 0)), (1, .long a1), (3, .int a3)] [] := fun μ a1 a3 h9 => hK (μ, a1, a3) (by rw [eK79] at h9; exact h9)
        replace h : pX10_digest_l79 Po E79_100 K79 μ a1 a3 := by rw [eK79]; exact h
        unfold pX10_digest_l79 at h
        refine jr_iload_n (q := 80) C 2 dX10_digest_79 rfl rfl rfl ?_
        refine jr_iconst (q := 81) (v := (4 : Int32)) C dX10_digest_80 (by decide) rfl ?_
        refine jr_icmp_gt (q := 84) (tgt := 100) C dX10_digest_81 (by decide) rfl (fun c7 => ?_) (fun c7 => ?_)
        · replace h := h.1 c7
          refine jr_sub [1] rfl ?_
          exact hE79_100 _ _ h
        · replace h := h.2 c7
          refine jr_lload_n (q := 85) C 1 dX10_digest_84 rfl rfl rfl ?_
          refine jr_aload_n (q := 86) C 0 dX10_digest_85 rfl rfl rfl ?_
          refine jr_iload_n (q := 87) C 2 dX10_digest_86 rfl rfl rfl ?_
          refine jr_cvI (q := 90) (As := [.int a3]) (rest := [.long a1]) C (f := 0) (i := 0) (ci := 10) mf_0 rfl rfl rfl (kX10_count l a3) rfl gX10_digest_X10_count rfl dsc_X10_count ⟨rfl, rfl⟩ ⟨by decide, by decide⟩ rfl rfl (Nat.le_of_ble_eq_true rfl) dX10_digest_87 rfl h (fun r4 μ3 h => ?_)
          refine jr_csL (q := 93) (As := [.long a1, .int r4]) (rest := []) C  (kX10_with l a1 r4) rfl gX10_digest_X10_with rfl dsc_X10_with ⟨rfl, rfl⟩ ⟨by decide, by decide⟩ rfl rfl (Nat.le_of_ble_eq_true rfl) dX10_digest_90 rfl h (fun r6 μ5 h => ?_)
          refine jr_lstore_n (q := 94) (lv' := [(1, .long r6), (0, .ref (z + mm_ad 0 0)), (3, .int a3)]) C dX10_digest_93 rfl (by decide) rfl rfl ?_
          refine jr_iinc (q := 97) (lv' := [(3, .int (a3 + (1 : Int32))), (1, .long r6), (0, .ref (z + mm_ad 0 0))]) C 2 dX10_digest_94 rfl (by rfl) (by decide) rfl rfl ?_
          refine jr_goto (tgt := 79) C dX10_digest_97 (by decide) ?_
          refine jr_sub [2, 1, 0] rfl ?_
          exact hK79 _ _ _ h
      have x79_100 : ∀ (μ : mm_T) (c1 : Int64), (Po c1 μ) → jJ p l e ({ frames := 6, cells := 0, slots := 0, locals := 144 }) s m args below meth c D cy z (MQ below (va_Ql Po (mm_Po D cy z) (mm_A z)) args s 0 0 (mm_A z)) 4 μ 100 [(1, .long c1)] [] := by
        intro μ c1 h
        refine jr_lload_n (q := 101) C 0 dX10_digest_100 rfl rfl rfl ?_
        exact jr_lret C hr hk dX10_digest_101 h
      refine jr_sub [1, 2, 0] rfl ?_
      exact l79 _ x79_100 _ h
    refine jr_sub [1, 2, 0] rfl ?_
    exact l46 _ x46_77 _ h
  refine jr_if_eq (q := 14) (tgt := 44) C dX10_digest_11 (by decide) rfl (fun c22 => ?_) (fun c22 => ?_)
  · replace h := h.1 c22
    refine jr_sub [1, 0] rfl ?_
    exact b44 _ _ h
  · replace h := h.2 c22
    refine jr_aload_n (q := 15) C 1 dX10_digest_14 rfl rfl rfl ?_
    refine jr_lload_n (q := 16) C 0 dX10_digest_15 rfl rfl rfl ?_
    refine jr_cvL (q := 19) (As := [.long (1601 : Int64)]) (rest := []) C (f := 0) (i := 0) (ci := 10) mf_0 rfl rfl rfl (kX10_withNodes l (1601 : Int64)) rfl gX10_digest_X10_withNodes rfl dsc_X10_withNodes ⟨rfl, rfl⟩ ⟨by decide, by decide⟩ rfl rfl (Nat.le_of_ble_eq_true rfl) dX10_digest_16 rfl h (fun r13 μ12 h => ?_)
    refine jr_lstore_n (q := 20) (lv' := [(1, .long r13), (0, .ref (z + mm_ad 0 0))]) C dX10_digest_19 rfl (by decide) rfl rfl ?_
    refine jr_aload_n (q := 21) C 1 dX10_digest_20 rfl rfl rfl ?_
    refine jr_lload_n (q := 22) C 0 dX10_digest_21 rfl rfl rfl ?_
    refine jr_cvL (q := 25) (As := [.long r13]) (rest := []) C (f := 0) (i := 0) (ci := 10) mf_0 rfl rfl rfl (kX10_withPairs l r13) rfl gX10_digest_X10_withPairs rfl dsc_X10_withPairs ⟨rfl, rfl⟩ ⟨by decide, by decide⟩ rfl rfl (Nat.le_of_ble_eq_true rfl) dX10_digest_22 rfl h (fun r15 μ14 h => ?_)
    refine jr_lstore_n (q := 26) (lv' := [(1, .long r15), (0, .ref (z + mm_ad 0 0))]) C dX10_digest_25 rfl (by decide) rfl rfl ?_
    refine jr_aload_n (q := 27) C 1 dX10_digest_26 rfl rfl rfl ?_
    refine jr_lload_n (q := 28) C 0 dX10_digest_27 rfl rfl rfl ?_
    refine jr_cvL (q := 31) (As := [.long r15]) (rest := []) C (f := 0) (i := 0) (ci := 10) mf_0 rfl rfl rfl (kX10_withLatest l r15) rfl gX10_digest_X10_withLatest rfl dsc_X10_withLatest ⟨rfl, rfl⟩ ⟨by decide, by decide⟩ rfl rfl (Nat.le_of_ble_eq_true rfl) dX10_digest_28 rfl h (fun r17 μ16 h => ?_)
    refine jr_lstore_n (q := 32) (lv' := [(1, .long r17), (0, .ref (z + mm_ad 0 0))]) C dX10_digest_31 rfl (by decide) rfl rfl ?_
    refine jr_aload_n (q := 33) C 1 dX10_digest_32 rfl rfl rfl ?_
    refine jr_lload_n (q := 34) C 0 dX10_digest_33 rfl rfl rfl ?_
    refine jr_cvL (q := 37) (As := [.long r17]) (rest := []) C (f := 0) (i := 0) (ci := 10) mf_0 rfl rfl rfl (kX10_withPlaces l r17) rfl gX10_digest_X10_withPlaces rfl dsc_X10_withPlaces ⟨rfl, rfl⟩ ⟨by decide, by decide⟩ rfl rfl (Nat.le_of_ble_eq_true rfl) dX10_digest_34 rfl h (fun r19 μ18 h => ?_)
    refine jr_lstore_n (q := 38) (lv' := [(1, .long r19), (0, .ref (z + mm_ad 0 0))]) C dX10_digest_37 rfl (by decide) rfl rfl ?_
    refine jr_aload_n (q := 39) C 1 dX10_digest_38 rfl rfl rfl ?_
    refine jr_lload_n (q := 40) C 0 dX10_digest_39 rfl rfl rfl ?_
    refine jr_cvL (q := 43) (As := [.long r19]) (rest := []) C (f := 0) (i := 0) (ci := 10) mf_0 rfl rfl rfl (kX10_withSlots l r19) rfl gX10_digest_X10_withSlots rfl dsc_X10_withSlots ⟨rfl, rfl⟩ ⟨by decide, by decide⟩ rfl rfl (Nat.le_of_ble_eq_true rfl) dX10_digest_40 rfl h (fun r21 μ20 h => ?_)
    refine jr_lstore_n (q := 44) (lv' := [(1, .long r21), (0, .ref (z + mm_ad 0 0))]) C dX10_digest_43 rfl (by decide) rfl rfl ?_
    refine jr_sub [1, 0] rfl ?_
    exact b44 _ _ h
