theorem nX0_sendPulses_0 : ∀ w ∈ wsX00, w ∈ wsX0_sendPulses := fun _ h => List.mem_cons_of_mem _ (List.mem_append_left _ (List.mem_append_left _ (List.mem_append_left _ (List.mem_append_left _ (List.mem_append_left _ (List.mem_append_right _ h))))))
theorem mX0_sendPulses_1 : Cond.fieldLink RX0 97 RX0 (TX0 3).2.1 (TX0 3).2.2.1 ∈ wsX0_sendPulses := List.mem_of_getElem? (i := 1) (by decide +kernel)
theorem mX0_sendPulses_2 : Cond.fieldLink RX0 35 RX0 (TX0 5).2.1 (TX0 5).2.2.1 ∈ wsX0_sendPulses := List.mem_of_getElem? (i := 4) (by decide +kernel)
theorem mX0_sendPulses_3 : Cond.fieldLink RX0 11 RX0 (TX0 0).2.1 (TX0 0).2.2.1 ∈ wsX0_sendPulses := List.mem_of_getElem? (i := 5) (by decide +kernel)
theorem mX0_sendPulses_4 : Cond.fieldLink RX0 93 RX0 (TX0 2).2.1 (TX0 2).2.2.1 ∈ wsX0_sendPulses := List.mem_of_getElem? (i := 2) (by decide +kernel)
theorem mX0_sendPulses_5 : Cond.constantLong RX0 151 (10) ∈ wsX0_sendPulses := List.mem_of_getElem? (i := 6) (by decide +kernel)
theorem nX0_sendPulses_3 : ∀ w ∈ wsX30, w ∈ wsX0_sendPulses := fun _ h => List.mem_cons_of_mem _ (List.mem_append_left _ (List.mem_append_left _ (List.mem_append_left _ (List.mem_append_left _ (List.mem_append_right _ h)))))
theorem mX0_sendPulses_7 : Cond.fieldLink RX0 100 RX3 (TX3 0).2.1 (TX3 0).2.2.1 ∈ wsX0_sendPulses := List.mem_of_getElem? (i := 7) (by decide +kernel)
theorem mX0_sendPulses_8 : Cond.fieldLink RX0 153 RX3 (TX3 1).2.1 (TX3 1).2.2.1 ∈ wsX0_sendPulses := List.mem_of_getElem? (i := 8) (by decide +kernel)
theorem mX0_sendPulses_9 : Cond.fieldLink RX0 155 RX3 (TX3 2).2.1 (TX3 2).2.2.1 ∈ wsX0_sendPulses := List.mem_of_getElem? (i := 9) (by decide +kernel)
theorem mX0_sendPulses_10 : Cond.fieldLink RX0 158 RX3 (TX3 5).2.1 (TX3 5).2.2.1 ∈ wsX0_sendPulses := List.mem_of_getElem? (i := 10) (by decide +kernel)
theorem nX0_sendPulses_4 : ∀ w ∈ wsX40, w ∈ wsX0_sendPulses := fun _ h => List.mem_cons_of_mem _ (List.mem_append_left _ (List.mem_append_left _ (List.mem_append_left _ (List.mem_append_right _ h))))
theorem mX0_sendPulses_12 : Cond.fieldLink RX0 161 RX4 (TX4 3).2.1 (TX4 3).2.2.1 ∈ wsX0_sendPulses := List.mem_of_getElem? (i := 11) (by decide +kernel)
theorem mX0_sendPulses_13 : Cond.fieldLink RX0 164 RX3 (TX3 7).2.1 (TX3 7).2.2.1 ∈ wsX0_sendPulses := List.mem_of_getElem? (i := 12) (by decide +kernel)
theorem mX0_sendPulses_14 : Cond.fieldLink RX0 167 RX4 (TX4 4).2.1 (TX4 4).2.2.1 ∈ wsX0_sendPulses := List.mem_of_getElem? (i := 13) (by decide +kernel)
theorem mX0_sendPulses_15 : Cond.fieldLink RX0 19 RX0 (TX0 8).2.1 (TX0 8).2.2.1 ∈ wsX0_sendPulses := List.mem_of_getElem? (i := 14) (by decide +kernel)
theorem nX0_sendPulses_7 : ∀ w ∈ wsX70, w ∈ wsX0_sendPulses := fun _ h => List.mem_cons_of_mem _ (List.mem_append_left _ (List.mem_append_left _ (List.mem_append_right _ h)))
theorem mX0_sendPulses_17 : Cond.fieldLink RX0 170 RX7 (TX7 0).2.1 (TX7 0).2.2.1 ∈ wsX0_sendPulses := List.mem_of_getElem? (i := 15) (by decide +kernel)
theorem mX0_sendPulses_18 : Cond.constant RX0 143 (-1000005) ∈ wsX0_sendPulses := List.mem_of_getElem? (i := 3) (by decide +kernel)
theorem dsc_X0_sendPulses : yX0_sendPulses.cls ≠ "java/lang/invoke/MethodHandle" ∧ yX0_sendPulses.cls ≠ "java/lang/invoke/VarHandle" ∧ (parseMethodDescriptor yX0_sendPulses.desc).map (fun d => d.parameters.length) = some 2 := by decide +kernel
def pX0_sendPulses (Po : Int32 → mm_T → Prop) (μ : mm_T) (p1 : Int32) (p2 : Int32) : Prop := pX0_linkOf (fun r2 μ1 => (r2 < 49) ∧ (pX4_leastExtra (fun r5 μ4 => (¬ r5 = (-1 : Int32) → pX0_flightBetween (fun r7 μ6 => (vp_in p1 7) ∧ ((vp_in p2 7) ∧ (pX3_stamp (fun r11 μ10 => ∀ μ12 : mm_T, μ12 = mm_L μ10 6 0 2 (r11 + (10 : Int64)) → (∀ μ13 : mm_T, μ13 = mm_I μ12 15 0 0 (1 : Int32) → (∀ μ14 : mm_T, μ14 = mm_I μ13 15 0 1 p1 → (∀ μ15 : mm_T, μ15 = mm_I μ14 15 0 2 p2 → (∀ μ16 : mm_T, μ16 = mm_I μ15 15 0 5 r7 → (∀ μ17 : mm_T, μ17 = mm_I μ16 12 r2 3 (1 : Int32) → (∀ μ18 : mm_T, μ18 = mm_I μ17 12 r2 4 (μ17.1 15 0 7) → ((vp_in p1 7) ∧ (∀ μ20 : mm_T, μ20 = mm_I μ18 10 p1.toNatClampNeg 0 (0 : Int32) → (Po (μ20.1 15 0 7) μ20)))))))))) μ6 p1.toNatClampNeg p2.toNatClampNeg (μ6.2 6 0 2) (r7 + r5)))) μ4 p1 p2) ∧ (r5 = (-1 : Int32) → ∀ μ21 : mm_T, μ21 = mm_L μ4 6 0 2 ((μ4.2 6 0 2) + (1 : Int64)) → (Po (-1000005 : Int32) μ21))) μ1 r2 (μ1.1 6 0 3))) μ p1 p2
set_option maxHeartbeats 4000000 in
set_option maxRecDepth 100000 in
theorem kX0_sendPulses (l : Launch) (p1 : Int32) (p2 : Int32) : mm_CI l yX0_sendPulses wsX0_sendPulses ({ frames := 3, cells := 0, slots := 0, locals := 92 }) (fun z => [.ref (z + mm_ad 6 0), .int p1, .int p2]) (fun μ Po => pX0_sendPulses Po μ p1 p2) := by
  refine je_I (cc := cX0_sendPulses) (nL := 6) (own := RX0) (plainFor_of_name (by decide)) rfl rfl (fun _ => Nat.le_of_ble_eq_true rfl) ?_
  intro p e s m args below meth c D cy z μ Po C hr hk h
  change jJ p l e ({ frames := 3, cells := 0, slots := 0, locals := 92 }) s m args below meth c D cy z (MQ below (va_Qi Po (mm_Po D cy z) (mm_A z)) args s 0 0 (mm_A z)) 6 μ 0 [(0, .ref (z + mm_ad 6 0)), (1, .int p1), (2, .int p2)] []
  replace h : pX0_sendPulses Po μ p1 p2 := h
  unfold pX0_sendPulses at h
  refine jr_aload_n (q := 1) C 0 dX0_sendPulses_0 rfl rfl rfl ?_
  refine jr_iload_n (q := 2) C 1 dX0_sendPulses_1 rfl rfl rfl ?_
  refine jr_iload_n (q := 3) C 2 dX0_sendPulses_2 rfl rfl rfl ?_
  refine jr_cvR (q := 6) (f0 := 12) (As := [.int p1, .int p2]) (rest := []) C (f := 6) (i := 0) (ci := 0) mf_6 rfl rfl rfl (kX0_linkOf l p1 p2) rfl gX0_sendPulses_X0_linkOf rfl dsc_X0_linkOf ⟨rfl, rfl⟩ ⟨by decide, by decide⟩ rfl rfl (Nat.le_of_ble_eq_true rfl) dX0_sendPulses_3 rfl h (fun r2 μ1 h => ?_)
  refine jr_astore_n (q := 7) (lv' := [(3, .ref (z + mm_ad 12 r2)), (0, .ref (z + mm_ad 6 0)), (1, .int p1), (2, .int p2)]) C dX0_sendPulses_6 rfl (by decide) rfl rfl ?_
  refine jr_aload_n (q := 8) C 0 dX0_sendPulses_7 rfl rfl rfl ?_
  refine jr_aload_n (q := 9) C 1 dX0_sendPulses_8 rfl rfl rfl ?_
  refine jr_getI (q := 12) (ci := 0) (Cn := RX0) (T := TX0) (N := 11) (j := 3) C mf_6 rfl rfl (by decide) rfl rfl nX0_sendPulses_0 mX0_sendPulses_1 dX0_sendPulses_9 rfl rfl ?_
  obtain ⟨g3, h⟩ := h
  refine jr_cvI (q := 15) (As := [.int (μ1.1 6 0 3)]) (rest := []) C (f := 12) (i := r2) (ci := 4) g3 rfl rfl rfl (kX4_leastExtra l r2 (μ1.1 6 0 3)) rfl gX0_sendPulses_X4_leastExtra rfl dsc_X4_leastExtra ⟨rfl, rfl⟩ ⟨by decide, by decide⟩ rfl rfl (Nat.le_of_ble_eq_true rfl) dX0_sendPulses_12 rfl h (fun r5 μ4 h => ?_)
  refine jr_istore (q := 17) (lv' := [(4, .int r5), (3, .ref (z + mm_ad 12 r2)), (0, .ref (z + mm_ad 6 0)), (1, .int p1), (2, .int p2)]) C dX0_sendPulses_15 (by decide) rfl rfl ?_
  refine jr_iload (q := 19) C 0 dX0_sendPulses_17 rfl rfl ?_
  refine jr_iconst (q := 20) (v := (-1 : Int32)) C dX0_sendPulses_19 (by decide) rfl ?_
  refine jr_icmp_ne (q := 23) (tgt := 36) C dX0_sendPulses_20 (by decide) rfl (fun c22 => ?_) (fun c22 => ?_)
  · replace h := h.1 c22
    refine jr_aload_n (q := 37) C 2 dX0_sendPulses_36 rfl rfl rfl ?_
    refine jr_iload_n (q := 38) C 3 dX0_sendPulses_37 rfl rfl rfl ?_
    refine jr_iload_n (q := 39) C 4 dX0_sendPulses_38 rfl rfl rfl ?_
    refine jr_cvI (q := 42) (As := [.int p1, .int p2]) (rest := []) C (f := 6) (i := 0) (ci := 0) mf_6 rfl rfl rfl (kX0_flightBetween l p1 p2) rfl gX0_sendPulses_X0_flightBetween rfl dsc_X0_flightBetween ⟨rfl, rfl⟩ ⟨by decide, by decide⟩ rfl rfl (Nat.le_of_ble_eq_true rfl) dX0_sendPulses_39 rfl h (fun r7 μ6 h => ?_)
    refine jr_istore (q := 44) (lv' := [(5, .int r7), (4, .int r5), (3, .ref (z + mm_ad 12 r2)), (0, .ref (z + mm_ad 6 0)), (1, .int p1), (2, .int p2)]) C dX0_sendPulses_42 (by decide) rfl rfl ?_
    refine jr_aload_n (q := 45) C 3 dX0_sendPulses_44 rfl rfl rfl ?_
    refine jr_aload_n (q := 46) C 3 dX0_sendPulses_45 rfl rfl rfl ?_
    refine jr_getR (q := 49) (ci := 0) (Cn := RX0) (T := TX0) (N := 11) (j := 5) C mf_6 rfl rfl (by decide) rfl 15 0 rfl rfl rfl nX0_sendPulses_0 mX0_sendPulses_2 dX0_sendPulses_46 rfl rfl ?_
    refine jr_aload_n (q := 50) C 3 dX0_sendPulses_49 rfl rfl rfl ?_
    refine jr_getR (q := 53) (ci := 0) (Cn := RX0) (T := TX0) (N := 11) (j := 0) C mf_6 rfl rfl (by decide) rfl 7 0 rfl rfl rfl nX0_sendPulses_0 mX0_sendPulses_3 dX0_sendPulses_50 rfl rfl ?_
    refine jr_iload_n (q := 54) C 4 dX0_sendPulses_53 rfl rfl rfl ?_
    obtain ⟨g8, h⟩ := h
    refine jr_aald (q := 55) (t := 1) C mf_7 9 (fun _ => rfl) (fun _ _ => rfl) rfl (by decide) g8 dX0_sendPulses_54 rfl ?_
    refine jr_aload_n (q := 56) C 3 dX0_sendPulses_55 rfl rfl rfl ?_
    refine jr_getR (q := 59) (ci := 0) (Cn := RX0) (T := TX0) (N := 11) (j := 0) C mf_6 rfl rfl (by decide) rfl 7 0 rfl rfl rfl nX0_sendPulses_0 mX0_sendPulses_3 dX0_sendPulses_56 rfl rfl ?_
    refine jr_iload_n (q := 60) C 5 dX0_sendPulses_59 rfl rfl rfl ?_
    obtain ⟨g9, h⟩ := h
    refine jr_aald (q := 61) (t := 1) C mf_7 9 (fun _ => rfl) (fun _ _ => rfl) rfl (by decide) g9 dX0_sendPulses_60 rfl ?_
    refine jr_aload_n (q := 62) C 3 dX0_sendPulses_61 rfl rfl rfl ?_
    refine jr_getL (q := 65) (ci := 0) (Cn := RX0) (T := TX0) (N := 11) (j := 2) C mf_6 rfl rfl (by decide) rfl rfl nX0_sendPulses_0 mX0_sendPulses_4 dX0_sendPulses_62 rfl rfl ?_
    refine jr_iload (q := 67) C 0 dX0_sendPulses_65 rfl rfl ?_
    refine jr_iload (q := 69) C 1 dX0_sendPulses_67 rfl rfl ?_
    refine jr_iadd (q := 70) C dX0_sendPulses_69 rfl ?_
    refine jr_cvL (q := 73) (As := [.ref (z + mm_ad 9 p1.toNatClampNeg), .ref (z + mm_ad 9 p2.toNatClampNeg), .long (μ6.2 6 0 2), .int (r7 + r5)]) (rest := [.ref (z + mm_ad 6 0)]) C (f := 15) (i := 0) (ci := 3) mf_15 rfl rfl rfl (kX3_stamp l p1.toNatClampNeg p2.toNatClampNeg (μ6.2 6 0 2) (r7 + r5)) rfl gX0_sendPulses_X3_stamp rfl dsc_X3_stamp ⟨rfl, rfl⟩ ⟨by decide, by decide⟩ rfl rfl (Nat.le_of_ble_eq_true rfl) dX0_sendPulses_70 rfl h (fun r11 μ10 h => ?_)
    refine jr_ldc2 (q := 76) (v := (10 : Int64)) C dX0_sendPulses_73 mX0_sendPulses_5 rfl ?_
    refine jr_ladd (q := 77) C dX0_sendPulses_76 rfl ?_
    refine jr_putL (q := 80) (ci := 0) (Cn := RX0) (T := TX0) (N := 11) (j := 2) C mf_6 rfl rfl (by decide) rfl rfl tyX0 tyX0_ok nmX0 rfl (by decide +kernel) nX0_sendPulses_0 mX0_sendPulses_4 dX0_sendPulses_77 rfl rfl ?_
    refine jn_mem (fun μ12 eμ12 => ?_)
    replace h := h μ12 eμ12
    refine jr_aload_n (q := 81) C 3 dX0_sendPulses_80 rfl rfl rfl ?_
    refine jr_getR (q := 84) (ci := 0) (Cn := RX0) (T := TX0) (N := 11) (j := 5) C mf_6 rfl rfl (by decide) rfl 15 0 rfl rfl rfl nX0_sendPulses_0 mX0_sendPulses_2 dX0_sendPulses_81 rfl rfl ?_
    refine jr_iconst (q := 85) (v := (1 : Int32)) C dX0_sendPulses_84 (by decide) rfl ?_
    refine jr_putZ (q := 88) (ci := 3) (Cn := RX3) (T := TX3) (N := 9) (j := 0) C mf_15 rfl rfl (by decide) rfl (by decide) rfl tyX3 tyX3_ok nmX3 rfl (by decide +kernel) nX0_sendPulses_3 mX0_sendPulses_7 dX0_sendPulses_85 rfl rfl ?_
    refine jn_mem (fun μ13 eμ13 => ?_)
    replace h := h μ13 eμ13
    refine jr_aload_n (q := 89) C 3 dX0_sendPulses_88 rfl rfl rfl ?_
    refine jr_getR (q := 92) (ci := 0) (Cn := RX0) (T := TX0) (N := 11) (j := 5) C mf_6 rfl rfl (by decide) rfl 15 0 rfl rfl rfl nX0_sendPulses_0 mX0_sendPulses_2 dX0_sendPulses_89 rfl rfl ?_
    refine jr_iload_n (q := 93) C 4 dX0_sendPulses_92 rfl rfl rfl ?_
    refine jr_putI (q := 96) (ci := 3) (Cn := RX3) (T := TX3) (N := 9) (j := 1) C mf_15 rfl rfl (by decide) rfl rfl tyX3 tyX3_ok nmX3 rfl (by decide +kernel) nX0_sendPulses_3 mX0_sendPulses_8 dX0_sendPulses_93 rfl rfl ?_
    refine jn_mem (fun μ14 eμ14 => ?_)
    replace h := h μ14 eμ14
    refine jr_aload_n (q := 97) C 3 dX0_sendPulses_96 rfl rfl rfl ?_
    refine jr_getR (q := 100) (ci := 0) (Cn := RX0) (T := TX0) (N := 11) (j := 5) C mf_6 rfl rfl (by decide) rfl 15 0 rfl rfl rfl nX0_sendPulses_0 mX0_sendPulses_2 dX0_sendPulses_97 rfl rfl ?_
    refine jr_iload_n (q := 101) C 5 dX0_sendPulses_100 rfl rfl rfl ?_
    refine jr_putI (q := 104) (ci := 3) (Cn := RX3) (T := TX3) (N := 9) (j := 2) C mf_15 rfl rfl (by decide) rfl rfl tyX3 tyX3_ok nmX3 rfl (by decide +kernel) nX0_sendPulses_3 mX0_sendPulses_9 dX0_sendPulses_101 rfl rfl ?_
    refine jn_mem (fun μ15 eμ15 => ?_)
    replace h := h μ15 eμ15
    refine jr_aload_n (q := 105) C 3 dX0_sendPulses_104 rfl rfl rfl ?_
    refine jr_getR (q := 108) (ci := 0) (Cn := RX0) (T := TX0) (N := 11) (j := 5) C mf_6 rfl rfl (by decide) rfl 15 0 rfl rfl rfl nX0_sendPulses_0 mX0_sendPulses_2 dX0_sendPulses_105 rfl rfl ?_
    refine jr_iload (q := 110) C 0 dX0_sendPulses_108 rfl rfl ?_
    refine jr_putI (q := 113) (ci := 3) (Cn := RX3) (T := TX3) (N := 9) (j := 5) C mf_15 rfl rfl (by decide) rfl rfl tyX3 tyX3_ok nmX3 rfl (by decide +kernel) nX0_sendPulses_3 mX0_sendPulses_10 dX0_sendPulses_110 rfl rfl ?_
    refine jn_mem (fun μ16 eμ16 => ?_)
    replace h := h μ16 eμ16
    refine jr_aload_n (q := 114) C 2 dX0_sendPulses_113 rfl rfl rfl ?_
    refine jr_iconst (q := 115) (v := (1 : Int32)) C dX0_sendPulses_114 (by decide) rfl ?_
    refine jr_putZ (q := 118) (ci := 4) (Cn := RX4) (T := TX4) (N := 5) (j := 3) C g3 rfl rfl (by decide) rfl (by decide) rfl tyX4 tyX4_ok nmX4 rfl (by decide +kernel) nX0_sendPulses_4 mX0_sendPulses_12 dX0_sendPulses_115 rfl rfl ?_
    refine jn_mem (fun μ17 eμ17 => ?_)
    replace h := h μ17 eμ17
    refine jr_aload_n (q := 119) C 2 dX0_sendPulses_118 rfl rfl rfl ?_
    refine jr_aload_n (q := 120) C 3 dX0_sendPulses_119 rfl rfl rfl ?_
    refine jr_getR (q := 123) (ci := 0) (Cn := RX0) (T := TX0) (N := 11) (j := 5) C mf_6 rfl rfl (by decide) rfl 15 0 rfl rfl rfl nX0_sendPulses_0 mX0_sendPulses_2 dX0_sendPulses_120 rfl rfl ?_
    refine jr_getI (q := 126) (ci := 3) (Cn := RX3) (T := TX3) (N := 9) (j := 7) C mf_15 rfl rfl (by decide) rfl rfl nX0_sendPulses_3 mX0_sendPulses_13 dX0_sendPulses_123 rfl rfl ?_
    refine jr_putI (q := 129) (ci := 4) (Cn := RX4) (T := TX4) (N := 5) (j := 4) C g3 rfl rfl (by decide) rfl rfl tyX4 tyX4_ok nmX4 rfl (by decide +kernel) nX0_sendPulses_4 mX0_sendPulses_14 dX0_sendPulses_126 rfl rfl ?_
    refine jn_mem (fun μ18 eμ18 => ?_)
    replace h := h μ18 eμ18
    refine jr_aload_n (q := 130) C 3 dX0_sendPulses_129 rfl rfl rfl ?_
    refine jr_getR (q := 133) (ci := 0) (Cn := RX0) (T := TX0) (N := 11) (j := 8) C mf_6 rfl rfl (by decide) rfl 8 0 rfl rfl rfl nX0_sendPulses_0 mX0_sendPulses_15 dX0_sendPulses_130 rfl rfl ?_
    refine jr_iload_n (q := 134) C 4 dX0_sendPulses_133 rfl rfl rfl ?_
    obtain ⟨g19, h⟩ := h
    refine jr_aald (q := 135) (t := 2) C mf_8 10 (fun _ => rfl) (fun _ _ => rfl) rfl (by decide) g19 dX0_sendPulses_134 rfl ?_
    refine jr_iconst (q := 136) (v := (0 : Int32)) C dX0_sendPulses_135 (by decide) rfl ?_
    refine jr_putZ (q := 139) (ci := 7) (Cn := RX7) (T := TX7) (N := 6) (j := 0) C (mm_lt g19) rfl rfl (by decide) rfl (by decide) rfl tyX7 tyX7_ok nmX7 rfl (by decide +kernel) nX0_sendPulses_7 mX0_sendPulses_17 dX0_sendPulses_136 rfl rfl ?_
    refine jn_mem (fun μ20 eμ20 => ?_)
    replace h := h μ20 eμ20
    refine jr_aload_n (q := 140) C 3 dX0_sendPulses_139 rfl rfl rfl ?_
    refine jr_getR (q := 143) (ci := 0) (Cn := RX0) (T := TX0) (N := 11) (j := 5) C mf_6 rfl rfl (by decide) rfl 15 0 rfl rfl rfl nX0_sendPulses_0 mX0_sendPulses_2 dX0_sendPulses_140 rfl rfl ?_
    refine jr_getI (q := 146) (ci := 3) (Cn := RX3) (T := TX3) (N := 9) (j := 7) C mf_15 rfl rfl (by decide) rfl rfl nX0_sendPulses_3 mX0_sendPulses_13 dX0_sendPulses_143 rfl rfl ?_
    exact jr_iret C hr hk dX0_sendPulses_146 h
  · replace h := h.2 c22
    refine jr_aload_n (q := 24) C 2 dX0_sendPulses_23 rfl rfl rfl ?_
    refine jr_dup (q := 25) C dX0_sendPulses_24 rfl rfl ?_
    refine jr_getL (q := 28) (ci := 0) (Cn := RX0) (T := TX0) (N := 11) (j := 2) C mf_6 rfl rfl (by decide) rfl rfl nX0_sendPulses_0 mX0_sendPulses_4 dX0_sendPulses_25 rfl rfl ?_
    refine jr_lconst (q := 29) (v := (1 : Int64)) C dX0_sendPulses_28 (by decide) rfl ?_
    refine jr_ladd (q := 30) C dX0_sendPulses_29 rfl ?_
    refine jr_putL (q := 33) (ci := 0) (Cn := RX0) (T := TX0) (N := 11) (j := 2) C mf_6 rfl rfl (by decide) rfl rfl tyX0 tyX0_ok nmX0 rfl (by decide +kernel) nX0_sendPulses_0 mX0_sendPulses_4 dX0_sendPulses_30 rfl rfl ?_
    refine jn_mem (fun μ21 eμ21 => ?_)
    replace h := h μ21 eμ21
    refine jr_ldc (q := 35) (v := (-1000005 : Int32)) C dX0_sendPulses_33 mX0_sendPulses_18 rfl ?_
    exact jr_iret C hr hk dX0_sendPulses_35 h
theorem nX0_heardBy_0 : ∀ w ∈ wsX00, w ∈ wsX0_heardBy := fun _ h => List.mem_cons_of_mem _ (List.mem_append_left _ (List.mem_append_left _ (List.mem_append_left _ (List.mem_append_right _ h))))
theorem mX0_heardBy_1 : Cond.fieldLink RX0 35 RX0 (TX0 5).2.1 (TX0 5).2.2.1 ∈ wsX0_heardBy := List.mem_of_getElem? (i := 1) (by decide +kernel)
theorem nX0_heardBy_3 : ∀ w ∈ wsX30, w ∈ wsX0_heardBy := fun _ h => List.mem_cons_of_mem _ (List.mem_append_left _ (List.mem_append_left _ (List.mem_append_right _ h)))
theorem mX0_heardBy_3 : Cond.fieldLink RX0 171 RX3 (TX3 3).2.1 (TX3 3).2.2.1 ∈ wsX0_heardBy := List.mem_of_getElem? (i := 2) (by decide +kernel)
theorem mX0_heardBy_4 : Cond.fieldLink RX0 153 RX3 (TX3 1).2.1 (TX3 1).2.2.1 ∈ wsX0_heardBy := List.mem_of_getElem? (i := 3) (by decide +kernel)
theorem mX0_heardBy_5 : Cond.fieldLink RX0 174 RX3 (TX3 4).2.1 (TX3 4).2.2.1 ∈ wsX0_heardBy := List.mem_of_getElem? (i := 4) (by decide +kernel)
theorem mX0_heardBy_6 : Cond.fieldLink RX0 155 RX3 (TX3 2).2.1 (TX3 2).2.2.1 ∈ wsX0_heardBy := List.mem_of_getElem? (i := 5) (by decide +kernel)
theorem mX0_heardBy_7 : Cond.fieldLink RX0 11 RX0 (TX0 0).2.1 (TX0 0).2.2.1 ∈ wsX0_heardBy := List.mem_of_getElem? (i := 6) (by decide +kernel)
theorem mX0_heardBy_8 : Cond.fieldLink RX0 164 RX3 (TX3 7).2.1 (TX3 7).2.2.1 ∈ wsX0_heardBy := List.mem_of_getElem? (i := 7) (by decide +kernel)
theorem dsc_X0_heardBy : yX0_heardBy.cls ≠ "java/lang/invoke/MethodHandle" ∧ yX0_heardBy.cls ≠ "java/lang/invoke/VarHandle" ∧ (parseMethodDescriptor yX0_heardBy.desc).map (fun d => d.parameters.length) = some 1 := by decide +kernel
def pX0_heardBy (Po : Int32 → mm_T → Prop) (μ : mm_T) (p1 : Int32) : Prop := pX0_flightBetween (fun r2 μ1 => ∀ x3 : Int64, x3 = (μ.2 15 0 3) + r2.toInt64 → (pX0_flightBetween (fun r5 μ4 => ∀ x6 : Int64, x6 = (μ1.2 15 0 4) + r5.toInt64 → ((vp_in p1 7) ∧ (pX5_clockAt (fun r9 μ8 => (vp_in p1 7) ∧ (pX5_clockAt (fun r12 μ11 => ∀ x13 : Int64, x13 = r9 - r12 → (pX3_replyA (fun r15 μ14 => Po (((x13 - r15) - ((μ14.1 15 0 7).toInt64)).toInt32) μ14) μ11 )) μ8 p1.toNatClampNeg x3)) μ4 p1.toNatClampNeg x6))) μ1 p1 (μ1.1 15 0 2))) μ p1 (μ.1 15 0 1)
set_option maxHeartbeats 4000000 in
set_option maxRecDepth 100000 in
theorem kX0_heardBy (l : Launch) (p1 : Int32) : mm_CI l yX0_heardBy wsX0_heardBy ({ frames := 2, cells := 0, slots := 0, locals := 47 }) (fun z => [.ref (z + mm_ad 6 0), .int p1]) (fun μ Po => pX0_heardBy Po μ p1) := by
  refine je_I (cc := cX0_heardBy) (nL := 8) (own := RX0) (plainFor_of_name (by decide)) rfl rfl (fun _ => Nat.le_of_ble_eq_true rfl) ?_
  intro p e s m args below meth c D cy z μ Po C hr hk h
  change jJ p l e ({ frames := 2, cells := 0, slots := 0, locals := 47 }) s m args below meth c D cy z (MQ below (va_Qi Po (mm_Po D cy z) (mm_A z)) args s 0 0 (mm_A z)) 8 μ 0 [(0, .ref (z + mm_ad 6 0)), (1, .int p1)] []
  replace h : pX0_heardBy Po μ p1 := h
  unfold pX0_heardBy at h
  refine jr_aload_n (q := 1) C 0 dX0_heardBy_0 rfl rfl rfl ?_
  refine jr_getR (q := 4) (ci := 0) (Cn := RX0) (T := TX0) (N := 11) (j := 5) C mf_6 rfl rfl (by decide) rfl 15 0 rfl rfl rfl nX0_heardBy_0 mX0_heardBy_1 dX0_heardBy_1 rfl rfl ?_
  refine jr_getL (q := 7) (ci := 3) (Cn := RX3) (T := TX3) (N := 9) (j := 3) C mf_15 rfl rfl (by decide) rfl rfl nX0_heardBy_3 mX0_heardBy_3 dX0_heardBy_4 rfl rfl ?_
  refine jr_aload_n (q := 8) C 0 dX0_heardBy_7 rfl rfl rfl ?_
  refine jr_iload_n (q := 9) C 1 dX0_heardBy_8 rfl rfl rfl ?_
  refine jr_aload_n (q := 10) C 0 dX0_heardBy_9 rfl rfl rfl ?_
  refine jr_getR (q := 13) (ci := 0) (Cn := RX0) (T := TX0) (N := 11) (j := 5) C mf_6 rfl rfl (by decide) rfl 15 0 rfl rfl rfl nX0_heardBy_0 mX0_heardBy_1 dX0_heardBy_10 rfl rfl ?_
  refine jr_getI (q := 16) (ci := 3) (Cn := RX3) (T := TX3) (N := 9) (j := 1) C mf_15 rfl rfl (by decide) rfl rfl nX0_heardBy_3 mX0_heardBy_4 dX0_heardBy_13 rfl rfl ?_
  refine jr_cvI (q := 19) (As := [.int p1, .int (μ.1 15 0 1)]) (rest := [.long (μ.2 15 0 3)]) C (f := 6) (i := 0) (ci := 0) mf_6 rfl rfl rfl (kX0_flightBetween l p1 (μ.1 15 0 1)) rfl gX0_heardBy_X0_flightBetween rfl dsc_X0_flightBetween ⟨rfl, rfl⟩ ⟨by decide, by decide⟩ rfl rfl (Nat.le_of_ble_eq_true rfl) dX0_heardBy_16 rfl h (fun r2 μ1 h => ?_)
  refine jr_i2l (q := 20) C dX0_heardBy_19 rfl ?_
  refine jr_ladd (q := 21) C dX0_heardBy_20 rfl ?_
  refine jn_lng (fun x3 ex3 => ?_)
  replace h := h x3 ex3
  refine jr_lstore_n (q := 22) (lv' := [(2, .long x3), (0, .ref (z + mm_ad 6 0)), (1, .int p1)]) C dX0_heardBy_21 rfl (by decide) rfl rfl ?_
  refine jr_aload_n (q := 23) C 1 dX0_heardBy_22 rfl rfl rfl ?_
  refine jr_getR (q := 26) (ci := 0) (Cn := RX0) (T := TX0) (N := 11) (j := 5) C mf_6 rfl rfl (by decide) rfl 15 0 rfl rfl rfl nX0_heardBy_0 mX0_heardBy_1 dX0_heardBy_23 rfl rfl ?_
  refine jr_getL (q := 29) (ci := 3) (Cn := RX3) (T := TX3) (N := 9) (j := 4) C mf_15 rfl rfl (by decide) rfl rfl nX0_heardBy_3 mX0_heardBy_5 dX0_heardBy_26 rfl rfl ?_
  refine jr_aload_n (q := 30) C 1 dX0_heardBy_29 rfl rfl rfl ?_
  refine jr_iload_n (q := 31) C 2 dX0_heardBy_30 rfl rfl rfl ?_
  refine jr_aload_n (q := 32) C 1 dX0_heardBy_31 rfl rfl rfl ?_
  refine jr_getR (q := 35) (ci := 0) (Cn := RX0) (T := TX0) (N := 11) (j := 5) C mf_6 rfl rfl (by decide) rfl 15 0 rfl rfl rfl nX0_heardBy_0 mX0_heardBy_1 dX0_heardBy_32 rfl rfl ?_
  refine jr_getI (q := 38) (ci := 3) (Cn := RX3) (T := TX3) (N := 9) (j := 2) C mf_15 rfl rfl (by decide) rfl rfl nX0_heardBy_3 mX0_heardBy_6 dX0_heardBy_35 rfl rfl ?_
  refine jr_cvI (q := 41) (As := [.int p1, .int (μ1.1 15 0 2)]) (rest := [.long (μ1.2 15 0 4)]) C (f := 6) (i := 0) (ci := 0) mf_6 rfl rfl rfl (kX0_flightBetween l p1 (μ1.1 15 0 2)) rfl gX0_heardBy_X0_flightBetween rfl dsc_X0_flightBetween ⟨rfl, rfl⟩ ⟨by decide, by decide⟩ rfl rfl (Nat.le_of_ble_eq_true rfl) dX0_heardBy_38 rfl h (fun r5 μ4 h => ?_)
  refine jr_i2l (q := 42) C dX0_heardBy_41 rfl ?_
  refine jr_ladd (q := 43) C dX0_heardBy_42 rfl ?_
  refine jn_lng (fun x6 ex6 => ?_)
  replace h := h x6 ex6
  refine jr_lstore (q := 45) (lv' := [(4, .long x6), (2, .long x3), (0, .ref (z + mm_ad 6 0)), (1, .int p1)]) C dX0_heardBy_43 (by decide) rfl rfl ?_
  refine jr_aload_n (q := 46) C 2 dX0_heardBy_45 rfl rfl rfl ?_
  refine jr_getR (q := 49) (ci := 0) (Cn := RX0) (T := TX0) (N := 11) (j := 0) C mf_6 rfl rfl (by decide) rfl 7 0 rfl rfl rfl nX0_heardBy_0 mX0_heardBy_7 dX0_heardBy_46 rfl rfl ?_
  refine jr_iload_n (q := 50) C 3 dX0_heardBy_49 rfl rfl rfl ?_
  obtain ⟨g7, h⟩ := h
  refine jr_aald (q := 51) (t := 1) C mf_7 9 (fun _ => rfl) (fun _ _ => rfl) rfl (by decide) g7 dX0_heardBy_50 rfl ?_
  refine jr_lload (q := 53) C 0 dX0_heardBy_51 rfl rfl ?_
  refine jr_cvL (q := 56) (As := [.long x6]) (rest := []) C (f := 9) (i := p1.toNatClampNeg) (ci := 5) (mm_lt g7) rfl rfl rfl (kX5_clockAt l p1.toNatClampNeg x6) rfl gX0_heardBy_X5_clockAt rfl dsc_X5_clockAt ⟨rfl, rfl⟩ ⟨by decide, by decide⟩ rfl rfl (Nat.le_of_ble_eq_true rfl) dX0_heardBy_53 rfl h (fun r9 μ8 h => ?_)
  refine jr_aload_n (q := 57) C 2 dX0_heardBy_56 rfl rfl rfl ?_
  refine jr_getR (q := 60) (ci := 0) (Cn := RX0) (T := TX0) (N := 11) (j := 0) C mf_6 rfl rfl (by decide) rfl 7 0 rfl rfl rfl nX0_heardBy_0 mX0_heardBy_7 dX0_heardBy_57 rfl rfl ?_
  refine jr_iload_n (q := 61) C 3 dX0_heardBy_60 rfl rfl rfl ?_
  obtain ⟨g10, h⟩ := h
  refine jr_aald (q := 62) (t := 1) C mf_7 9 (fun _ => rfl) (fun _ _ => rfl) rfl (by decide) g10 dX0_heardBy_61 rfl ?_
  refine jr_lload_n (q := 63) C 1 dX0_heardBy_62 rfl rfl rfl ?_
  refine jr_cvL (q := 66) (As := [.long x3]) (rest := [.long r9]) C (f := 9) (i := p1.toNatClampNeg) (ci := 5) (mm_lt g10) rfl rfl rfl (kX5_clockAt l p1.toNatClampNeg x3) rfl gX0_heardBy_X5_clockAt rfl dsc_X5_clockAt ⟨rfl, rfl⟩ ⟨by decide, by decide⟩ rfl rfl (Nat.le_of_ble_eq_true rfl) dX0_heardBy_63 rfl h (fun r12 μ11 h => ?_)
  refine jr_lsub (q := 67) C dX0_heardBy_66 rfl ?_
  refine jn_lng (fun x13 ex13 => ?_)
  replace h := h x13 ex13
  refine jr_lstore (q := 69) (lv' := [(6, .long x13), (4, .long x6), (2, .long x3), (0, .ref (z + mm_ad 6 0)), (1, .int p1)]) C dX0_heardBy_67 (by decide) rfl rfl ?_
  refine jr_lload (q := 71) C 0 dX0_heardBy_69 rfl rfl ?_
  refine jr_aload_n (q := 72) C 3 dX0_heardBy_71 rfl rfl rfl ?_
  refine jr_getR (q := 75) (ci := 0) (Cn := RX0) (T := TX0) (N := 11) (j := 5) C mf_6 rfl rfl (by decide) rfl 15 0 rfl rfl rfl nX0_heardBy_0 mX0_heardBy_1 dX0_heardBy_72 rfl rfl ?_
  refine jr_cvL (q := 78) (As := []) (rest := [.long x13]) C (f := 15) (i := 0) (ci := 3) mf_15 rfl rfl rfl (kX3_replyA l) rfl gX0_heardBy_X3_replyA rfl dsc_X3_replyA ⟨rfl, rfl⟩ ⟨by decide, by decide⟩ rfl rfl (Nat.le_of_ble_eq_true rfl) dX0_heardBy_75 rfl h (fun r15 μ14 h => ?_)
  refine jr_lsub (q := 79) C dX0_heardBy_78 rfl ?_
  refine jr_aload_n (q := 80) C 3 dX0_heardBy_79 rfl rfl rfl ?_
  refine jr_getR (q := 83) (ci := 0) (Cn := RX0) (T := TX0) (N := 11) (j := 5) C mf_6 rfl rfl (by decide) rfl 15 0 rfl rfl rfl nX0_heardBy_0 mX0_heardBy_1 dX0_heardBy_80 rfl rfl ?_
  refine jr_getI (q := 86) (ci := 3) (Cn := RX3) (T := TX3) (N := 9) (j := 7) C mf_15 rfl rfl (by decide) rfl rfl nX0_heardBy_3 mX0_heardBy_8 dX0_heardBy_83 rfl rfl ?_
  refine jr_i2l (q := 87) C dX0_heardBy_86 rfl ?_
  refine jr_lsub (q := 88) C dX0_heardBy_87 rfl ?_
  refine jr_l2i (q := 89) C dX0_heardBy_88 rfl ?_
  exact jr_iret C hr hk dX0_heardBy_89 h
theorem nX0_isPlaced_0 : ∀ w ∈ wsX00, w ∈ wsX0_isPlaced := fun _ h => List.mem_cons_of_mem _ (List.mem_append_left _ (List.mem_append_right _ h))
theorem mX0_isPlaced_1 : Cond.fieldLink RX0 68 RX0 (TX0 1).2.1 (TX0 1).2.2.1 ∈ wsX0_isPlaced := List.mem_of_getElem? (i := 1) (by decide +kernel)
theorem nX0_isPlaced_4 : ∀ w ∈ wsX40, w ∈ wsX0_isPlaced := fun _ h => List.mem_cons_of_mem _ (List.mem_append_right _ h)
theorem mX0_isPlaced_3 : Cond.fieldLink RX0 161 RX4 (TX4 3).2.1 (TX4 3).2.2.1 ∈ wsX0_isPlaced := List.mem_of_getElem? (i := 2) (by decide +kernel)
theorem dsc_X0_isPlaced : yX0_isPlaced.cls ≠ "java/lang/invoke/MethodHandle" ∧ yX0_isPlaced.cls ≠ "java/lang/invoke/VarHandle" ∧ (parseMethodDescriptor yX0_isPlaced.desc).map (fun d => d.parameters.length) = some 1 := by decide +kernel
def pX0_isPlaced_l4 (Po : Int32 → mm_T → Prop) (E4_33 : mm_T → Int32 → Prop) (K4 : mm_T → Int32 → Int32 → Int32 → Prop) (μ : mm_T) (a1 : Int32) (a2 : Int32) (a3 : Int32) : Prop := ((μ.1 6 0 1) ≤ a3 → E4_33 μ a2) ∧ (¬ ((μ.1 6 0 1) ≤ a3) → pX0_linkOf (fun r3 μ2 => (r3 < 49) ∧ (((μ2.1 12 r3 3) = 0 → K4 μ2 a1 a2 (a3 + (1 : Int32))) ∧ (¬ ((μ2.1 12 r3 3) = 0) → K4 μ2 a1 (a2 + (1 : Int32)) (a3 + (1 : Int32))))) μ a1 a3)
def pX0_isPlaced (Po : Int32 → mm_T → Prop) (μ : mm_T) (p1 : Int32) : Prop := lp_ (fun (K9 : mm_T × Int32 × Int32 × Int32 → Prop) (t9 : mm_T × Int32 × Int32 × Int32) => pX0_isPlaced_l4 Po (fun μ c2 => (c2 < (3 : Int32) → Po (0 : Int32) μ) ∧ (¬ (c2 < (3 : Int32)) → Po (1 : Int32) μ)) (fun μ a1 a2 a3 => K9 (μ, a1, a2, a3)) t9.1 t9.2.1 t9.2.2.1 t9.2.2.2) (μ, p1, (0 : Int32), (0 : Int32))
set_option maxHeartbeats 4000000 in
set_option maxRecDepth 100000 in
theorem kX0_isPlaced (l : Launch) (p1 : Int32) : mm_CI l yX0_isPlaced wsX0_isPlaced ({ frames := 1, cells := 0, slots := 0, locals := 22 }) (fun z => [.ref (z + mm_ad 6 0), .int p1]) (fun μ Po => pX0_isPlaced Po μ p1) := by
  refine je_Z (cc := cX0_isPlaced) (nL := 4) (own := RX0) (plainFor_of_name (by decide)) rfl rfl (fun _ => Nat.le_of_ble_eq_true rfl) ?_
  intro p e s m args below meth c D cy z μ Po C hr hk h
  change jJ p l e ({ frames := 1, cells := 0, slots := 0, locals := 22 }) s m args below meth c D cy z (MQ below (va_Qi Po (mm_Po D cy z) (mm_A z)) args s 0 0 (mm_A z)) 4 μ 0 [(0, .ref (z + mm_ad 6 0)), (1, .int p1)] []
  replace h : pX0_isPlaced Po μ p1 := h
  unfold pX0_isPlaced at h
  refine jr_iconst (q := 1) (v := (0 : Int32)) C dX0_isPlaced_0 (by decide) rfl ?_
  refine jr_istore_n (q := 2) (lv' := [(2, .int (0 : Int32)), (0, .ref (z + mm_ad 6 0)), (1, .int p1)]) C dX0_isPlaced_1 rfl (by decide) rfl rfl ?_
  refine jr_iconst (q := 3) (v := (0 : Int32)) C dX0_isPlaced_2 (by decide) rfl ?_
  refine jr_istore_n (q := 4) (lv' := [(3, .int (0 : Int32)), (2, .int (0 : Int32)), (0, .ref (z + mm_ad 6 0)), (1, .int p1)]) C dX0_isPlaced_3 rfl (by decide) rfl rfl ?_
  have l4 : ∀ (E4_33 : mm_T → Int32 → Prop) (hE4_33 : ∀ (μ : mm_T) (c2 : Int32), E4_33 μ c2 → jJ p l e ({ frames := 1, cells := 0, slots := 0, locals := 22 }) s m args below meth c D cy z (MQ below (va_Qi Po (mm_Po D cy z) (mm_A z)) args s 0 0 (mm_A z)) 4 μ 33 [(2, .int c2)] []), ∀ t9 : mm_T × Int32 × Int32 × Int32, lp_ (fun (K9 : mm_T × Int32 × Int32 × Int32 → Prop) (t9 : mm_T × Int32 × Int32 × Int32) => pX0_isPlaced_l4 Po E4_33 (fun μ a1 a2 a3 => K9 (μ, a1, a2, a3)) t9.1 t9.2.1 t9.2.2.1 t9.2.2.2) t9 → jJ p l e ({ frames := 1, cells := 0, slots := 0, locals := 22 }) s m args below meth c D cy z (MQ below (va_Qi Po (mm_Po D cy z) (mm_A z)) args s 0 0 (mm_A z)) 4 t9.1 4 [(0, .ref (z + mm_ad 6 0)), (1, .int t9.2.1), (2, .int t9.2.2.1), (3, .int t9.2.2.2)] [] := by
    intro E4_33 hE4_33 t9 h
    refine lp_go (P := fun t9 : mm_T × Int32 × Int32 × Int32 => jJ p l e ({ frames := 1, cells := 0, slots := 0, locals := 22 }) s m args below meth c D cy z (MQ below (va_Qi Po (mm_Po D cy z) (mm_A z)) args s 0 0 (mm_A z)) 4 t9.1 4 [(0, .ref (z + mm_ad 6 0)), (1, .int t9.2.1), (2, .int t9.2.2.1), (3, .int t9.2.2.2)] []) (fun K9 t9 hK h => ?_) t9 h
    obtain ⟨μ, a1, a2, a3⟩ := t9
    obtain ⟨K4, eK4⟩ : ∃ K : mm_T → Int32 → Int32 → Int32 → Prop, K = (fun μ a1 a2 a3 => K9 (μ, a1, a2, a3)) := ⟨_, rfl⟩
    have hK4 : ∀ (μ : mm_T) (a1 : Int32) (a2 : Int32) (a3 : Int32), K4 μ a1 a2 a3 → jJ p l e ({ frames := 1, cells := 0, slots := 0, locals := 22 }) s m args below meth c D cy z (MQ below (va_Qi Po (mm_Po D cy z) (mm_A z)) args s 0 0 (mm_A z)) 4 μ 4 [(0, .ref (z + mm_ad 6 0)), (1, .int a1), (2, .int a2), (3, .int a3)] [] := fun μ a1 a2 a3 h9 => hK (μ, a1, a2, a3) (by rw [eK4] at h9; exact h9)
    replace h : pX0_isPlaced_l4 Po E4_33 K4 μ a1 a2 a3 := by rw [eK4]; exact h
    unfold pX0_isPlaced_l4 at h
    refine jr_iload_n (q := 5) C 3 dX0_isPlaced_4 rfl rfl rfl ?_
    refine jr_aload_n (q := 6) C 0 dX0_isPlaced_5 rfl rfl rfl ?_
    refine jr_getI (q := 9) (ci := 0) (Cn := RX0) (T := TX0) (N := 11) (j := 1) C mf_6 rfl rfl (by decide) rfl rfl nX0_isPlaced_0 mX0_isPlaced_1 dX0_isPlaced_6 rfl rfl ?_
    refine jr_icmp_ge (q := 12) (tgt := 33) C dX0_isPlaced_9 (by decide) rfl (fun c6 => ?_) (fun c6 => ?_)
    · replace h := h.1 c6
      refine jr_sub [2] rfl ?_
      exact hE4_33 _ _ h
    · replace h := h.2 c6
      refine jr_aload_n (q := 13) C 0 dX0_isPlaced_12 rfl rfl rfl ?_
      refine jr_iload_n (q := 14) C 1 dX0_isPlaced_13 rfl rfl rfl ?_
      refine jr_iload_n (q := 15) C 3 dX0_isPlaced_14 rfl rfl rfl ?_
      refine jr_cvR (q := 18) (f0 := 12) (As := [.int a1, .int a3]) (rest := []) C (f := 6) (i := 0) (ci := 0) mf_6 rfl rfl rfl (kX0_linkOf l a1 a3) rfl gX0_isPlaced_X0_linkOf rfl dsc_X0_linkOf ⟨rfl, rfl⟩ ⟨by decide, by decide⟩ rfl rfl (Nat.le_of_ble_eq_true rfl) dX0_isPlaced_15 rfl h (fun r3 μ2 h => ?_)
      obtain ⟨g4, h⟩ := h
      refine jr_getI (q := 21) (ci := 4) (Cn := RX4) (T := TX4) (N := 5) (j := 3) C g4 rfl rfl (by decide) rfl rfl nX0_isPlaced_4 mX0_isPlaced_3 dX0_isPlaced_18 rfl rfl ?_
      refine jr_if_eq (q := 24) (tgt := 27) C dX0_isPlaced_21 (by decide) rfl (fun c5 => ?_) (fun c5 => ?_)
      · replace h := h.1 c5
        refine jr_iinc (q := 30) (lv' := [(3, .int (a3 + (1 : Int32))), (0, .ref (z + mm_ad 6 0)), (1, .int a1), (2, .int a2)]) C 3 dX0_isPlaced_27 rfl (by rfl) (by decide) rfl rfl ?_
        refine jr_goto (tgt := 4) C dX0_isPlaced_30 (by decide) ?_
        refine jr_sub [1, 2, 3, 0] rfl ?_
        exact hK4 _ _ _ _ h
      · replace h := h.2 c5
        refine jr_iinc (q := 27) (lv' := [(2, .int (a2 + (1 : Int32))), (0, .ref (z + mm_ad 6 0)), (1, .int a1), (3, .int a3)]) C 2 dX0_isPlaced_24 rfl (by rfl) (by decide) rfl rfl ?_
        refine jr_iinc (q := 30) (lv' := [(3, .int (a3 + (1 : Int32))), (2, .int (a2 + (1 : Int32))), (0, .ref (z + mm_ad 6 0)), (1, .int a1)]) C 3 dX0_isPlaced_27 rfl (by rfl) (by decide) rfl rfl ?_
        refine jr_goto (tgt := 4) C dX0_isPlaced_30 (by decide) ?_
        refine jr_sub [2, 3, 1, 0] rfl ?_
        exact hK4 _ _ _ _ h
  have x4_33 : ∀ (μ : mm_T) (c2 : Int32), ((c2 < (3 : Int32) → Po (0 : Int32) μ) ∧ (¬ (c2 < (3 : Int32)) → Po (1 : Int32) μ)) → jJ p l e ({ frames := 1, cells := 0, slots := 0, locals := 22 }) s m args below meth c D cy z (MQ below (va_Qi Po (mm_Po D cy z) (mm_A z)) args s 0 0 (mm_A z)) 4 μ 33 [(2, .int c2)] [] := by
    intro μ c2 h
    refine jr_iload_n (q := 34) C 0 dX0_isPlaced_33 rfl rfl rfl ?_
    refine jr_iconst (q := 35) (v := (3 : Int32)) C dX0_isPlaced_34 (by decide) rfl ?_
    refine jr_icmp_lt (q := 38) (tgt := 42) C dX0_isPlaced_35 (by decide) rfl (fun c1 => ?_) (fun c1 => ?_)
    · replace h := h.1 c1
      refine jr_iconst (q := 43) (v := (0 : Int32)) C dX0_isPlaced_42 (by decide) rfl ?_
      exact jr_zret C hr hk dX0_isPlaced_43 (by decide) h
    · replace h := h.2 c1
      refine jr_iconst (q := 39) (v := (1 : Int32)) C dX0_isPlaced_38 (by decide) rfl ?_
      refine jr_goto (tgt := 43) C dX0_isPlaced_39 (by decide) ?_
      exact jr_zret C hr hk dX0_isPlaced_43 (by decide) h
  refine jr_sub [2, 3, 1, 0] rfl ?_
  exact l4 _ x4_33 _ h
theorem nX0_placedCount_0 : ∀ w ∈ wsX00, w ∈ wsX0_placedCount := fun _ h => List.mem_cons_of_mem _ (List.mem_append_left _ (List.mem_append_right _ h))
theorem mX0_placedCount_1 : Cond.fieldLink RX0 68 RX0 (TX0 1).2.1 (TX0 1).2.2.1 ∈ wsX0_placedCount := List.mem_of_getElem? (i := 1) (by decide +kernel)
theorem dsc_X0_placedCount : yX0_placedCount.cls ≠ "java/lang/invoke/MethodHandle" ∧ yX0_placedCount.cls ≠ "java/lang/invoke/VarHandle" ∧ (parseMethodDescriptor yX0_placedCount.desc).map (fun d => d.parameters.length) = some 0 := by decide +kernel
def pX0_placedCount_l4 (Po : Int32 → mm_T → Prop) (E4_29 : mm_T → Int32 → Prop) (K4 : mm_T → Int32 → Int32 → Prop) (μ : mm_T) (a1 : Int32) (a2 : Int32) : Prop := ((μ.1 6 0 1) ≤ a2 → E4_29 μ a1) ∧ (¬ ((μ.1 6 0 1) ≤ a2) → pX0_isPlaced (fun r2 μ1 => (r2 = 0 → K4 μ1 a1 (a2 + (1 : Int32))) ∧ (¬ (r2 = 0) → K4 μ1 (a1 + (1 : Int32)) (a2 + (1 : Int32)))) μ a2)
def pX0_placedCount (Po : Int32 → mm_T → Prop) (μ : mm_T) : Prop := lp_ (fun (K9 : mm_T × Int32 × Int32 → Prop) (t9 : mm_T × Int32 × Int32) => pX0_placedCount_l4 Po (fun μ c1 => Po c1 μ) (fun μ a1 a2 => K9 (μ, a1, a2)) t9.1 t9.2.1 t9.2.2) (μ, (0 : Int32), (0 : Int32))
set_option maxHeartbeats 4000000 in
set_option maxRecDepth 100000 in
theorem kX0_placedCount (l : Launch) : mm_CI l yX0_placedCount wsX0_placedCount ({ frames := 2, cells := 0, slots := 0, locals := 45 }) (fun z => [.ref (z + mm_ad 6 0)]) (fun μ Po => pX0_placedCount Po μ) := by
  refine je_I (cc := cX0_placedCount) (nL := 3) (own := RX0) (plainFor_of_name (by decide)) rfl rfl (fun _ => Nat.le_of_ble_eq_true rfl) ?_
  intro p e s m args below meth c D cy z μ Po C hr hk h
  change jJ p l e ({ frames := 2, cells := 0, slots := 0, locals := 45 }) s m args below meth c D cy z (MQ below (va_Qi Po (mm_Po D cy z) (mm_A z)) args s 0 0 (mm_A z)) 3 μ 0 [(0, .ref (z + mm_ad 6 0))] []
  replace h : pX0_placedCount Po μ := h
  unfold pX0_placedCount at h
  refine jr_iconst (q := 1) (v := (0 : Int32)) C dX0_placedCount_0 (by decide) rfl ?_
  refine jr_istore_n (q := 2) (lv' := [(1, .int (0 : Int32)), (0, .ref (z + mm_ad 6 0))]) C dX0_placedCount_1 rfl (by decide) rfl rfl ?_
  refine jr_iconst (q := 3) (v := (0 : Int32)) C dX0_placedCount_2 (by decide) rfl ?_
  refine jr_istore_n (q := 4) (lv' := [(2, .int (0 : Int32)), (1, .int (0 : Int32)), (0, .ref (z + mm_ad 6 0))]) C dX0_placedCount_3 rfl (by decide) rfl rfl ?_
  have l4 : ∀ (E4_29 : mm_T → Int32 → Prop) (hE4_29 : ∀ (μ : mm_T) (c1 : Int32), E4_29 μ c1 → jJ p l e ({ frames := 2, cells := 0, slots := 0, locals := 45 }) s m args below meth c D cy z (MQ below (va_Qi Po (mm_Po D cy z) (mm_A z)) args s 0 0 (mm_A z)) 3 μ 29 [(1, .int c1)] []), ∀ t9 : mm_T × Int32 × Int32, lp_ (fun (K9 : mm_T × Int32 × Int32 → Prop) (t9 : mm_T × Int32 × Int32) => pX0_placedCount_l4 Po E4_29 (fun μ a1 a2 => K9 (μ, a1, a2)) t9.1 t9.2.1 t9.2.2) t9 → jJ p l e ({ frames := 2, cells := 0, slots := 0, locals := 45 }) s m args below meth c D cy z (MQ below (va_Qi Po (mm_Po D cy z) (mm_A z)) args s 0 0 (mm_A z)) 3 t9.1 4 [(0, .ref (z + mm_ad 6 0)), (1, .int t9.2.1), (2, .int t9.2.2)] [] := by
    intro E4_29 hE4_29 t9 h
    refine lp_go (P := fun t9 : mm_T × Int32 × Int32 => jJ p l e ({ frames := 2, cells := 0, slots := 0, locals := 45 }) s m args below meth c D cy z (MQ below (va_Qi Po (mm_Po D cy z) (mm_A z)) args s 0 0 (mm_A z)) 3 t9.1 4 [(0, .ref (z + mm_ad 6 0)), (1, .int t9.2.1), (2, .int t9.2.2)] []) (fun K9 t9 hK h => ?_) t9 h
    obtain ⟨μ, a1, a2⟩ := t9
    obtain ⟨K4, eK4⟩ : ∃ K : mm_T → Int32 → Int32 → Prop, K = (fun μ a1 a2 => K9 (μ, a1, a2)) := ⟨_, rfl⟩
    have hK4 : ∀ (μ : mm_T) (a1 : Int32) (a2 : Int32), K4 μ a1 a2 → jJ p l e ({ frames := 2, cells := 0, slots := 0, locals := 45 }) s m args below meth c D cy z (MQ below (va_Qi Po (mm_Po D cy z) (mm_A z)) args s 0 0 (mm_A z)) 3 μ 4 [(0, .ref (z + mm_ad 6 0)), (1, .int a1), (2, .int a2)] [] := fun μ a1 a2 h9 => hK (μ, a1, a2) (by rw [eK4] at h9; exact h9)
    replace h : pX0_placedCount_l4 Po E4_29 K4 μ a1 a2 := by rw [eK4]; exact h
    unfold pX0_placedCount_l4 at h
    refine jr_iload_n (q := 5) C 2 dX0_placedCount_4 rfl rfl rfl ?_
    refine jr_aload_n (q := 6) C 0 dX0_placedCount_5 rfl rfl rfl ?_
    refine jr_getI (q := 9) (ci := 0) (Cn := RX0) (T := TX0) (N := 11) (j := 1) C mf_6 rfl rfl (by decide) rfl rfl nX0_placedCount_0 mX0_placedCount_1 dX0_placedCount_6 rfl rfl ?_
    refine jr_icmp_ge (q := 12) (tgt := 29) C dX0_placedCount_9 (by decide) rfl (fun c4 => ?_) (fun c4 => ?_)
    · replace h := h.1 c4
      refine jr_sub [1] rfl ?_
      exact hE4_29 _ _ h
    · replace h := h.2 c4
      refine jr_aload_n (q := 13) C 0 dX0_placedCount_12 rfl rfl rfl ?_
      refine jr_iload_n (q := 14) C 2 dX0_placedCount_13 rfl rfl rfl ?_
      refine jr_cvI (q := 17) (As := [.int a2]) (rest := []) C (f := 6) (i := 0) (ci := 0) mf_6 rfl rfl rfl (kX0_isPlaced l a2) rfl gX0_placedCount_X0_isPlaced rfl dsc_X0_isPlaced ⟨rfl, rfl⟩ ⟨by decide, by decide⟩ rfl rfl (Nat.le_of_ble_eq_true rfl) dX0_placedCount_14 rfl h (fun r2 μ1 h => ?_)
      refine jr_if_eq (q := 20) (tgt := 23) C dX0_placedCount_17 (by decide) rfl (fun c3 => ?_) (fun c3 => ?_)
      · replace h := h.1 c3
        refine jr_iinc (q := 26) (lv' := [(2, .int (a2 + (1 : Int32))), (0, .ref (z + mm_ad 6 0)), (1, .int a1)]) C 2 dX0_placedCount_23 rfl (by rfl) (by decide) rfl rfl ?_
        refine jr_goto (tgt := 4) C dX0_placedCount_26 (by decide) ?_
        refine jr_sub [1, 2, 0] rfl ?_
        exact hK4 _ _ _ h
      · replace h := h.2 c3
        refine jr_iinc (q := 23) (lv' := [(1, .int (a1 + (1 : Int32))), (0, .ref (z + mm_ad 6 0)), (2, .int a2)]) C 1 dX0_placedCount_20 rfl (by rfl) (by decide) rfl rfl ?_
        refine jr_iinc (q := 26) (lv' := [(2, .int (a2 + (1 : Int32))), (1, .int (a1 + (1 : Int32))), (0, .ref (z + mm_ad 6 0))]) C 2 dX0_placedCount_23 rfl (by rfl) (by decide) rfl rfl ?_
        refine jr_goto (tgt := 4) C dX0_placedCount_26 (by decide) ?_
        refine jr_sub [2, 1, 0] rfl ?_
        exact hK4 _ _ _ h
  have x4_29 : ∀ (μ : mm_T) (c1 : Int32), (Po c1 μ) → jJ p l e ({ frames := 2, cells := 0, slots := 0, locals := 45 }) s m args below meth c D cy z (MQ below (va_Qi Po (mm_Po D cy z) (mm_A z)) args s 0 0 (mm_A z)) 3 μ 29 [(1, .int c1)] [] := by
    intro μ c1 h
    refine jr_iload_n (q := 30) C 0 dX0_placedCount_29 rfl rfl rfl ?_
    exact jr_iret C hr hk dX0_placedCount_30 h
  refine jr_sub [2, 1, 0] rfl ?_
  exact l4 _ x4_29 _ h
theorem nX1_clear_1 : ∀ w ∈ wsX10, w ∈ wsX1_clear := fun _ h => List.mem_cons_of_mem _ (List.mem_append_right _ h)
theorem mX1_clear_1 : Cond.fieldLink RX1 28 RX1 (TX1 4).2.1 (TX1 4).2.2.1 ∈ wsX1_clear := List.mem_of_getElem? (i := 1) (by decide +kernel)
theorem dsc_X1_clear : yX1_clear.cls ≠ "java/lang/invoke/MethodHandle" ∧ yX1_clear.cls ≠ "java/lang/invoke/VarHandle" ∧ (parseMethodDescriptor yX1_clear.desc).map (fun d => d.parameters.length) = some 0 := by decide +kernel
def pX1_clear (Po : mm_T → Prop) (μ : mm_T) : Prop := ∀ μ1 : mm_T, μ1 = mm_I μ 21 0 4 (0 : Int32) → (Po μ1)
set_option maxHeartbeats 4000000 in
set_option maxRecDepth 100000 in
theorem kX1_clear (l : Launch) : mm_CV l yX1_clear wsX1_clear ({ frames := 0, cells := 0, slots := 0, locals := 0 }) (fun z => [.ref (z + mm_ad 21 0)]) (fun μ Po => pX1_clear Po μ) := by
  refine je_V (cc := cX1_clear) (nL := 1) (own := RX1) (plainFor_of_name (by decide)) rfl rfl (fun _ => Nat.le_of_ble_eq_true rfl) ?_
  intro p e s m args below meth c D cy z μ Po C hr hk h
  change jJ p l e ({ frames := 0, cells := 0, slots := 0, locals := 0 }) s m args below meth c D cy z (MQ below (va_Qv Po (mm_Po D cy z) (mm_A z)) args s 0 0 (mm_A z)) 1 μ 0 [(0, .ref (z + mm_ad 21 0))] []
  replace h : pX1_clear Po μ := h
  unfold pX1_clear at h
  refine jr_aload_n (q := 1) C 0 dX1_clear_0 rfl rfl rfl ?_
  refine jr_iconst (q := 2) (v := (0 : Int32)) C dX1_clear_1 (by decide) rfl ?_
  refine jr_putI (q := 5) (ci := 1) (Cn := RX1) (T := TX1) (N := 6) (j := 4) C mf_21 rfl rfl (by decide) rfl rfl tyX1 tyX1_ok nmX1 rfl (by decide +kernel) nX1_clear_1 mX1_clear_1 dX1_clear_2 rfl rfl ?_
  refine jn_mem (fun μ1 eμ1 => ?_)
  replace h := h μ1 eμ1
  exact jr_vret C hr hk dX1_clear_5 h
theorem nX1_add_1 : ∀ w ∈ wsX10, w ∈ wsX1_add := fun _ h => List.mem_cons_of_mem _ (List.mem_append_right _ h)
theorem mX1_add_1 : Cond.fieldLink RX1 15 RX1 (TX1 1).2.1 (TX1 1).2.2.1 ∈ wsX1_add := List.mem_of_getElem? (i := 1) (by decide +kernel)
theorem mX1_add_2 : Cond.fieldLink RX1 19 RX1 (TX1 2).2.1 (TX1 2).2.2.1 ∈ wsX1_add := List.mem_of_getElem? (i := 2) (by decide +kernel)
theorem mX1_add_3 : Cond.fieldLink RX1 22 RX1 (TX1 3).2.1 (TX1 3).2.2.1 ∈ wsX1_add := List.mem_of_getElem? (i := 3) (by decide +kernel)
theorem mX1_add_4 : Cond.fieldLink RX1 28 RX1 (TX1 4).2.1 (TX1 4).2.2.1 ∈ wsX1_add := List.mem_of_getElem? (i := 4) (by decide +kernel)
theorem dsc_X1_add : yX1_add.cls ≠ "java/lang/invoke/MethodHandle" ∧ yX1_add.cls ≠ "java/lang/invoke/VarHandle" ∧ (parseMethodDescriptor yX1_add.desc).map (fun d => d.parameters.length) = some 4 := by decide +kernel
def pX1_add (Po : mm_T → Prop) (μ : mm_T) (p1 : Int32) (p2 : Int32) (p3 : Int32) (p4 : Int32) : Prop := (p1 < 0 → Po μ) ∧ (¬ (p1 < 0) → ((7 : Int32) ≤ p1 → Po μ) ∧ (¬ ((7 : Int32) ≤ p1) → (vp_in p1 7) ∧ (∀ μ2 : mm_T, μ2 = mm_I μ 22 0 p1.toNatClampNeg p2 → ((vp_in p1 7) ∧ (∀ μ4 : mm_T, μ4 = mm_I μ2 23 0 p1.toNatClampNeg p3 → ((vp_in p1 7) ∧ (∀ μ6 : mm_T, μ6 = mm_I μ4 24 0 p1.toNatClampNeg p4 → (∀ μ7 : mm_T, μ7 = mm_I μ6 21 0 4 ((μ6.1 21 0 4) ||| ((1 : Int32) <<< (p1 &&& 31))) → (Po μ7)))))))))
set_option maxHeartbeats 4000000 in
set_option maxRecDepth 100000 in
theorem kX1_add (l : Launch) (p1 : Int32) (p2 : Int32) (p3 : Int32) (p4 : Int32) : mm_CV l yX1_add wsX1_add ({ frames := 0, cells := 0, slots := 0, locals := 0 }) (fun z => [.ref (z + mm_ad 21 0), .int p1, .int p2, .int p3, .int p4]) (fun μ Po => pX1_add Po μ p1 p2 p3 p4) := by
  refine je_V (cc := cX1_add) (nL := 5) (own := RX1) (plainFor_of_name (by decide)) rfl rfl (fun _ => Nat.le_of_ble_eq_true rfl) ?_
  intro p e s m args below meth c D cy z μ Po C hr hk h
  change jJ p l e ({ frames := 0, cells := 0, slots := 0, locals := 0 }) s m args below meth c D cy z (MQ below (va_Qv Po (mm_Po D cy z) (mm_A z)) args s 0 0 (mm_A z)) 5 μ 0 [(0, .ref (z + mm_ad 21 0)), (1, .int p1), (2, .int p2), (3, .int p3), (4, .int p4)] []
  replace h : pX1_add Po μ p1 p2 p3 p4 := h
  unfold pX1_add at h
  refine jr_iload_n (q := 1) C 1 dX1_add_0 rfl rfl rfl ?_
  refine jr_if_lt (q := 4) (tgt := 44) C dX1_add_1 (by decide) rfl (fun c9 => ?_) (fun c9 => ?_)
  · replace h := h.1 c9
    exact jr_vret C hr hk dX1_add_44 h
  · replace h := h.2 c9
    refine jr_iload_n (q := 5) C 1 dX1_add_4 rfl rfl rfl ?_
    refine jr_bipush (q := 7) (v := (7 : Int32)) C dX1_add_5 (by decide) rfl ?_
    refine jr_icmp_ge (q := 10) (tgt := 44) C dX1_add_7 (by decide) rfl (fun c8 => ?_) (fun c8 => ?_)
    · replace h := h.1 c8
      exact jr_vret C hr hk dX1_add_44 h
    · replace h := h.2 c8
      refine jr_aload_n (q := 11) C 0 dX1_add_10 rfl rfl rfl ?_
      refine jr_getR (q := 14) (ci := 1) (Cn := RX1) (T := TX1) (N := 6) (j := 1) C mf_21 rfl rfl (by decide) rfl 22 0 rfl rfl rfl nX1_add_1 mX1_add_1 dX1_add_11 rfl rfl ?_
      refine jr_iload_n (q := 15) C 1 dX1_add_14 rfl rfl rfl ?_
      refine jr_iload_n (q := 16) C 2 dX1_add_15 rfl rfl rfl ?_
      obtain ⟨g1, h⟩ := h
      refine jr_iast (q := 17) C mf_22 rfl g1 dX1_add_16 rfl ?_
      refine jn_mem (fun μ2 eμ2 => ?_)
      replace h := h μ2 eμ2
      refine jr_aload_n (q := 18) C 0 dX1_add_17 rfl rfl rfl ?_
      refine jr_getR (q := 21) (ci := 1) (Cn := RX1) (T := TX1) (N := 6) (j := 2) C mf_21 rfl rfl (by decide) rfl 23 0 rfl rfl rfl nX1_add_1 mX1_add_2 dX1_add_18 rfl rfl ?_
      refine jr_iload_n (q := 22) C 1 dX1_add_21 rfl rfl rfl ?_
      refine jr_iload_n (q := 23) C 3 dX1_add_22 rfl rfl rfl ?_
      obtain ⟨g3, h⟩ := h
      refine jr_iast (q := 24) C mf_23 rfl g3 dX1_add_23 rfl ?_
      refine jn_mem (fun μ4 eμ4 => ?_)
      replace h := h μ4 eμ4
      refine jr_aload_n (q := 25) C 0 dX1_add_24 rfl rfl rfl ?_
      refine jr_getR (q := 28) (ci := 1) (Cn := RX1) (T := TX1) (N := 6) (j := 3) C mf_21 rfl rfl (by decide) rfl 24 0 rfl rfl rfl nX1_add_1 mX1_add_3 dX1_add_25 rfl rfl ?_
      refine jr_iload_n (q := 29) C 1 dX1_add_28 rfl rfl rfl ?_
      refine jr_iload (q := 31) C 4 dX1_add_29 rfl rfl ?_
      obtain ⟨g5, h⟩ := h
      refine jr_iast (q := 32) C mf_24 rfl g5 dX1_add_31 rfl ?_
      refine jn_mem (fun μ6 eμ6 => ?_)
      replace h := h μ6 eμ6
      refine jr_aload_n (q := 33) C 0 dX1_add_32 rfl rfl rfl ?_
      refine jr_dup (q := 34) C dX1_add_33 rfl rfl ?_
      refine jr_getI (q := 37) (ci := 1) (Cn := RX1) (T := TX1) (N := 6) (j := 4) C mf_21 rfl rfl (by decide) rfl rfl nX1_add_1 mX1_add_4 dX1_add_34 rfl rfl ?_
      refine jr_iconst (q := 38) (v := (1 : Int32)) C dX1_add_37 (by decide) rfl ?_
      refine jr_iload_n (q := 39) C 1 dX1_add_38 rfl rfl rfl ?_
      refine jr_ishl (q := 40) C dX1_add_39 rfl ?_
      refine jr_ior (q := 41) C dX1_add_40 rfl ?_
      refine jr_putI (q := 44) (ci := 1) (Cn := RX1) (T := TX1) (N := 6) (j := 4) C mf_21 rfl rfl (by decide) rfl rfl tyX1 tyX1_ok nmX1 rfl (by decide +kernel) nX1_add_1 mX1_add_4 dX1_add_41 rfl rfl ?_
      refine jn_mem (fun μ7 eμ7 => ?_)
      replace h := h μ7 eμ7
      exact jr_vret C hr hk dX1_add_44 h
theorem nX0_fittingOf_0 : ∀ w ∈ wsX00, w ∈ wsX0_fittingOf := fun _ h => List.mem_cons_of_mem _ (List.mem_append_left _ (List.mem_append_left _ (List.mem_append_left _ (List.mem_append_right _ h))))
theorem mX0_fittingOf_1 : Cond.fieldLink RX0 58 RX0 (TX0 10).2.1 (TX0 10).2.2.1 ∈ wsX0_fittingOf := List.mem_of_getElem? (i := 1) (by decide +kernel)
theorem mX0_fittingOf_2 : Cond.fieldLink RX0 68 RX0 (TX0 1).2.1 (TX0 1).2.2.1 ∈ wsX0_fittingOf := List.mem_of_getElem? (i := 2) (by decide +kernel)
theorem nX0_fittingOf_4 : ∀ w ∈ wsX40, w ∈ wsX0_fittingOf := fun _ h => List.mem_cons_of_mem _ (List.mem_append_left _ (List.mem_append_left _ (List.mem_append_right _ h)))
theorem mX0_fittingOf_4 : Cond.fieldLink RX0 161 RX4 (TX4 3).2.1 (TX4 3).2.2.1 ∈ wsX0_fittingOf := List.mem_of_getElem? (i := 3) (by decide +kernel)
theorem mX0_fittingOf_5 : Cond.fieldLink RX0 11 RX0 (TX0 0).2.1 (TX0 0).2.2.1 ∈ wsX0_fittingOf := List.mem_of_getElem? (i := 4) (by decide +kernel)
theorem nX0_fittingOf_5 : ∀ w ∈ wsX50, w ∈ wsX0_fittingOf := fun _ h => List.mem_cons_of_mem _ (List.mem_append_left _ (List.mem_append_right _ h))
theorem mX0_fittingOf_7 : Cond.fieldLink RX0 120 RX5 (TX5 1).2.1 (TX5 1).2.2.1 ∈ wsX0_fittingOf := List.mem_of_getElem? (i := 5) (by decide +kernel)
theorem mX0_fittingOf_8 : Cond.fieldLink RX0 123 RX5 (TX5 2).2.1 (TX5 2).2.2.1 ∈ wsX0_fittingOf := List.mem_of_getElem? (i := 6) (by decide +kernel)
theorem mX0_fittingOf_9 : Cond.fieldLink RX0 167 RX4 (TX4 4).2.1 (TX4 4).2.2.1 ∈ wsX0_fittingOf := List.mem_of_getElem? (i := 7) (by decide +kernel)
theorem dsc_X0_fittingOf : yX0_fittingOf.cls ≠ "java/lang/invoke/MethodHandle" ∧ yX0_fittingOf.cls ≠ "java/lang/invoke/VarHandle" ∧ (parseMethodDescriptor yX0_fittingOf.desc).map (fun d => d.parameters.length) = some 1 := by decide +kernel
def pX0_fittingOf_l9 (Po : Nat → mm_T → Prop) (E9_67 : mm_T → Prop) (K9 : mm_T → Int32 → Int32 → Prop) (μ : mm_T) (a1 : Int32) (a2 : Int32) : Prop := ((μ.1 6 0 1) ≤ a2 → E9_67 μ) ∧ (¬ ((μ.1 6 0 1) ≤ a2) → pX0_linkOf (fun r3 μ2 => (r3 < 49) ∧ (((μ2.1 12 r3 3) = 0 → K9 μ2 a1 (a2 + (1 : Int32))) ∧ (¬ ((μ2.1 12 r3 3) = 0) → (vp_in a2 7) ∧ ((vp_in a2 7) ∧ (pX1_add (fun μ7 => K9 μ7 a1 (a2 + (1 : Int32))) μ2 a2 (μ2.1 9 a2.toNatClampNeg 1) (μ2.1 9 a2.toNatClampNeg 2) (μ2.1 12 r3 4)))))) μ a1 a2)
def pX0_fittingOf (Po : Nat → mm_T → Prop) (μ : mm_T) (p1 : Int32) : Prop := pX1_clear (fun μ1 => lp_ (fun (K9 : mm_T × Int32 × Int32 → Prop) (t9 : mm_T × Int32 × Int32) => pX0_fittingOf_l9 Po (fun μ => Po 0 μ) (fun μ a1 a2 => K9 (μ, a1, a2)) t9.1 t9.2.1 t9.2.2) (μ1, p1, (0 : Int32))) μ 
set_option maxHeartbeats 4000000 in
set_option maxRecDepth 100000 in
theorem kX0_fittingOf (l : Launch) (p1 : Int32) : mm_CR 21 l yX0_fittingOf wsX0_fittingOf ({ frames := 1, cells := 0, slots := 0, locals := 24 }) (fun z => [.ref (z + mm_ad 6 0), .int p1]) (fun μ Po => pX0_fittingOf Po μ p1) := by
  refine je_R (cc := cX0_fittingOf) (nL := 4) (own := RX0) (plainFor_of_name (by decide)) rfl rfl (fun _ => Nat.le_of_ble_eq_true rfl) ?_
  intro p e s m args below meth c D cy z μ Po C hr hk h
  change jJ p l e ({ frames := 1, cells := 0, slots := 0, locals := 24 }) s m args below meth c D cy z (MQ below (va_Qr (fun u : Nat × mm_T => Po u.1 u.2) (fun u a t => a = z + mm_ad 21 u.1 ∧ mm_Po D cy z u.2 t) (mm_A z)) args s 0 0 (mm_A z)) 4 μ 0 [(0, .ref (z + mm_ad 6 0)), (1, .int p1)] []
  replace h : pX0_fittingOf Po μ p1 := h
  unfold pX0_fittingOf at h
  refine jr_aload_n (q := 1) C 0 dX0_fittingOf_0 rfl rfl rfl ?_
  refine jr_getR (q := 4) (ci := 0) (Cn := RX0) (T := TX0) (N := 11) (j := 10) C mf_6 rfl rfl (by decide) rfl 21 0 rfl rfl rfl nX0_fittingOf_0 mX0_fittingOf_1 dX0_fittingOf_1 rfl rfl ?_
  refine jr_cvV (q := 7) (As := []) (rest := []) C (f := 21) (i := 0) (ci := 1) mf_21 rfl rfl rfl (kX1_clear l) rfl gX0_fittingOf_X1_clear rfl dsc_X1_clear ⟨rfl, rfl⟩ ⟨by decide, by decide⟩ rfl rfl (Nat.le_of_ble_eq_true rfl) dX0_fittingOf_4 rfl h (fun μ1 h => ?_)
  refine jr_iconst (q := 8) (v := (0 : Int32)) C dX0_fittingOf_7 (by decide) rfl ?_
  refine jr_istore_n (q := 9) (lv' := [(2, .int (0 : Int32)), (0, .ref (z + mm_ad 6 0)), (1, .int p1)]) C dX0_fittingOf_8 rfl (by decide) rfl rfl ?_
  have l9 : ∀ (E9_67 : mm_T → Prop) (hE9_67 : ∀ (μ : mm_T), E9_67 μ → jJ p l e ({ frames := 1, cells := 0, slots := 0, locals := 24 }) s m args below meth c D cy z (MQ below (va_Qr (fun u : Nat × mm_T => Po u.1 u.2) (fun u a t => a = z + mm_ad 21 u.1 ∧ mm_Po D cy z u.2 t) (mm_A z)) args s 0 0 (mm_A z)) 4 μ 67 [(0, .ref (z + mm_ad 6 0))] []), ∀ t9 : mm_T × Int32 × Int32, lp_ (fun (K9 : mm_T × Int32 × Int32 → Prop) (t9 : mm_T × Int32 × Int32) => pX0_fittingOf_l9 Po E9_67 (fun μ a1 a2 => K9 (μ, a1, a2)) t9.1 t9.2.1 t9.2.2) t9 → jJ p l e ({ frames := 1, cells := 0, slots := 0, locals := 24 }) s m args below meth c D cy z (MQ below (va_Qr (fun u : Nat × mm_T => Po u.1 u.2) (fun u a t => a = z + mm_ad 21 u.1 ∧ mm_Po D cy z u.2 t) (mm_A z)) args s 0 0 (mm_A z)) 4 t9.1 9 [(0, .ref (z + mm_ad 6 0)), (1, .int t9.2.1), (2, .int t9.2.2)] [] := by
    intro E9_67 hE9_67 t9 h
    refine lp_go (P := fun t9 : mm_T × Int32 × Int32 => jJ p l e ({ frames := 1, cells := 0, slots := 0, locals := 24 }) s m args below meth c D cy z (MQ below (va_Qr (fun u : Nat × mm_T => Po u.1 u.2) (fun u a t => a = z + mm_ad 21 u.1 ∧ mm_Po D cy z u.2 t) (mm_A z)) args s 0 0 (mm_A z)) 4 t9.1 9 [(0, .ref (z + mm_ad 6 0)), (1, .int t9.2.1), (2, .int t9.2.2)] []) (fun K9 t9 hK h => ?_) t9 h
    obtain ⟨μ, a1, a2⟩ := t9
    obtain ⟨K9, eK9⟩ : ∃ K : mm_T → Int32 → Int32 → Prop, K = (fun μ a1 a2 => K9 (μ, a1, a2)) := ⟨_, rfl⟩
    have hK9 : ∀ (μ : mm_T) (a1 : Int32) (a2 : Int32), K9 μ a1 a2 → jJ p l e ({ frames := 1, cells := 0, slots := 0, locals := 24 }) s m args below meth c D cy z (MQ below (va_Qr (fun u : Nat × mm_T => Po u.1 u.2) (fun u a t => a = z + mm_ad 21 u.1 ∧ mm_Po D cy z u.2 t) (mm_A z)) args s 0 0 (mm_A z)) 4 μ 9 [(0, .ref (z + mm_ad 6 0)), (1, .int a1), (2, .int a2)] [] := fun μ a1 a2 h9 => hK (μ, a1, a2) (by rw [eK9] at h9; exact h9)
    replace h : pX0_fittingOf_l9 Po E9_67 K9 μ a1 a2 := by rw [eK9]; exact h
    unfold pX0_fittingOf_l9 at h
    refine jr_iload_n (q := 10) C 2 dX0_fittingOf_9 rfl rfl rfl ?_
    refine jr_aload_n (q := 11) C 0 dX0_fittingOf_10 rfl rfl rfl ?_
    refine jr_getI (q := 14) (ci := 0) (Cn := RX0) (T := TX0) (N := 11) (j := 1) C mf_6 rfl rfl (by decide) rfl rfl nX0_fittingOf_0 mX0_fittingOf_2 dX0_fittingOf_11 rfl rfl ?_
    refine jr_icmp_ge (q := 17) (tgt := 67) C dX0_fittingOf_14 (by decide) rfl (fun c9 => ?_) (fun c9 => ?_)
    · replace h := h.1 c9
      refine jr_sub [0] rfl ?_
      exact hE9_67 _ h
    · replace h := h.2 c9
      refine jr_aload_n (q := 18) C 0 dX0_fittingOf_17 rfl rfl rfl ?_
      refine jr_iload_n (q := 19) C 1 dX0_fittingOf_18 rfl rfl rfl ?_
      refine jr_iload_n (q := 20) C 2 dX0_fittingOf_19 rfl rfl rfl ?_
      refine jr_cvR (q := 23) (f0 := 12) (As := [.int a1, .int a2]) (rest := []) C (f := 6) (i := 0) (ci := 0) mf_6 rfl rfl rfl (kX0_linkOf l a1 a2) rfl gX0_fittingOf_X0_linkOf rfl dsc_X0_linkOf ⟨rfl, rfl⟩ ⟨by decide, by decide⟩ rfl rfl (Nat.le_of_ble_eq_true rfl) dX0_fittingOf_20 rfl h (fun r3 μ2 h => ?_)
      refine jr_astore_n (q := 24) (lv' := [(3, .ref (z + mm_ad 12 r3)), (0, .ref (z + mm_ad 6 0)), (1, .int a1), (2, .int a2)]) C dX0_fittingOf_23 rfl (by decide) rfl rfl ?_
      refine jr_aload_n (q := 25) C 0 dX0_fittingOf_24 rfl rfl rfl ?_
      obtain ⟨g4, h⟩ := h
      refine jr_getI (q := 28) (ci := 4) (Cn := RX4) (T := TX4) (N := 5) (j := 3) C g4 rfl rfl (by decide) rfl rfl nX0_fittingOf_4 mX0_fittingOf_4 dX0_fittingOf_25 rfl rfl ?_
      refine jr_if_eq (q := 31) (tgt := 61) C dX0_fittingOf_28 (by decide) rfl (fun c8 => ?_) (fun c8 => ?_)
      · replace h := h.1 c8
        refine jr_iinc (q := 64) (lv' := [(2, .int (a2 + (1 : Int32))), (3, .ref (z + mm_ad 12 r3)), (0, .ref (z + mm_ad 6 0)), (1, .int a1)]) C 3 dX0_fittingOf_61 rfl (by rfl) (by decide) rfl rfl ?_
        refine jr_goto (tgt := 9) C dX0_fittingOf_64 (by decide) ?_
        refine jr_sub [2, 3, 0] rfl ?_
        exact hK9 _ _ _ h
      · replace h := h.2 c8
        refine jr_aload_n (q := 32) C 1 dX0_fittingOf_31 rfl rfl rfl ?_
        refine jr_getR (q := 35) (ci := 0) (Cn := RX0) (T := TX0) (N := 11) (j := 10) C mf_6 rfl rfl (by decide) rfl 21 0 rfl rfl rfl nX0_fittingOf_0 mX0_fittingOf_1 dX0_fittingOf_32 rfl rfl ?_
        refine jr_iload_n (q := 36) C 3 dX0_fittingOf_35 rfl rfl rfl ?_
        refine jr_aload_n (q := 37) C 1 dX0_fittingOf_36 rfl rfl rfl ?_
        refine jr_getR (q := 40) (ci := 0) (Cn := RX0) (T := TX0) (N := 11) (j := 0) C mf_6 rfl rfl (by decide) rfl 7 0 rfl rfl rfl nX0_fittingOf_0 mX0_fittingOf_5 dX0_fittingOf_37 rfl rfl ?_
        refine jr_iload_n (q := 41) C 3 dX0_fittingOf_40 rfl rfl rfl ?_
        obtain ⟨g5, h⟩ := h
        refine jr_aald (q := 42) (t := 1) C mf_7 9 (fun _ => rfl) (fun _ _ => rfl) rfl (by decide) g5 dX0_fittingOf_41 rfl ?_
        refine jr_getI (q := 45) (ci := 5) (Cn := RX5) (T := TX5) (N := 8) (j := 1) C (mm_lt g5) rfl rfl (by decide) rfl rfl nX0_fittingOf_5 mX0_fittingOf_7 dX0_fittingOf_42 rfl rfl ?_
        refine jr_aload_n (q := 46) C 1 dX0_fittingOf_45 rfl rfl rfl ?_
        refine jr_getR (q := 49) (ci := 0) (Cn := RX0) (T := TX0) (N := 11) (j := 0) C mf_6 rfl rfl (by decide) rfl 7 0 rfl rfl rfl nX0_fittingOf_0 mX0_fittingOf_5 dX0_fittingOf_46 rfl rfl ?_
        refine jr_iload_n (q := 50) C 3 dX0_fittingOf_49 rfl rfl rfl ?_
        obtain ⟨g6, h⟩ := h
        refine jr_aald (q := 51) (t := 1) C mf_7 9 (fun _ => rfl) (fun _ _ => rfl) rfl (by decide) g6 dX0_fittingOf_50 rfl ?_
        refine jr_getI (q := 54) (ci := 5) (Cn := RX5) (T := TX5) (N := 8) (j := 2) C (mm_lt g6) rfl rfl (by decide) rfl rfl nX0_fittingOf_5 mX0_fittingOf_8 dX0_fittingOf_51 rfl rfl ?_
        refine jr_aload_n (q := 55) C 0 dX0_fittingOf_54 rfl rfl rfl ?_
        refine jr_getI (q := 58) (ci := 4) (Cn := RX4) (T := TX4) (N := 5) (j := 4) C g4 rfl rfl (by decide) rfl rfl nX0_fittingOf_4 mX0_fittingOf_9 dX0_fittingOf_55 rfl rfl ?_
        refine jr_cvV (q := 61) (As := [.int a2, .int (μ2.1 9 a2.toNatClampNeg 1), .int (μ2.1 9 a2.toNatClampNeg 2), .int (μ2.1 12 r3 4)]) (rest := []) C (f := 21) (i := 0) (ci := 1) mf_21 rfl rfl rfl (kX1_add l a2 (μ2.1 9 a2.toNatClampNeg 1) (μ2.1 9 a2.toNatClampNeg 2) (μ2.1 12 r3 4)) rfl gX0_fittingOf_X1_add rfl dsc_X1_add ⟨rfl, rfl⟩ ⟨by decide, by decide⟩ rfl rfl (Nat.le_of_ble_eq_true rfl) dX0_fittingOf_58 rfl h (fun μ7 h => ?_)
        refine jr_iinc (q := 64) (lv' := [(2, .int (a2 + (1 : Int32))), (3, .ref (z + mm_ad 12 r3)), (0, .ref (z + mm_ad 6 0)), (1, .int a1)]) C 3 dX0_fittingOf_61 rfl (by rfl) (by decide) rfl rfl ?_
        refine jr_goto (tgt := 9) C dX0_fittingOf_64 (by decide) ?_
        refine jr_sub [2, 3, 0] rfl ?_
        exact hK9 _ _ _ h
  have x9_67 : ∀ (μ : mm_T), (Po 0 μ) → jJ p l e ({ frames := 1, cells := 0, slots := 0, locals := 24 }) s m args below meth c D cy z (MQ below (va_Qr (fun u : Nat × mm_T => Po u.1 u.2) (fun u a t => a = z + mm_ad 21 u.1 ∧ mm_Po D cy z u.2 t) (mm_A z)) args s 0 0 (mm_A z)) 4 μ 67 [(0, .ref (z + mm_ad 6 0))] [] := by
    intro μ h
    refine jr_aload_n (q := 68) C 0 dX0_fittingOf_67 rfl rfl rfl ?_
    refine jr_getR (q := 71) (ci := 0) (Cn := RX0) (T := TX0) (N := 11) (j := 10) C mf_6 rfl rfl (by decide) rfl 21 0 rfl rfl rfl nX0_fittingOf_0 mX0_fittingOf_1 dX0_fittingOf_68 rfl rfl ?_
    exact jr_aret (i := 0) C hr hk dX0_fittingOf_71 h
  refine jr_sub [1, 2, 0] rfl ?_
  exact l9 _ x9_67 _ h
theorem nX1_asks_1 : ∀ w ∈ wsX10, w ∈ wsX1_asks := fun _ h => List.mem_cons_of_mem _ (List.mem_append_right _ h)
theorem mX1_asks_1 : Cond.fieldLink RX1 28 RX1 (TX1 4).2.1 (TX1 4).2.2.1 ∈ wsX1_asks := List.mem_of_getElem? (i := 1) (by decide +kernel)
theorem dsc_X1_asks : yX1_asks.cls ≠ "java/lang/invoke/MethodHandle" ∧ yX1_asks.cls ≠ "java/lang/invoke/VarHandle" ∧ (parseMethodDescriptor yX1_asks.desc).map (fun d => d.parameters.length) = some 1 := by decide +kernel
def pX1_asks (Po : Int32 → mm_T → Prop) (μ : mm_T) (p1 : Int32) : Prop := (¬ (((μ.1 21 0 4) >>> (p1 &&& 31)) &&& (1 : Int32)) = (1 : Int32) → Po (0 : Int32) μ) ∧ ((((μ.1 21 0 4) >>> (p1 &&& 31)) &&& (1 : Int32)) = (1 : Int32) → Po (1 : Int32) μ)
set_option maxHeartbeats 4000000 in
set_option maxRecDepth 100000 in
theorem kX1_asks (l : Launch) (p1 : Int32) : mm_CI l yX1_asks wsX1_asks ({ frames := 0, cells := 0, slots := 0, locals := 0 }) (fun z => [.ref (z + mm_ad 21 0), .int p1]) (fun μ Po => pX1_asks Po μ p1) := by
  refine je_Z (cc := cX1_asks) (nL := 2) (own := RX1) (plainFor_of_name (by decide)) rfl rfl (fun _ => Nat.le_of_ble_eq_true rfl) ?_
  intro p e s m args below meth c D cy z μ Po C hr hk h
  change jJ p l e ({ frames := 0, cells := 0, slots := 0, locals := 0 }) s m args below meth c D cy z (MQ below (va_Qi Po (mm_Po D cy z) (mm_A z)) args s 0 0 (mm_A z)) 2 μ 0 [(0, .ref (z + mm_ad 21 0)), (1, .int p1)] []
  replace h : pX1_asks Po μ p1 := h
  unfold pX1_asks at h
  refine jr_aload_n (q := 1) C 0 dX1_asks_0 rfl rfl rfl ?_
  refine jr_getI (q := 4) (ci := 1) (Cn := RX1) (T := TX1) (N := 6) (j := 4) C mf_21 rfl rfl (by decide) rfl rfl nX1_asks_1 mX1_asks_1 dX1_asks_1 rfl rfl ?_
  refine jr_iload_n (q := 5) C 1 dX1_asks_4 rfl rfl rfl ?_
  refine jr_ishr (q := 6) C dX1_asks_5 rfl ?_
  refine jr_iconst (q := 7) (v := (1 : Int32)) C dX1_asks_6 (by decide) rfl ?_
  refine jr_iand (q := 8) C dX1_asks_7 rfl ?_
  refine jr_iconst (q := 9) (v := (1 : Int32)) C dX1_asks_8 (by decide) rfl ?_
  refine jr_icmp_ne (q := 12) (tgt := 16) C dX1_asks_9 (by decide) rfl (fun c1 => ?_) (fun c1 => ?_)
  · replace h := h.1 c1
    refine jr_iconst (q := 17) (v := (0 : Int32)) C dX1_asks_16 (by decide) rfl ?_
    exact jr_zret C hr hk dX1_asks_17 (by decide) h
  · replace h := h.2 c1
    refine jr_iconst (q := 13) (v := (1 : Int32)) C dX1_asks_12 (by decide) rfl ?_
    refine jr_goto (tgt := 17) C dX1_asks_13 (by decide) ?_
    exact jr_zret C hr hk dX1_asks_17 (by decide) h
theorem nX1_misfitBy_1 : ∀ w ∈ wsX10, w ∈ wsX1_misfitBy := fun _ h => List.mem_cons_of_mem _ (List.mem_append_left _ (List.mem_append_right _ h))
theorem mX1_misfitBy_1 : Cond.fieldLink RX1 22 RX1 (TX1 3).2.1 (TX1 3).2.2.1 ∈ wsX1_misfitBy := List.mem_of_getElem? (i := 1) (by decide +kernel)
theorem mX1_misfitBy_2 : Cond.fieldLink RX1 9 RX1 (TX1 0).2.1 (TX1 0).2.2.1 ∈ wsX1_misfitBy := List.mem_of_getElem? (i := 2) (by decide +kernel)
theorem mX1_misfitBy_3 : Cond.fieldLink RX1 15 RX1 (TX1 1).2.1 (TX1 1).2.2.1 ∈ wsX1_misfitBy := List.mem_of_getElem? (i := 3) (by decide +kernel)
theorem mX1_misfitBy_4 : Cond.fieldLink RX1 19 RX1 (TX1 2).2.1 (TX1 2).2.2.1 ∈ wsX1_misfitBy := List.mem_of_getElem? (i := 4) (by decide +kernel)
theorem dsc_X1_misfitBy : yX1_misfitBy.cls ≠ "java/lang/invoke/MethodHandle" ∧ yX1_misfitBy.cls ≠ "java/lang/invoke/VarHandle" ∧ (parseMethodDescriptor yX1_misfitBy.desc).map (fun d => d.parameters.length) = some 3 := by decide +kernel
def pX1_misfitBy (Po : Int32 → mm_T → Prop) (μ : mm_T) (p1 : Int32) (p2 : Int32) (p3 : Int32) : Prop := (vp_in p1 7) ∧ ((vp_in p1 7) ∧ ((vp_in p1 7) ∧ (pX2_over (fun r5 μ4 => ∀ x6 : Int32, x6 = (μ.1 24 0 p1.toNatClampNeg) - r5 → (Po (x6 * x6) μ4)) μ ((μ.1 22 0 p1.toNatClampNeg) - p2) ((μ.1 23 0 p1.toNatClampNeg) - p3))))
set_option maxHeartbeats 4000000 in
set_option maxRecDepth 100000 in
theorem kX1_misfitBy (l : Launch) (p1 : Int32) (p2 : Int32) (p3 : Int32) : mm_CI l yX1_misfitBy wsX1_misfitBy ({ frames := 1, cells := 0, slots := 0, locals := 23 }) (fun z => [.ref (z + mm_ad 21 0), .int p1, .int p2, .int p3]) (fun μ Po => pX1_misfitBy Po μ p1 p2 p3) := by
  refine je_I (cc := cX1_misfitBy) (nL := 5) (own := RX1) (plainFor_of_name (by decide)) rfl rfl (fun _ => Nat.le_of_ble_eq_true rfl) ?_
  intro p e s m args below meth c D cy z μ Po C hr hk h
  change jJ p l e ({ frames := 1, cells := 0, slots := 0, locals := 23 }) s m args below meth c D cy z (MQ below (va_Qi Po (mm_Po D cy z) (mm_A z)) args s 0 0 (mm_A z)) 5 μ 0 [(0, .ref (z + mm_ad 21 0)), (1, .int p1), (2, .int p2), (3, .int p3)] []
  replace h : pX1_misfitBy Po μ p1 p2 p3 := h
  unfold pX1_misfitBy at h
  refine jr_aload_n (q := 1) C 0 dX1_misfitBy_0 rfl rfl rfl ?_
  refine jr_getR (q := 4) (ci := 1) (Cn := RX1) (T := TX1) (N := 6) (j := 3) C mf_21 rfl rfl (by decide) rfl 24 0 rfl rfl rfl nX1_misfitBy_1 mX1_misfitBy_1 dX1_misfitBy_1 rfl rfl ?_
  refine jr_iload_n (q := 5) C 1 dX1_misfitBy_4 rfl rfl rfl ?_
  obtain ⟨g1, h⟩ := h
  refine jr_iald (q := 6) C mf_24 rfl g1 dX1_misfitBy_5 rfl ?_
  refine jr_aload_n (q := 7) C 0 dX1_misfitBy_6 rfl rfl rfl ?_
  refine jr_getR (q := 10) (ci := 1) (Cn := RX1) (T := TX1) (N := 6) (j := 0) C mf_21 rfl rfl (by decide) rfl 19 0 rfl rfl rfl nX1_misfitBy_1 mX1_misfitBy_2 dX1_misfitBy_7 rfl rfl ?_
  refine jr_aload_n (q := 11) C 0 dX1_misfitBy_10 rfl rfl rfl ?_
  refine jr_getR (q := 14) (ci := 1) (Cn := RX1) (T := TX1) (N := 6) (j := 1) C mf_21 rfl rfl (by decide) rfl 22 0 rfl rfl rfl nX1_misfitBy_1 mX1_misfitBy_3 dX1_misfitBy_11 rfl rfl ?_
  refine jr_iload_n (q := 15) C 1 dX1_misfitBy_14 rfl rfl rfl ?_
  obtain ⟨g2, h⟩ := h
  refine jr_iald (q := 16) C mf_22 rfl g2 dX1_misfitBy_15 rfl ?_
  refine jr_iload_n (q := 17) C 2 dX1_misfitBy_16 rfl rfl rfl ?_
  refine jr_isub (q := 18) C dX1_misfitBy_17 rfl ?_
  refine jr_aload_n (q := 19) C 0 dX1_misfitBy_18 rfl rfl rfl ?_
  refine jr_getR (q := 22) (ci := 1) (Cn := RX1) (T := TX1) (N := 6) (j := 2) C mf_21 rfl rfl (by decide) rfl 23 0 rfl rfl rfl nX1_misfitBy_1 mX1_misfitBy_4 dX1_misfitBy_19 rfl rfl ?_
  refine jr_iload_n (q := 23) C 1 dX1_misfitBy_22 rfl rfl rfl ?_
  obtain ⟨g3, h⟩ := h
  refine jr_iald (q := 24) C mf_23 rfl g3 dX1_misfitBy_23 rfl ?_
  refine jr_iload_n (q := 25) C 3 dX1_misfitBy_24 rfl rfl rfl ?_
  refine jr_isub (q := 26) C dX1_misfitBy_25 rfl ?_
  refine jr_cvI (q := 29) (As := [.int ((μ.1 22 0 p1.toNatClampNeg) - p2), .int ((μ.1 23 0 p1.toNatClampNeg) - p3)]) (rest := [.int (μ.1 24 0 p1.toNatClampNeg)]) C (f := 19) (i := 0) (ci := 2) mf_19 rfl rfl rfl (kX2_over l ((μ.1 22 0 p1.toNatClampNeg) - p2) ((μ.1 23 0 p1.toNatClampNeg) - p3)) rfl gX1_misfitBy_X2_over rfl dsc_X2_over ⟨rfl, rfl⟩ ⟨by decide, by decide⟩ rfl rfl (Nat.le_of_ble_eq_true rfl) dX1_misfitBy_26 rfl h (fun r5 μ4 h => ?_)
  refine jr_isub (q := 30) C dX1_misfitBy_29 rfl ?_
  refine jn_int (fun x6 ex6 => ?_)
  replace h := h x6 ex6
  refine jr_istore (q := 32) (lv' := [(4, .int x6), (0, .ref (z + mm_ad 21 0)), (1, .int p1), (2, .int p2), (3, .int p3)]) C dX1_misfitBy_30 (by decide) rfl rfl ?_
  refine jr_iload (q := 34) C 0 dX1_misfitBy_32 rfl rfl ?_
  refine jr_iload (q := 36) C 0 dX1_misfitBy_34 rfl rfl ?_
  refine jr_imul (q := 37) C dX1_misfitBy_36 rfl ?_
  exact jr_iret C hr hk dX1_misfitBy_37 h
theorem dsc_X1_misfitAt : yX1_misfitAt.cls ≠ "java/lang/invoke/MethodHandle" ∧ yX1_misfitAt.cls ≠ "java/lang/invoke/VarHandle" ∧ (parseMethodDescriptor yX1_misfitAt.desc).map (fun d => d.parameters.length) = some 2 := by decide +kernel
def pX1_misfitAt_l5 (Po : Int32 → mm_T → Prop) (E5_38 : mm_T → Int32 → Prop) (K5 : mm_T → Int32 → Int32 → Int32 → Int32 → Prop) (μ : mm_T) (a1 : Int32) (a2 : Int32) (a3 : Int32) (a4 : Int32) : Prop := ((7 : Int32) ≤ a4 → E5_38 μ a3) ∧ (¬ ((7 : Int32) ≤ a4) → pX1_asks (fun r2 μ1 => (r2 = 0 → K5 μ1 a1 a2 a3 (a4 + (1 : Int32))) ∧ (¬ (r2 = 0) → pX1_misfitBy (fun r4 μ3 => ∀ x5 : Int32, x5 = a3 + r4 → (K5 μ3 a1 a2 x5 (a4 + (1 : Int32)))) μ1 a4 a1 a2)) μ a4)
def pX1_misfitAt (Po : Int32 → mm_T → Prop) (μ : mm_T) (p1 : Int32) (p2 : Int32) : Prop := lp_ (fun (K9 : mm_T × Int32 × Int32 × Int32 × Int32 → Prop) (t9 : mm_T × Int32 × Int32 × Int32 × Int32) => pX1_misfitAt_l5 Po (fun μ c3 => Po c3 μ) (fun μ a1 a2 a3 a4 => K9 (μ, a1, a2, a3, a4)) t9.1 t9.2.1 t9.2.2.1 t9.2.2.2.1 t9.2.2.2.2) (μ, p1, p2, (0 : Int32), (0 : Int32))
set_option maxHeartbeats 4000000 in
set_option maxRecDepth 100000 in
theorem kX1_misfitAt (l : Launch) (p1 : Int32) (p2 : Int32) : mm_CI l yX1_misfitAt wsX1_misfitAt ({ frames := 2, cells := 0, slots := 0, locals := 47 }) (fun z => [.ref (z + mm_ad 21 0), .int p1, .int p2]) (fun μ Po => pX1_misfitAt Po μ p1 p2) := by
  refine je_I (cc := cX1_misfitAt) (nL := 5) (own := RX1) (plainFor_of_name (by decide)) rfl rfl (fun _ => Nat.le_of_ble_eq_true rfl) ?_
  intro p e s m args below meth c D cy z μ Po C hr hk h
  change jJ p l e ({ frames := 2, cells := 0, slots := 0, locals := 47 }) s m args below meth c D cy z (MQ below (va_Qi Po (mm_Po D cy z) (mm_A z)) args s 0 0 (mm_A z)) 5 μ 0 [(0, .ref (z + mm_ad 21 0)), (1, .int p1), (2, .int p2)] []
  replace h : pX1_misfitAt Po μ p1 p2 := h
  unfold pX1_misfitAt at h
  refine jr_iconst (q := 1) (v := (0 : Int32)) C dX1_misfitAt_0 (by decide) rfl ?_
  refine jr_istore_n (q := 2) (lv' := [(3, .int (0 : Int32)), (0, .ref (z + mm_ad 21 0)), (1, .int p1), (2, .int p2)]) C dX1_misfitAt_1 rfl (by decide) rfl rfl ?_
  refine jr_iconst (q := 3) (v := (0 : Int32)) C dX1_misfitAt_2 (by decide) rfl ?_
  refine jr_istore (q := 5) (lv' := [(4, .int (0 : Int32)), (3, .int (0 : Int32)), (0, .ref (z + mm_ad 21 0)), (1, .int p1), (2, .int p2)]) C dX1_misfitAt_3 (by decide) rfl rfl ?_
  have l5 : ∀ (E5_38 : mm_T → Int32 → Prop) (hE5_38 : ∀ (μ : mm_T) (c3 : Int32), E5_38 μ c3 → jJ p l e ({ frames := 2, cells := 0, slots := 0, locals := 47 }) s m args below meth c D cy z (MQ below (va_Qi Po (mm_Po D cy z) (mm_A z)) args s 0 0 (mm_A z)) 5 μ 38 [(3, .int c3)] []), ∀ t9 : mm_T × Int32 × Int32 × Int32 × Int32, lp_ (fun (K9 : mm_T × Int32 × Int32 × Int32 × Int32 → Prop) (t9 : mm_T × Int32 × Int32 × Int32 × Int32) => pX1_misfitAt_l5 Po E5_38 (fun μ a1 a2 a3 a4 => K9 (μ, a1, a2, a3, a4)) t9.1 t9.2.1 t9.2.2.1 t9.2.2.2.1 t9.2.2.2.2) t9 → jJ p l e ({ frames := 2, cells := 0, slots := 0, locals := 47 }) s m args below meth c D cy z (MQ below (va_Qi Po (mm_Po D cy z) (mm_A z)) args s 0 0 (mm_A z)) 5 t9.1 5 [(0, .ref (z + mm_ad 21 0)), (1, .int t9.2.1), (2, .int t9.2.2.1), (3, .int t9.2.2.2.1), (4, .int t9.2.2.2.2)] [] := by
    intro E5_38 hE5_38 t9 h
    refine lp_go (P := fun t9 : mm_T × Int32 × Int32 × Int32 × Int32 => jJ p l e ({ frames := 2, cells := 0, slots := 0, locals := 47 }) s m args below meth c D cy z (MQ below (va_Qi Po (mm_Po D cy z) (mm_A z)) args s 0 0 (mm_A z)) 5 t9.1 5 [(0, .ref (z + mm_ad 21 0)), (1, .int t9.2.1), (2, .int t9.2.2.1), (3, .int t9.2.2.2.1), (4, .int t9.2.2.2.2)] []) (fun K9 t9 hK h => ?_) t9 h
    obtain ⟨μ, a1, a2, a3, a4⟩ := t9
    obtain ⟨K5, eK5⟩ : ∃ K : mm_T → Int32 → Int32 → Int32 → Int32 → Prop, K = (fun μ a1 a2 a3 a4 => K9 (μ, a1, a2, a3, a4)) := ⟨_, rfl⟩
    have hK5 : ∀ (μ : mm_T) (a1 : Int32) (a2 : Int32) (a3 : Int32) (a4 : Int32), K5 μ a1 a2 a3 a4 → jJ p l e ({ frames := 2, cells := 0, slots := 0, locals := 47 }) s m args below meth c D cy z (MQ below (va_Qi Po (mm_Po D cy z) (mm_A z)) args s 0 0 (mm_A z)) 5 μ 5 [(0, .ref (z + mm_ad 21 0)), (1, .int a1), (2, .int a2), (3, .int a3), (4, .int a4)] [] := fun μ a1 a2 a3 a4 h9 => hK (μ, a1, a2, a3, a4) (by rw [eK5] at h9; exact h9)
    replace h : pX1_misfitAt_l5 Po E5_38 K5 μ a1 a2 a3 a4 := by rw [eK5]; exact h
    unfold pX1_misfitAt_l5 at h
    refine jr_iload (q := 7) C 4 dX1_misfitAt_5 rfl rfl ?_
    refine jr_bipush (q := 9) (v := (7 : Int32)) C dX1_misfitAt_7 (by decide) rfl ?_
    refine jr_icmp_ge (q := 12) (tgt := 38) C dX1_misfitAt_9 (by decide) rfl (fun c7 => ?_) (fun c7 => ?_)
    · replace h := h.1 c7
      refine jr_sub [3] rfl ?_
      exact hE5_38 _ _ h
    · replace h := h.2 c7
      refine jr_aload_n (q := 13) C 0 dX1_misfitAt_12 rfl rfl rfl ?_
      refine jr_iload (q := 15) C 4 dX1_misfitAt_13 rfl rfl ?_
      refine jr_cvI (q := 18) (As := [.int a4]) (rest := []) C (f := 21) (i := 0) (ci := 1) mf_21 rfl rfl rfl (kX1_asks l a4) rfl gX1_misfitAt_X1_asks rfl dsc_X1_asks ⟨rfl, rfl⟩ ⟨by decide, by decide⟩ rfl rfl (Nat.le_of_ble_eq_true rfl) dX1_misfitAt_15 rfl h (fun r2 μ1 h => ?_)
      refine jr_if_eq (q := 21) (tgt := 32) C dX1_misfitAt_18 (by decide) rfl (fun c6 => ?_) (fun c6 => ?_)
      · replace h := h.1 c6
        refine jr_iinc (q := 35) (lv' := [(4, .int (a4 + (1 : Int32))), (0, .ref (z + mm_ad 21 0)), (1, .int a1), (2, .int a2), (3, .int a3)]) C 4 dX1_misfitAt_32 rfl (by rfl) (by decide) rfl rfl ?_
        refine jr_goto (tgt := 5) C dX1_misfitAt_35 (by decide) ?_
        refine jr_sub [1, 2, 3, 4, 0] rfl ?_
        exact hK5 _ _ _ _ _ h
      · replace h := h.2 c6
        refine jr_iload_n (q := 22) C 3 dX1_misfitAt_21 rfl rfl rfl ?_
        refine jr_aload_n (q := 23) C 0 dX1_misfitAt_22 rfl rfl rfl ?_
        refine jr_iload (q := 25) C 4 dX1_misfitAt_23 rfl rfl ?_
        refine jr_iload_n (q := 26) C 1 dX1_misfitAt_25 rfl rfl rfl ?_
        refine jr_iload_n (q := 27) C 2 dX1_misfitAt_26 rfl rfl rfl ?_
        refine jr_cvI (q := 30) (As := [.int a4, .int a1, .int a2]) (rest := [.int a3]) C (f := 21) (i := 0) (ci := 1) mf_21 rfl rfl rfl (kX1_misfitBy l a4 a1 a2) rfl gX1_misfitAt_X1_misfitBy rfl dsc_X1_misfitBy ⟨rfl, rfl⟩ ⟨by decide, by decide⟩ rfl rfl (Nat.le_of_ble_eq_true rfl) dX1_misfitAt_27 rfl h (fun r4 μ3 h => ?_)
        refine jr_iadd (q := 31) C dX1_misfitAt_30 rfl ?_
        refine jn_int (fun x5 ex5 => ?_)
        replace h := h x5 ex5
        refine jr_istore_n (q := 32) (lv' := [(3, .int x5), (0, .ref (z + mm_ad 21 0)), (1, .int a1), (2, .int a2), (4, .int a4)]) C dX1_misfitAt_31 rfl (by decide) rfl rfl ?_
        refine jr_iinc (q := 35) (lv' := [(4, .int (a4 + (1 : Int32))), (3, .int x5), (0, .ref (z + mm_ad 21 0)), (1, .int a1), (2, .int a2)]) C 4 dX1_misfitAt_32 rfl (by rfl) (by decide) rfl rfl ?_
        refine jr_goto (tgt := 5) C dX1_misfitAt_35 (by decide) ?_
        refine jr_sub [2, 3, 4, 1, 0] rfl ?_
        exact hK5 _ _ _ _ _ h
  have x5_38 : ∀ (μ : mm_T) (c3 : Int32), (Po c3 μ) → jJ p l e ({ frames := 2, cells := 0, slots := 0, locals := 47 }) s m args below meth c D cy z (MQ below (va_Qi Po (mm_Po D cy z) (mm_A z)) args s 0 0 (mm_A z)) 5 μ 38 [(3, .int c3)] [] := by
    intro μ c3 h
    refine jr_iload_n (q := 39) C 0 dX1_misfitAt_38 rfl rfl rfl ?_
    exact jr_iret C hr hk dX1_misfitAt_39 h
  refine jr_sub [2, 3, 4, 1, 0] rfl ?_
  exact l5 _ x5_38 _ h
theorem nX1_leastPlace_1 : ∀ w ∈ wsX10, w ∈ wsX1_leastPlace := fun _ h => List.mem_cons_of_mem _ (List.mem_append_right _ h)
theorem mX1_leastPlace_1 : Cond.fieldLink RX1 25 RX1 (TX1 5).2.1 (TX1 5).2.2.1 ∈ wsX1_leastPlace := List.mem_of_getElem? (i := 1) (by decide +kernel)
theorem dsc_X1_leastPlace : yX1_leastPlace.cls ≠ "java/lang/invoke/MethodHandle" ∧ yX1_leastPlace.cls ≠ "java/lang/invoke/VarHandle" ∧ (parseMethodDescriptor yX1_leastPlace.desc).map (fun d => d.parameters.length) = some 0 := by decide +kernel
def pX1_leastPlace_l4 (Po : Int32 → mm_T → Prop) (E4_36 : mm_T → Int32 → Prop) (K4 : mm_T → Int32 → Int32 → Prop) (μ : mm_T) (a1 : Int32) (a2 : Int32) : Prop := ((1024 : Int32) ≤ a2 → E4_36 μ a1) ∧ (¬ ((1024 : Int32) ≤ a2) → (vp_in a2 1024) ∧ ((vp_in a1 1024) ∧ (((μ.1 25 0 a1.toNatClampNeg) ≤ (μ.1 25 0 a2.toNatClampNeg) → K4 μ a1 (a2 + (1 : Int32))) ∧ (¬ ((μ.1 25 0 a1.toNatClampNeg) ≤ (μ.1 25 0 a2.toNatClampNeg)) → K4 μ a2 (a2 + (1 : Int32))))))
def pX1_leastPlace (Po : Int32 → mm_T → Prop) (μ : mm_T) : Prop := lp_ (fun (K9 : mm_T × Int32 × Int32 → Prop) (t9 : mm_T × Int32 × Int32) => pX1_leastPlace_l4 Po (fun μ c1 => Po c1 μ) (fun μ a1 a2 => K9 (μ, a1, a2)) t9.1 t9.2.1 t9.2.2) (μ, (0 : Int32), (1 : Int32))
set_option maxHeartbeats 4000000 in
set_option maxRecDepth 100000 in
theorem kX1_leastPlace (l : Launch) : mm_CI l yX1_leastPlace wsX1_leastPlace ({ frames := 0, cells := 0, slots := 0, locals := 0 }) (fun z => [.ref (z + mm_ad 21 0)]) (fun μ Po => pX1_leastPlace Po μ) := by
  refine je_I (cc := cX1_leastPlace) (nL := 3) (own := RX1) (plainFor_of_name (by decide)) rfl rfl (fun _ => Nat.le_of_ble_eq_true rfl) ?_
  intro p e s m args below meth c D cy z μ Po C hr hk h
  change jJ p l e ({ frames := 0, cells := 0, slots := 0, locals := 0 }) s m args below meth c D cy z (MQ below (va_Qi Po (mm_Po D cy z) (mm_A z)) args s 0 0 (mm_A z)) 3 μ 0 [(0, .ref (z + mm_ad 21 0))] []
  replace h : pX1_leastPlace Po μ := h
  unfold pX1_leastPlace at h
  refine jr_iconst (q := 1) (v := (0 : Int32)) C dX1_leastPlace_0 (by decide) rfl ?_
  refine jr_istore_n (q := 2) (lv' := [(1, .int (0 : Int32)), (0, .ref (z + mm_ad 21 0))]) C dX1_leastPlace_1 rfl (by decide) rfl rfl ?_
  refine jr_iconst (q := 3) (v := (1 : Int32)) C dX1_leastPlace_2 (by decide) rfl ?_
  refine jr_istore_n (q := 4) (lv' := [(2, .int (1 : Int32)), (1, .int (0 : Int32)), (0, .ref (z + mm_ad 21 0))]) C dX1_leastPlace_3 rfl (by decide) rfl rfl ?_
  have l4 : ∀ (E4_36 : mm_T → Int32 → Prop) (hE4_36 : ∀ (μ : mm_T) (c1 : Int32), E4_36 μ c1 → jJ p l e ({ frames := 0, cells := 0, slots := 0, locals := 0 }) s m args below meth c D cy z (MQ below (va_Qi Po (mm_Po D cy z) (mm_A z)) args s 0 0 (mm_A z)) 3 μ 36 [(1, .int c1)] []), ∀ t9 : mm_T × Int32 × Int32, lp_ (fun (K9 : mm_T × Int32 × Int32 → Prop) (t9 : mm_T × Int32 × Int32) => pX1_leastPlace_l4 Po E4_36 (fun μ a1 a2 => K9 (μ, a1, a2)) t9.1 t9.2.1 t9.2.2) t9 → jJ p l e ({ frames := 0, cells := 0, slots := 0, locals := 0 }) s m args below meth c D cy z (MQ below (va_Qi Po (mm_Po D cy z) (mm_A z)) args s 0 0 (mm_A z)) 3 t9.1 4 [(0, .ref (z + mm_ad 21 0)), (1, .int t9.2.1), (2, .int t9.2.2)] [] := by
    intro E4_36 hE4_36 t9 h
    refine lp_go (P := fun t9 : mm_T × Int32 × Int32 => jJ p l e ({ frames := 0, cells := 0, slots := 0, locals := 0 }) s m args below meth c D cy z (MQ below (va_Qi Po (mm_Po D cy z) (mm_A z)) args s 0 0 (mm_A z)) 3 t9.1 4 [(0, .ref (z + mm_ad 21 0)), (1, .int t9.2.1), (2, .int t9.2.2)] []) (fun K9 t9 hK h => ?_) t9 h
    obtain ⟨μ, a1, a2⟩ := t9
    obtain ⟨K4, eK4⟩ : ∃ K : mm_T → Int32 → Int32 → Prop, K = (fun μ a1 a2 => K9 (μ, a1, a2)) := ⟨_, rfl⟩
    have hK4 : ∀ (μ : mm_T) (a1 : Int32) (a2 : Int32), K4 μ a1 a2 → jJ p l e ({ frames := 0, cells := 0, slots := 0, locals := 0 }) s m args below meth c D cy z (MQ below (va_Qi Po (mm_Po D cy z) (mm_A z)) args s 0 0 (mm_A z)) 3 μ 4 [(0, .ref (z + mm_ad 21 0)), (1, .int a1), (2, .int a2)] [] := fun μ a1 a2 h9 => hK (μ, a1, a2) (by rw [eK4] at h9; exact h9)
    replace h : pX1_leastPlace_l4 Po E4_36 K4 μ a1 a2 := by rw [eK4]; exact h
    unfold pX1_leastPlace_l4 at h
    refine jr_iload_n (q := 5) C 2 dX1_leastPlace_4 rfl rfl rfl ?_
    refine jr_aload_n (q := 6) C 0 dX1_leastPlace_5 rfl rfl rfl ?_
    refine jr_getR (q := 9) (ci := 1) (Cn := RX1) (T := TX1) (N := 6) (j := 5) C mf_21 rfl rfl (by decide) rfl 25 0 rfl rfl rfl nX1_leastPlace_1 mX1_leastPlace_1 dX1_leastPlace_6 rfl rfl ?_
    refine jr_alen (q := 10) (v := (1024 : Int32)) C mf_25 rfl rfl (by decide) (by decide) dX1_leastPlace_9 rfl ?_
    refine jr_icmp_ge (q := 13) (tgt := 36) C dX1_leastPlace_10 (by decide) rfl (fun c4 => ?_) (fun c4 => ?_)
    · replace h := h.1 c4
      refine jr_sub [1] rfl ?_
      exact hE4_36 _ _ h
    · replace h := h.2 c4
      refine jr_aload_n (q := 14) C 0 dX1_leastPlace_13 rfl rfl rfl ?_
      refine jr_getR (q := 17) (ci := 1) (Cn := RX1) (T := TX1) (N := 6) (j := 5) C mf_21 rfl rfl (by decide) rfl 25 0 rfl rfl rfl nX1_leastPlace_1 mX1_leastPlace_1 dX1_leastPlace_14 rfl rfl ?_
      refine jr_iload_n (q := 18) C 2 dX1_leastPlace_17 rfl rfl rfl ?_
      obtain ⟨g1, h⟩ := h
      refine jr_iald (q := 19) C mf_25 rfl g1 dX1_leastPlace_18 rfl ?_
      refine jr_aload_n (q := 20) C 0 dX1_leastPlace_19 rfl rfl rfl ?_
      refine jr_getR (q := 23) (ci := 1) (Cn := RX1) (T := TX1) (N := 6) (j := 5) C mf_21 rfl rfl (by decide) rfl 25 0 rfl rfl rfl nX1_leastPlace_1 mX1_leastPlace_1 dX1_leastPlace_20 rfl rfl ?_
      refine jr_iload_n (q := 24) C 1 dX1_leastPlace_23 rfl rfl rfl ?_
      obtain ⟨g2, h⟩ := h
      refine jr_iald (q := 25) C mf_25 rfl g2 dX1_leastPlace_24 rfl ?_
      refine jr_icmp_ge (q := 28) (tgt := 30) C dX1_leastPlace_25 (by decide) rfl (fun c3 => ?_) (fun c3 => ?_)
      · replace h := h.1 c3
        refine jr_iinc (q := 33) (lv' := [(2, .int (a2 + (1 : Int32))), (0, .ref (z + mm_ad 21 0)), (1, .int a1)]) C 2 dX1_leastPlace_30 rfl (by rfl) (by decide) rfl rfl ?_
        refine jr_goto (tgt := 4) C dX1_leastPlace_33 (by decide) ?_
        refine jr_sub [1, 2, 0] rfl ?_
        exact hK4 _ _ _ h
      · replace h := h.2 c3
        refine jr_iload_n (q := 29) C 2 dX1_leastPlace_28 rfl rfl rfl ?_
        refine jr_istore_n (q := 30) (lv' := [(1, .int a2), (0, .ref (z + mm_ad 21 0)), (2, .int a2)]) C dX1_leastPlace_29 rfl (by decide) rfl rfl ?_
        refine jr_iinc (q := 33) (lv' := [(2, .int (a2 + (1 : Int32))), (1, .int a2), (0, .ref (z + mm_ad 21 0))]) C 2 dX1_leastPlace_30 rfl (by rfl) (by decide) rfl rfl ?_
        refine jr_goto (tgt := 4) C dX1_leastPlace_33 (by decide) ?_
        refine jr_sub [2, 1, 0] rfl ?_
        exact hK4 _ _ _ h
  have x4_36 : ∀ (μ : mm_T) (c1 : Int32), (Po c1 μ) → jJ p l e ({ frames := 0, cells := 0, slots := 0, locals := 0 }) s m args below meth c D cy z (MQ below (va_Qi Po (mm_Po D cy z) (mm_A z)) args s 0 0 (mm_A z)) 3 μ 36 [(1, .int c1)] [] := by
    intro μ c1 h
    refine jr_iload_n (q := 37) C 0 dX1_leastPlace_36 rfl rfl rfl ?_
    exact jr_iret C hr hk dX1_leastPlace_37 h
  refine jr_sub [2, 1, 0] rfl ?_
  exact l4 _ x4_36 _ h
theorem mX1_worstFitting_0 : Cond.constant RX1 83 (2147483647) ∈ wsX1_worstFitting := List.mem_of_getElem? (i := 1) (by decide +kernel)
theorem nX1_worstFitting_1 : ∀ w ∈ wsX10, w ∈ wsX1_worstFitting := fun _ h => List.mem_cons_of_mem _ (List.mem_append_left _ (List.mem_append_right _ h))
theorem mX1_worstFitting_2 : Cond.fieldLink RX1 25 RX1 (TX1 5).2.1 (TX1 5).2.2.1 ∈ wsX1_worstFitting := List.mem_of_getElem? (i := 2) (by decide +kernel)
theorem dsc_X1_worstFitting : yX1_worstFitting.cls ≠ "java/lang/invoke/MethodHandle" ∧ yX1_worstFitting.cls ≠ "java/lang/invoke/VarHandle" ∧ (parseMethodDescriptor yX1_worstFitting.desc).map (fun d => d.parameters.length) = some 0 := by decide +kernel
def pX1_worstFitting_l27 (Po : Int32 → mm_T → Prop) (E27_79 : mm_T → Int32 → Int32 → Int32 → Prop) (K27 : mm_T → Int32 → Int32 → Int32 → Int32 → Prop) (μ : mm_T) (a1 : Int32) (a2 : Int32) (a3 : Int32) (a4 : Int32) : Prop := ((1024 : Int32) ≤ a4 → E27_79 μ a1 a2 a3) ∧ (¬ ((1024 : Int32) ≤ a4) → (vp_in a4 1024) ∧ (pX1_misfitBy (fun r5 μ4 => ∀ x6 : Int32, x6 = (μ.1 25 0 a4.toNatClampNeg) - r5 → ((a2 ≤ x6 → K27 μ4 a1 a2 a3 (a4 + (1 : Int32))) ∧ (¬ (a2 ≤ x6) → K27 μ4 a3 x6 a3 (a4 + (1 : Int32))))) μ a3 (a4 - a4 / (32 : Int32) * (32 : Int32)) (a4 / (32 : Int32))))
def pX1_worstFitting_l7 (Po : Int32 → mm_T → Prop) (E7_85 : mm_T → Int32 → Prop) (K7 : mm_T → Int32 → Int32 → Int32 → Prop) (μ : mm_T) (a1 : Int32) (a2 : Int32) (a3 : Int32) : Prop := ((7 : Int32) ≤ a3 → E7_85 μ a1) ∧ (¬ ((7 : Int32) ≤ a3) → pX1_asks (fun r2 μ1 => (¬ r2 = 0 → lp_ (fun (K9 : mm_T × Int32 × Int32 × Int32 × Int32 → Prop) (t9 : mm_T × Int32 × Int32 × Int32 × Int32) => pX1_worstFitting_l27 Po (fun μ c1 c2 c3 => K7 μ c1 c2 (c3 + (1 : Int32))) (fun μ a1 a2 a3 a4 => K9 (μ, a1, a2, a3, a4)) t9.1 t9.2.1 t9.2.2.1 t9.2.2.2.1 t9.2.2.2.2) (μ1, a1, a2, a3, (0 : Int32))) ∧ (r2 = 0 → K7 μ1 a1 a2 (a3 + (1 : Int32)))) μ a3)
def pX1_worstFitting (Po : Int32 → mm_T → Prop) (μ : mm_T) : Prop := lp_ (fun (K9 : mm_T × Int32 × Int32 × Int32 → Prop) (t9 : mm_T × Int32 × Int32 × Int32) => pX1_worstFitting_l7 Po (fun μ c1 => Po c1 μ) (fun μ a1 a2 a3 => K9 (μ, a1, a2, a3)) t9.1 t9.2.1 t9.2.2.1 t9.2.2.2) (μ, (0 : Int32), (2147483647 : Int32), (0 : Int32))
set_option maxHeartbeats 4000000 in
set_option maxRecDepth 100000 in
theorem kX1_worstFitting (l : Launch) : mm_CI l yX1_worstFitting wsX1_worstFitting ({ frames := 2, cells := 0, slots := 0, locals := 47 }) (fun z => [.ref (z + mm_ad 21 0)]) (fun μ Po => pX1_worstFitting Po μ) := by
  refine je_I (cc := cX1_worstFitting) (nL := 6) (own := RX1) (plainFor_of_name (by decide)) rfl rfl (fun _ => Nat.le_of_ble_eq_true rfl) ?_
  intro p e s m args below meth c D cy z μ Po C hr hk h
  change jJ p l e ({ frames := 2, cells := 0, slots := 0, locals := 47 }) s m args below meth c D cy z (MQ below (va_Qi Po (mm_Po D cy z) (mm_A z)) args s 0 0 (mm_A z)) 6 μ 0 [(0, .ref (z + mm_ad 21 0))] []
  replace h : pX1_worstFitting Po μ := h
  unfold pX1_worstFitting at h
  refine jr_iconst (q := 1) (v := (0 : Int32)) C dX1_worstFitting_0 (by decide) rfl ?_
  refine jr_istore_n (q := 2) (lv' := [(1, .int (0 : Int32)), (0, .ref (z + mm_ad 21 0))]) C dX1_worstFitting_1 rfl (by decide) rfl rfl ?_
  refine jr_ldc (q := 4) (v := (2147483647 : Int32)) C dX1_worstFitting_2 mX1_worstFitting_0 rfl ?_
  refine jr_istore_n (q := 5) (lv' := [(2, .int (2147483647 : Int32)), (1, .int (0 : Int32)), (0, .ref (z + mm_ad 21 0))]) C dX1_worstFitting_4 rfl (by decide) rfl rfl ?_
  refine jr_iconst (q := 6) (v := (0 : Int32)) C dX1_worstFitting_5 (by decide) rfl ?_
  refine jr_istore_n (q := 7) (lv' := [(3, .int (0 : Int32)), (2, .int (2147483647 : Int32)), (1, .int (0 : Int32)), (0, .ref (z + mm_ad 21 0))]) C dX1_worstFitting_6 rfl (by decide) rfl rfl ?_
  have l7 : ∀ (E7_85 : mm_T → Int32 → Prop) (hE7_85 : ∀ (μ : mm_T) (c1 : Int32), E7_85 μ c1 → jJ p l e ({ frames := 2, cells := 0, slots := 0, locals := 47 }) s m args below meth c D cy z (MQ below (va_Qi Po (mm_Po D cy z) (mm_A z)) args s 0 0 (mm_A z)) 6 μ 85 [(1, .int c1)] []), ∀ t9 : mm_T × Int32 × Int32 × Int32, lp_ (fun (K9 : mm_T × Int32 × Int32 × Int32 → Prop) (t9 : mm_T × Int32 × Int32 × Int32) => pX1_worstFitting_l7 Po E7_85 (fun μ a1 a2 a3 => K9 (μ, a1, a2, a3)) t9.1 t9.2.1 t9.2.2.1 t9.2.2.2) t9 → jJ p l e ({ frames := 2, cells := 0, slots := 0, locals := 47 }) s m args below meth c D cy z (MQ below (va_Qi Po (mm_Po D cy z) (mm_A z)) args s 0 0 (mm_A z)) 6 t9.1 7 [(0, .ref (z + mm_ad 21 0)), (1, .int t9.2.1), (2, .int t9.2.2.1), (3, .int t9.2.2.2)] [] := by
    intro E7_85 hE7_85 t9 h
    refine lp_go (P := fun t9 : mm_T × Int32 × Int32 × Int32 => jJ p l e ({ frames := 2, cells := 0, slots := 0, locals := 47 }) s m args below meth c D cy z (MQ below (va_Qi Po (mm_Po D cy z) (mm_A z)) args s 0 0 (mm_A z)) 6 t9.1 7 [(0, .ref (z + mm_ad 21 0)), (1, .int t9.2.1), (2, .int t9.2.2.1), (3, .int t9.2.2.2)] []) (fun K9 t9 hK h => ?_) t9 h
    obtain ⟨μ, a1, a2, a3⟩ := t9
    obtain ⟨K7, eK7⟩ : ∃ K : mm_T → Int32 → Int32 → Int32 → Prop, K = (fun μ a1 a2 a3 => K9 (μ, a1, a2, a3)) := ⟨_, rfl⟩
    have hK7 : ∀ (μ : mm_T) (a1 : Int32) (a2 : Int32) (a3 : Int32), K7 μ a1 a2 a3 → jJ p l e ({ frames := 2, cells := 0, slots := 0, locals := 47 }) s m args below meth c D cy z (MQ below (va_Qi Po (mm_Po D cy z) (mm_A z)) args s 0 0 (mm_A z)) 6 μ 7 [(0, .ref (z + mm_ad 21 0)), (1, .int a1), (2, .int a2), (3, .int a3)] [] := fun μ a1 a2 a3 h9 => hK (μ, a1, a2, a3) (by rw [eK7] at h9; exact h9)
    replace h : pX1_worstFitting_l7 Po E7_85 K7 μ a1 a2 a3 := by rw [eK7]; exact h
    unfold pX1_worstFitting_l7 at h
    refine jr_iload_n (q := 8) C 3 dX1_worstFitting_7 rfl rfl rfl ?_
    refine jr_bipush (q := 10) (v := (7 : Int32)) C dX1_worstFitting_8 (by decide) rfl ?_
    refine jr_icmp_ge (q := 13) (tgt := 85) C dX1_worstFitting_10 (by decide) rfl (fun c10 => ?_) (fun c10 => ?_)
    · replace h := h.1 c10
      refine jr_sub [1] rfl ?_
      exact hE7_85 _ _ h
    · replace h := h.2 c10
      refine jr_aload_n (q := 14) C 0 dX1_worstFitting_13 rfl rfl rfl ?_
      refine jr_iload_n (q := 15) C 3 dX1_worstFitting_14 rfl rfl rfl ?_
      refine jr_cvI (q := 18) (As := [.int a3]) (rest := []) C (f := 21) (i := 0) (ci := 1) mf_21 rfl rfl rfl (kX1_asks l a3) rfl gX1_worstFitting_X1_asks rfl dsc_X1_asks ⟨rfl, rfl⟩ ⟨by decide, by decide⟩ rfl rfl (Nat.le_of_ble_eq_true rfl) dX1_worstFitting_15 rfl h (fun r2 μ1 h => ?_)
      refine jr_if_ne (q := 21) (tgt := 24) C dX1_worstFitting_18 (by decide) rfl (fun c9 => ?_) (fun c9 => ?_)
      · replace h := h.1 c9
        refine jr_iconst (q := 25) (v := (0 : Int32)) C dX1_worstFitting_24 (by decide) rfl ?_
        refine jr_istore (q := 27) (lv' := [(4, .int (0 : Int32)), (0, .ref (z + mm_ad 21 0)), (1, .int a1), (2, .int a2), (3, .int a3)]) C dX1_worstFitting_25 (by decide) rfl rfl ?_
        have l27 : ∀ (E27_79 : mm_T → Int32 → Int32 → Int32 → Prop) (hE27_79 : ∀ (μ : mm_T) (c1 : Int32) (c2 : Int32) (c3 : Int32), E27_79 μ c1 c2 c3 → jJ p l e ({ frames := 2, cells := 0, slots := 0, locals := 47 }) s m args below meth c D cy z (MQ below (va_Qi Po (mm_Po D cy z) (mm_A z)) args s 0 0 (mm_A z)) 6 μ 79 [(0, .ref (z + mm_ad 21 0)), (1, .int c1), (2, .int c2), (3, .int c3)] []), ∀ t9 : mm_T × Int32 × Int32 × Int32 × Int32, lp_ (fun (K9 : mm_T × Int32 × Int32 × Int32 × Int32 → Prop) (t9 : mm_T × Int32 × Int32 × Int32 × Int32) => pX1_worstFitting_l27 Po E27_79 (fun μ a1 a2 a3 a4 => K9 (μ, a1, a2, a3, a4)) t9.1 t9.2.1 t9.2.2.1 t9.2.2.2.1 t9.2.2.2.2) t9 → jJ p l e ({ frames := 2, cells := 0, slots := 0, locals := 47 }) s m args below meth c D cy z (MQ below (va_Qi Po (mm_Po D cy z) (mm_A z)) args s 0 0 (mm_A z)) 6 t9.1 27 [(0, .ref (z + mm_ad 21 0)), (1, .int t9.2.1), (2, .int t9.2.2.1), (3, .int t9.2.2.2.1), (4, .int t9.2.2.2.2)] [] := by
          intro E27_79 hE27_79 t9 h
          refine lp_go (P := fun t9 : mm_T × Int32 × Int32 × Int32 × Int32 => jJ p l e ({ frames := 2, cells := 0, slots := 0, locals := 47 }) s m args below meth c D cy z (MQ below (va_Qi Po (mm_Po D cy z) (mm_A z)) args s 0 0 (mm_A z)) 6 t9.1 27 [(0, .ref (z + mm_ad 21 0)), (1, .int t9.2.1), (2, .int t9.2.2.1), (3, .int t9.2.2.2.1), (4, .int t9.2.2.2.2)] []) (fun K9 t9 hK h => ?_) t9 h
          obtain ⟨μ, a1, a2, a3, a4⟩ := t9
          obtain ⟨K27, eK27⟩ : ∃ K : mm_T → Int32 → Int32 → Int32 → Int32 → Prop, K = (fun μ a1 a2 a3 a4 => K9 (μ, a1, a2, a3, a4)) := ⟨_, rfl⟩
          have hK27 : ∀ (μ : mm_T) (a1 : Int32) (a2 : Int32) (a3 : Int32) (a4 : Int32), K27 μ a1 a2 a3 a4 → jJ p l e ({ frames := 2, cells := 0, slots := 0, locals := 47 }) s m args below meth c D cy z (MQ below (va_Qi Po (mm_Po D cy z) (mm_A z)) args s 0 0 (mm_A z)) 6 μ 27 [(0, .ref (z + mm_ad 21 0)), (1, .int a1), (2, .int a2), (3, .int a3), (4, .int a4)] [] := fun μ a1 a2 a3 a4 h9 => hK (μ, a1, a2, a3, a4) (by rw [eK27] at h9; exact h9)
          replace h : pX1_worstFitting_l27 Po E27_79 K27 μ a1 a2 a3 a4 := by rw [eK27]; exact h
          unfold pX1_worstFitting_l27 at h
          refine jr_iload (q := 29) C 4 dX1_worstFitting_27 rfl rfl ?_
          refine jr_aload_n (q := 30) C 0 dX1_worstFitting_29 rfl rfl rfl ?_
          refine jr_getR (q := 33) (ci := 1) (Cn := RX1) (T := TX1) (N := 6) (j := 5) C mf_21 rfl rfl (by decide) rfl 25 0 rfl rfl rfl nX1_worstFitting_1 mX1_worstFitting_2 dX1_worstFitting_30 rfl rfl ?_
          refine jr_alen (q := 34) (v := (1024 : Int32)) C mf_25 rfl rfl (by decide) (by decide) dX1_worstFitting_33 rfl ?_
          refine jr_icmp_ge (q := 37) (tgt := 79) C dX1_worstFitting_34 (by decide) rfl (fun c8 => ?_) (fun c8 => ?_)
          · replace h := h.1 c8
            refine jr_sub [0, 1, 2, 3] rfl ?_
            exact hE27_79 _ _ _ _ h
          · replace h := h.2 c8
            refine jr_aload_n (q := 38) C 0 dX1_worstFitting_37 rfl rfl rfl ?_
            refine jr_getR (q := 41) (ci := 1) (Cn := RX1) (T := TX1) (N := 6) (j := 5) C mf_21 rfl rfl (by decide) rfl 25 0 rfl rfl rfl nX1_worstFitting_1 mX1_worstFitting_2 dX1_worstFitting_38 rfl rfl ?_
            refine jr_iload (q := 43) C 4 dX1_worstFitting_41 rfl rfl ?_
            obtain ⟨g3, h⟩ := h
            refine jr_iald (q := 44) C mf_25 rfl g3 dX1_worstFitting_43 rfl ?_
            refine jr_aload_n (q := 45) C 0 dX1_worstFitting_44 rfl rfl rfl ?_
            refine jr_iload_n (q := 46) C 3 dX1_worstFitting_45 rfl rfl rfl ?_
            refine jr_iload (q := 48) C 4 dX1_worstFitting_46 rfl rfl ?_
            refine jr_bipush (q := 50) (v := (32 : Int32)) C dX1_worstFitting_48 (by decide) rfl ?_
            refine jr_irem (q := 51) C dX1_worstFitting_50 (by decide) rfl ?_
            refine jr_iload (q := 53) C 4 dX1_worstFitting_51 rfl rfl ?_
            refine jr_bipush (q := 55) (v := (32 : Int32)) C dX1_worstFitting_53 (by decide) rfl ?_
            refine jr_idiv (q := 56) C dX1_worstFitting_55 (by decide) rfl ?_
            refine jr_cvI (q := 59) (As := [.int a3, .int (a4 - a4 / (32 : Int32) * (32 : Int32)), .int (a4 / (32 : Int32))]) (rest := [.int (μ.1 25 0 a4.toNatClampNeg)]) C (f := 21) (i := 0) (ci := 1) mf_21 rfl rfl rfl (kX1_misfitBy l a3 (a4 - a4 / (32 : Int32) * (32 : Int32)) (a4 / (32 : Int32))) rfl gX1_worstFitting_X1_misfitBy rfl dsc_X1_misfitBy ⟨rfl, rfl⟩ ⟨by decide, by decide⟩ rfl rfl (Nat.le_of_ble_eq_true rfl) dX1_worstFitting_56 rfl h (fun r5 μ4 h => ?_)
            refine jr_isub (q := 60) C dX1_worstFitting_59 rfl ?_
            refine jn_int (fun x6 ex6 => ?_)
            replace h := h x6 ex6
            refine jr_istore (q := 62) (lv' := [(5, .int x6), (0, .ref (z + mm_ad 21 0)), (1, .int a1), (2, .int a2), (3, .int a3), (4, .int a4)]) C dX1_worstFitting_60 (by decide) rfl rfl ?_
            refine jr_iload (q := 64) C 0 dX1_worstFitting_62 rfl rfl ?_
            refine jr_iload_n (q := 65) C 3 dX1_worstFitting_64 rfl rfl rfl ?_
            refine jr_icmp_ge (q := 68) (tgt := 73) C dX1_worstFitting_65 (by decide) rfl (fun c7 => ?_) (fun c7 => ?_)
            · replace h := h.1 c7
              refine jr_iinc (q := 76) (lv' := [(4, .int (a4 + (1 : Int32))), (5, .int x6), (0, .ref (z + mm_ad 21 0)), (1, .int a1), (2, .int a2), (3, .int a3)]) C 5 dX1_worstFitting_73 rfl (by rfl) (by decide) rfl rfl ?_
              refine jr_goto (tgt := 27) C dX1_worstFitting_76 (by decide) ?_
              refine jr_sub [2, 3, 4, 5, 0] rfl ?_
              exact hK27 _ _ _ _ _ h
            · replace h := h.2 c7
              refine jr_iload (q := 70) C 0 dX1_worstFitting_68 rfl rfl ?_
              refine jr_istore_n (q := 71) (lv' := [(2, .int x6), (5, .int x6), (0, .ref (z + mm_ad 21 0)), (1, .int a1), (3, .int a3), (4, .int a4)]) C dX1_worstFitting_70 rfl (by decide) rfl rfl ?_
              refine jr_iload_n (q := 72) C 4 dX1_worstFitting_71 rfl rfl rfl ?_
              refine jr_istore_n (q := 73) (lv' := [(1, .int a3), (2, .int x6), (5, .int x6), (0, .ref (z + mm_ad 21 0)), (3, .int a3), (4, .int a4)]) C dX1_worstFitting_72 rfl (by decide) rfl rfl ?_
              refine jr_iinc (q := 76) (lv' := [(4, .int (a4 + (1 : Int32))), (1, .int a3), (2, .int x6), (5, .int x6), (0, .ref (z + mm_ad 21 0)), (3, .int a3)]) C 5 dX1_worstFitting_73 rfl (by rfl) (by decide) rfl rfl ?_
              refine jr_goto (tgt := 27) C dX1_worstFitting_76 (by decide) ?_
              refine jr_sub [4, 1, 2, 5, 0] rfl ?_
              exact hK27 _ _ _ _ _ h
        have x27_79 : ∀ (μ : mm_T) (c1 : Int32) (c2 : Int32) (c3 : Int32), (K7 μ c1 c2 (c3 + (1 : Int32))) → jJ p l e ({ frames := 2, cells := 0, slots := 0, locals := 47 }) s m args below meth c D cy z (MQ below (va_Qi Po (mm_Po D cy z) (mm_A z)) args s 0 0 (mm_A z)) 6 μ 79 [(0, .ref (z + mm_ad 21 0)), (1, .int c1), (2, .int c2), (3, .int c3)] [] := by
          intro μ c1 c2 c3 h
          refine jr_iinc (q := 82) (lv' := [(3, .int (c3 + (1 : Int32))), (0, .ref (z + mm_ad 21 0)), (1, .int c1), (2, .int c2)]) C 3 dX1_worstFitting_79 rfl (by rfl) (by decide) rfl rfl ?_
          refine jr_goto (tgt := 7) C dX1_worstFitting_82 (by decide) ?_
          refine jr_sub [1, 2, 3, 0] rfl ?_
          exact hK7 _ _ _ _ h
        refine jr_sub [1, 2, 3, 4, 0] rfl ?_
        exact l27 _ x27_79 _ h
      · replace h := h.2 c9
        refine jr_goto (tgt := 79) C dX1_worstFitting_21 (by decide) ?_
        refine jr_iinc (q := 82) (lv' := [(3, .int (a3 + (1 : Int32))), (0, .ref (z + mm_ad 21 0)), (1, .int a1), (2, .int a2)]) C 3 dX1_worstFitting_79 rfl (by rfl) (by decide) rfl rfl ?_
        refine jr_goto (tgt := 7) C dX1_worstFitting_82 (by decide) ?_
        refine jr_sub [1, 2, 3, 0] rfl ?_
        exact hK7 _ _ _ _ h
  have x7_85 : ∀ (μ : mm_T) (c1 : Int32), (Po c1 μ) → jJ p l e ({ frames := 2, cells := 0, slots := 0, locals := 47 }) s m args below meth c D cy z (MQ below (va_Qi Po (mm_Po D cy z) (mm_A z)) args s 0 0 (mm_A z)) 6 μ 85 [(1, .int c1)] [] := by
    intro μ c1 h
    refine jr_iload_n (q := 86) C 0 dX1_worstFitting_85 rfl rfl rfl ?_
    exact jr_iret C hr hk dX1_worstFitting_86 h
  refine jr_sub [3, 2, 1, 0] rfl ?_
  exact l7 _ x7_85 _ h
theorem nX1_leaveOut_1 : ∀ w ∈ wsX10, w ∈ wsX1_leaveOut := fun _ h => List.mem_cons_of_mem _ (List.mem_append_left _ (List.mem_append_right _ h))
theorem mX1_leaveOut_1 : Cond.fieldLink RX1 28 RX1 (TX1 4).2.1 (TX1 4).2.2.1 ∈ wsX1_leaveOut := List.mem_of_getElem? (i := 1) (by decide +kernel)
theorem mX1_leaveOut_2 : Cond.fieldLink RX1 25 RX1 (TX1 5).2.1 (TX1 5).2.2.1 ∈ wsX1_leaveOut := List.mem_of_getElem? (i := 2) (by decide +kernel)
theorem dsc_X1_leaveOut : yX1_leaveOut.cls ≠ "java/lang/invoke/MethodHandle" ∧ yX1_leaveOut.cls ≠ "java/lang/invoke/VarHandle" ∧ (parseMethodDescriptor yX1_leaveOut.desc).map (fun d => d.parameters.length) = some 1 := by decide +kernel
def pX1_leaveOut_l16 (Po : mm_T → Prop) (E16_53 : mm_T → Prop) (K16 : mm_T → Int32 → Int32 → Prop) (μ : mm_T) (a1 : Int32) (a2 : Int32) : Prop := ((1024 : Int32) ≤ a2 → E16_53 μ) ∧ (¬ ((1024 : Int32) ≤ a2) → (vp_in a2 1024) ∧ (pX1_misfitBy (fun r4 μ3 => (vp_in a2 1024) ∧ (∀ μ6 : mm_T, μ6 = mm_I μ3 25 0 a2.toNatClampNeg ((μ.1 25 0 a2.toNatClampNeg) - r4) → (K16 μ6 a1 (a2 + (1 : Int32))))) μ a1 (a2 - a2 / (32 : Int32) * (32 : Int32)) (a2 / (32 : Int32))))
def pX1_leaveOut (Po : mm_T → Prop) (μ : mm_T) (p1 : Int32) : Prop := ∀ μ1 : mm_T, μ1 = mm_I μ 21 0 4 ((μ.1 21 0 4) &&& (((1 : Int32) <<< (p1 &&& 31)) ^^^ (-1 : Int32))) → (lp_ (fun (K9 : mm_T × Int32 × Int32 → Prop) (t9 : mm_T × Int32 × Int32) => pX1_leaveOut_l16 Po (fun μ => Po μ) (fun μ a1 a2 => K9 (μ, a1, a2)) t9.1 t9.2.1 t9.2.2) (μ1, p1, (0 : Int32)))
set_option maxHeartbeats 4000000 in
set_option maxRecDepth 100000 in
theorem kX1_leaveOut (l : Launch) (p1 : Int32) : mm_CV l yX1_leaveOut wsX1_leaveOut ({ frames := 2, cells := 0, slots := 0, locals := 47 }) (fun z => [.ref (z + mm_ad 21 0), .int p1]) (fun μ Po => pX1_leaveOut Po μ p1) := by
  refine je_V (cc := cX1_leaveOut) (nL := 3) (own := RX1) (plainFor_of_name (by decide)) rfl rfl (fun _ => Nat.le_of_ble_eq_true rfl) ?_
  intro p e s m args below meth c D cy z μ Po C hr hk h
  change jJ p l e ({ frames := 2, cells := 0, slots := 0, locals := 47 }) s m args below meth c D cy z (MQ below (va_Qv Po (mm_Po D cy z) (mm_A z)) args s 0 0 (mm_A z)) 3 μ 0 [(0, .ref (z + mm_ad 21 0)), (1, .int p1)] []
  replace h : pX1_leaveOut Po μ p1 := h
  unfold pX1_leaveOut at h
  refine jr_aload_n (q := 1) C 0 dX1_leaveOut_0 rfl rfl rfl ?_
  refine jr_dup (q := 2) C dX1_leaveOut_1 rfl rfl ?_
  refine jr_getI (q := 5) (ci := 1) (Cn := RX1) (T := TX1) (N := 6) (j := 4) C mf_21 rfl rfl (by decide) rfl rfl nX1_leaveOut_1 mX1_leaveOut_1 dX1_leaveOut_2 rfl rfl ?_
  refine jr_iconst (q := 6) (v := (1 : Int32)) C dX1_leaveOut_5 (by decide) rfl ?_
  refine jr_iload_n (q := 7) C 1 dX1_leaveOut_6 rfl rfl rfl ?_
  refine jr_ishl (q := 8) C dX1_leaveOut_7 rfl ?_
  refine jr_iconst (q := 9) (v := (-1 : Int32)) C dX1_leaveOut_8 (by decide) rfl ?_
  refine jr_ixor (q := 10) C dX1_leaveOut_9 rfl ?_
  refine jr_iand (q := 11) C dX1_leaveOut_10 rfl ?_
  refine jr_putI (q := 14) (ci := 1) (Cn := RX1) (T := TX1) (N := 6) (j := 4) C mf_21 rfl rfl (by decide) rfl rfl tyX1 tyX1_ok nmX1 rfl (by decide +kernel) nX1_leaveOut_1 mX1_leaveOut_1 dX1_leaveOut_11 rfl rfl ?_
  refine jn_mem (fun μ1 eμ1 => ?_)
  replace h := h μ1 eμ1
  refine jr_iconst (q := 15) (v := (0 : Int32)) C dX1_leaveOut_14 (by decide) rfl ?_
  refine jr_istore_n (q := 16) (lv' := [(2, .int (0 : Int32)), (0, .ref (z + mm_ad 21 0)), (1, .int p1)]) C dX1_leaveOut_15 rfl (by decide) rfl rfl ?_
  have l16 : ∀ (E16_53 : mm_T → Prop) (hE16_53 : ∀ (μ : mm_T), E16_53 μ → jJ p l e ({ frames := 2, cells := 0, slots := 0, locals := 47 }) s m args below meth c D cy z (MQ below (va_Qv Po (mm_Po D cy z) (mm_A z)) args s 0 0 (mm_A z)) 3 μ 53 [] []), ∀ t9 : mm_T × Int32 × Int32, lp_ (fun (K9 : mm_T × Int32 × Int32 → Prop) (t9 : mm_T × Int32 × Int32) => pX1_leaveOut_l16 Po E16_53 (fun μ a1 a2 => K9 (μ, a1, a2)) t9.1 t9.2.1 t9.2.2) t9 → jJ p l e ({ frames := 2, cells := 0, slots := 0, locals := 47 }) s m args below meth c D cy z (MQ below (va_Qv Po (mm_Po D cy z) (mm_A z)) args s 0 0 (mm_A z)) 3 t9.1 16 [(0, .ref (z + mm_ad 21 0)), (1, .int t9.2.1), (2, .int t9.2.2)] [] := by
    intro E16_53 hE16_53 t9 h
    refine lp_go (P := fun t9 : mm_T × Int32 × Int32 => jJ p l e ({ frames := 2, cells := 0, slots := 0, locals := 47 }) s m args below meth c D cy z (MQ below (va_Qv Po (mm_Po D cy z) (mm_A z)) args s 0 0 (mm_A z)) 3 t9.1 16 [(0, .ref (z + mm_ad 21 0)), (1, .int t9.2.1), (2, .int t9.2.2)] []) (fun K9 t9 hK h => ?_) t9 h
    obtain ⟨μ, a1, a2⟩ := t9
    obtain ⟨K16, eK16⟩ : ∃ K : mm_T → Int32 → Int32 → Prop, K = (fun μ a1 a2 => K9 (μ, a1, a2)) := ⟨_, rfl⟩
    have hK16 : ∀ (μ : mm_T) (a1 : Int32) (a2 : Int32), K16 μ a1 a2 → jJ p l e ({ frames := 2, cells := 0, slots := 0, locals := 47 }) s m args below meth c D cy z (MQ below (va_Qv Po (mm_Po D cy z) (mm_A z)) args s 0 0 (mm_A z)) 3 μ 16 [(0, .ref (z + mm_ad 21 0)), (1, .int a1), (2, .int a2)] [] := fun μ a1 a2 h9 => hK (μ, a1, a2) (by rw [eK16] at h9; exact h9)
    replace h : pX1_leaveOut_l16 Po E16_53 K16 μ a1 a2 := by rw [eK16]; exact h
    unfold pX1_leaveOut_l16 at h
    refine jr_iload_n (q := 17) C 2 dX1_leaveOut_16 rfl rfl rfl ?_
    refine jr_aload_n (q := 18) C 0 dX1_leaveOut_17 rfl rfl rfl ?_
    refine jr_getR (q := 21) (ci := 1) (Cn := RX1) (T := TX1) (N := 6) (j := 5) C mf_21 rfl rfl (by decide) rfl 25 0 rfl rfl rfl nX1_leaveOut_1 mX1_leaveOut_2 dX1_leaveOut_18 rfl rfl ?_
    refine jr_alen (q := 22) (v := (1024 : Int32)) C mf_25 rfl rfl (by decide) (by decide) dX1_leaveOut_21 rfl ?_
    refine jr_icmp_ge (q := 25) (tgt := 53) C dX1_leaveOut_22 (by decide) rfl (fun c7 => ?_) (fun c7 => ?_)
    · replace h := h.1 c7
      refine jr_sub [] rfl ?_
      exact hE16_53 _ h
    · replace h := h.2 c7
      refine jr_aload_n (q := 26) C 0 dX1_leaveOut_25 rfl rfl rfl ?_
      refine jr_getR (q := 29) (ci := 1) (Cn := RX1) (T := TX1) (N := 6) (j := 5) C mf_21 rfl rfl (by decide) rfl 25 0 rfl rfl rfl nX1_leaveOut_1 mX1_leaveOut_2 dX1_leaveOut_26 rfl rfl ?_
      refine jr_iload_n (q := 30) C 2 dX1_leaveOut_29 rfl rfl rfl ?_
      refine jr_dup2 (q := 31) C dX1_leaveOut_30 rfl rfl rfl ?_
      obtain ⟨g2, h⟩ := h
      refine jr_iald (q := 32) C mf_25 rfl g2 dX1_leaveOut_31 rfl ?_
      refine jr_aload_n (q := 33) C 0 dX1_leaveOut_32 rfl rfl rfl ?_
      refine jr_iload_n (q := 34) C 1 dX1_leaveOut_33 rfl rfl rfl ?_
      refine jr_iload_n (q := 35) C 2 dX1_leaveOut_34 rfl rfl rfl ?_
      refine jr_bipush (q := 37) (v := (32 : Int32)) C dX1_leaveOut_35 (by decide) rfl ?_
      refine jr_irem (q := 38) C dX1_leaveOut_37 (by decide) rfl ?_
      refine jr_iload_n (q := 39) C 2 dX1_leaveOut_38 rfl rfl rfl ?_
      refine jr_bipush (q := 41) (v := (32 : Int32)) C dX1_leaveOut_39 (by decide) rfl ?_
      refine jr_idiv (q := 42) C dX1_leaveOut_41 (by decide) rfl ?_
      refine jr_cvI (q := 45) (As := [.int a1, .int (a2 - a2 / (32 : Int32) * (32 : Int32)), .int (a2 / (32 : Int32))]) (rest := [.int (μ.1 25 0 a2.toNatClampNeg), .int a2, .ref (z + mm_ad 25 0)]) C (f := 21) (i := 0) (ci := 1) mf_21 rfl rfl rfl (kX1_misfitBy l a1 (a2 - a2 / (32 : Int32) * (32 : Int32)) (a2 / (32 : Int32))) rfl gX1_leaveOut_X1_misfitBy rfl dsc_X1_misfitBy ⟨rfl, rfl⟩ ⟨by decide, by decide⟩ rfl rfl (Nat.le_of_ble_eq_true rfl) dX1_leaveOut_42 rfl h (fun r4 μ3 h => ?_)
      refine jr_isub (q := 46) C dX1_leaveOut_45 rfl ?_
      obtain ⟨g5, h⟩ := h
      refine jr_iast (q := 47) C mf_25 rfl g5 dX1_leaveOut_46 rfl ?_
      refine jn_mem (fun μ6 eμ6 => ?_)
      replace h := h μ6 eμ6
      refine jr_iinc (q := 50) (lv' := [(2, .int (a2 + (1 : Int32))), (0, .ref (z + mm_ad 21 0)), (1, .int a1)]) C 2 dX1_leaveOut_47 rfl (by rfl) (by decide) rfl rfl ?_
      refine jr_goto (tgt := 16) C dX1_leaveOut_50 (by decide) ?_
      refine jr_sub [1, 2, 0] rfl ?_
      exact hK16 _ _ _ h
  have x16_53 : ∀ (μ : mm_T), (Po μ) → jJ p l e ({ frames := 2, cells := 0, slots := 0, locals := 47 }) s m args below meth c D cy z (MQ below (va_Qv Po (mm_Po D cy z) (mm_A z)) args s 0 0 (mm_A z)) 3 μ 53 [] [] := by
    intro μ h
    exact jr_vret C hr hk dX1_leaveOut_53 h
  refine jr_sub [1, 2, 0] rfl ?_
  exact l16 _ x16_53 _ h
theorem nX1_settle_1 : ∀ w ∈ wsX10, w ∈ wsX1_settle := fun _ h => List.mem_cons_of_mem _ (List.mem_append_left _ (List.mem_append_left _ (List.mem_append_right _ h)))
theorem mX1_settle_1 : Cond.fieldLink RX1 28 RX1 (TX1 4).2.1 (TX1 4).2.2.1 ∈ wsX1_settle := List.mem_of_getElem? (i := 1) (by decide +kernel)
theorem nX1_settle_7 : ∀ w ∈ wsX70, w ∈ wsX1_settle := fun _ h => List.mem_cons_of_mem _ (List.mem_append_left _ (List.mem_append_right _ h))
theorem mX1_settle_3 : Cond.fieldLink RX1 66 RX7 (TX7 1).2.1 (TX7 1).2.2.1 ∈ wsX1_settle := List.mem_of_getElem? (i := 3) (by decide +kernel)
theorem mX1_settle_4 : Cond.fieldLink RX1 71 RX7 (TX7 2).2.1 (TX7 2).2.2.1 ∈ wsX1_settle := List.mem_of_getElem? (i := 4) (by decide +kernel)
theorem mX1_settle_5 : Cond.fieldLink RX1 25 RX1 (TX1 5).2.1 (TX1 5).2.2.1 ∈ wsX1_settle := List.mem_of_getElem? (i := 2) (by decide +kernel)
theorem mX1_settle_6 : Cond.fieldLink RX1 74 RX7 (TX7 3).2.1 (TX7 3).2.2.1 ∈ wsX1_settle := List.mem_of_getElem? (i := 5) (by decide +kernel)
theorem mX1_settle_7 : Cond.fieldLink RX1 77 RX7 (TX7 4).2.1 (TX7 4).2.2.1 ∈ wsX1_settle := List.mem_of_getElem? (i := 6) (by decide +kernel)
theorem mX1_settle_8 : Cond.fieldLink RX1 80 RX7 (TX7 5).2.1 (TX7 5).2.2.1 ∈ wsX1_settle := List.mem_of_getElem? (i := 7) (by decide +kernel)
theorem dsc_X1_settle : yX1_settle.cls ≠ "java/lang/invoke/MethodHandle" ∧ yX1_settle.cls ≠ "java/lang/invoke/VarHandle" ∧ (parseMethodDescriptor yX1_settle.desc).map (fun d => d.parameters.length) = some 2 := by decide +kernel
def pX1_settle_l54 (Po : mm_T → Prop) (E54_103 : mm_T → Nat → Int32 → Int32 → Prop) (K54 : mm_T → Int32 → Nat → Int32 → Int32 → Int32 → Prop) (μ : mm_T) (a1 : Int32) (a2 : Nat) (a3 : Int32) (a4 : Int32) (a5 : Int32) : Prop := ((7 : Int32) ≤ a5 → E54_103 μ a2 a3 a4) ∧ (¬ ((7 : Int32) ≤ a5) → pJ6_bitCount_0f7a4 (fun r12 μ11 => (r12 ≤ (3 : Int32) → E54_103 μ11 a2 a3 a4) ∧ (¬ (r12 ≤ (3 : Int32)) → (vp_in a4 1024) ∧ (((μ11.1 25 0 a4.toNatClampNeg) ≤ a1 → E54_103 μ11 a2 a3 a4) ∧ (¬ ((μ11.1 25 0 a4.toNatClampNeg) ≤ a1) → pX1_worstFitting (fun r15 μ14 => pX1_leaveOut (fun μ16 => pX1_leastPlace (fun r18 μ17 => K54 μ17 a1 a2 a3 r18 (a5 + (1 : Int32))) μ16 ) μ14 r15) μ11 )))) μ (μ.1 21 0 4))
def pX1_settle_l8 (Po : mm_T → Prop) (E8_45 : mm_T → Int32 → Nat → Int32 → Prop) (K8 : mm_T → Int32 → Nat → Int32 → Int32 → Prop) (μ : mm_T) (a1 : Int32) (a2 : Nat) (a3 : Int32) (a4 : Int32) : Prop := ((1024 : Int32) ≤ a4 → E8_45 μ a1 a2 a3) ∧ (¬ ((1024 : Int32) ≤ a4) → pX1_misfitAt (fun r23 μ22 => (vp_in a4 1024) ∧ (∀ μ25 : mm_T, μ25 = mm_I μ22 25 0 a4.toNatClampNeg r23 → (K8 μ25 a1 a2 a3 (a4 + (1 : Int32))))) μ (a4 - a4 / (32 : Int32) * (32 : Int32)) (a4 / (32 : Int32)))
def pX1_settle (Po : mm_T → Prop) (μ : mm_T) (p1 : Int32) (i2 : Nat) : Prop := i2 < 7 ∧ (∀ x1 : Int32, x1 = μ.1 21 0 4 → (lp_ (fun (K9 : mm_T × Int32 × Nat × Int32 × Int32 → Prop) (t9 : mm_T × Int32 × Nat × Int32 × Int32) => pX1_settle_l8 Po (fun μ c1 c2 c3 => pX1_leastPlace (fun r3 μ2 => lp_ (fun (K9 : mm_T × Int32 × Nat × Int32 × Int32 × Int32 → Prop) (t9 : mm_T × Int32 × Nat × Int32 × Int32 × Int32) => pX1_settle_l54 Po (fun μ c2 c3 c4 => (c2 < 7) ∧ (∀ μ5 : mm_T, μ5 = mm_I μ 10 c2 1 (c4 - c4 / (32 : Int32) * (32 : Int32)) → (∀ μ6 : mm_T, μ6 = mm_I μ5 10 c2 2 (c4 / (32 : Int32)) → ((vp_in c4 1024) ∧ (∀ μ8 : mm_T, μ8 = mm_I μ6 10 c2 3 (μ6.1 25 0 c4.toNatClampNeg) → (∀ μ9 : mm_T, μ9 = mm_I μ8 10 c2 4 (μ8.1 21 0 4) → (∀ μ10 : mm_T, μ10 = mm_I μ9 10 c2 5 (c3 &&& ((μ9.1 21 0 4) ^^^ (-1 : Int32))) → (Po μ10)))))))) (fun μ a1 a2 a3 a4 a5 => K9 (μ, a1, a2, a3, a4, a5)) t9.1 t9.2.1 t9.2.2.1 t9.2.2.2.1 t9.2.2.2.2.1 t9.2.2.2.2.2) (μ2, c1, c2, c3, r3, (0 : Int32))) μ ) (fun μ a1 a2 a3 a4 => K9 (μ, a1, a2, a3, a4)) t9.1 t9.2.1 t9.2.2.1 t9.2.2.2.1 t9.2.2.2.2) (μ, p1, i2, x1, (0 : Int32))))
set_option maxHeartbeats 4000000 in
set_option maxRecDepth 100000 in
theorem kX1_settle (l : Launch) (p1 : Int32) (i2 : Nat) : mm_CV l yX1_settle wsX1_settle ({ frames := 3, cells := 0, slots := 0, locals := 72 }) (fun z => [.ref (z + mm_ad 21 0), .int p1, .ref (z + mm_ad 10 i2)]) (fun μ Po => pX1_settle Po μ p1 i2) := by
  refine je_V (cc := cX1_settle) (nL := 6) (own := RX1) (plainFor_of_name (by decide)) rfl rfl (fun _ => Nat.le_of_ble_eq_true rfl) ?_
  intro p e s m args below meth c D cy z μ Po C hr hk h
  change jJ p l e ({ frames := 3, cells := 0, slots := 0, locals := 72 }) s m args below meth c D cy z (MQ below (va_Qv Po (mm_Po D cy z) (mm_A z)) args s 0 0 (mm_A z)) 6 μ 0 [(0, .ref (z + mm_ad 21 0)), (1, .int p1), (2, .ref (z + mm_ad 10 i2))] []
  replace h : pX1_settle Po μ p1 i2 := h
  unfold pX1_settle at h
  obtain ⟨hi_i2, h⟩ := h
  refine jr_aload_n (q := 1) C 0 dX1_settle_0 rfl rfl rfl ?_
  refine jr_getI (q := 4) (ci := 1) (Cn := RX1) (T := TX1) (N := 6) (j := 4) C mf_21 rfl rfl (by decide) rfl rfl nX1_settle_1 mX1_settle_1 dX1_settle_1 rfl rfl ?_
  refine jn_int (fun x1 ex1 => ?_)
  replace h := h x1 ex1
  refine jr_istore_n (q := 5) (lv' := [(3, .int x1), (0, .ref (z + mm_ad 21 0)), (1, .int p1), (2, .ref (z + mm_ad 10 i2))]) C dX1_settle_4 rfl (by decide) rfl rfl ?_
  refine jr_iconst (q := 6) (v := (0 : Int32)) C dX1_settle_5 (by decide) rfl ?_
  refine jr_istore (q := 8) (lv' := [(4, .int (0 : Int32)), (3, .int x1), (0, .ref (z + mm_ad 21 0)), (1, .int p1), (2, .ref (z + mm_ad 10 i2))]) C dX1_settle_6 (by decide) rfl rfl ?_
  have l8 : ∀ (E8_45 : mm_T → Int32 → Nat → Int32 → Prop) (hE8_45 : ∀ (μ : mm_T) (c1 : Int32) (c2 : Nat) (c3 : Int32), E8_45 μ c1 c2 c3 → jJ p l e ({ frames := 3, cells := 0, slots := 0, locals := 72 }) s m args below meth c D cy z (MQ below (va_Qv Po (mm_Po D cy z) (mm_A z)) args s 0 0 (mm_A z)) 6 μ 45 [(0, .ref (z + mm_ad 21 0)), (1, .int c1), (2, .ref (z + mm_ad 10 c2)), (3, .int c3)] []), ∀ t9 : mm_T × Int32 × Nat × Int32 × Int32, lp_ (fun (K9 : mm_T × Int32 × Nat × Int32 × Int32 → Prop) (t9 : mm_T × Int32 × Nat × Int32 × Int32) => pX1_settle_l8 Po E8_45 (fun μ a1 a2 a3 a4 => K9 (μ, a1, a2, a3, a4)) t9.1 t9.2.1 t9.2.2.1 t9.2.2.2.1 t9.2.2.2.2) t9 → jJ p l e ({ frames := 3, cells := 0, slots := 0, locals := 72 }) s m args below meth c D cy z (MQ below (va_Qv Po (mm_Po D cy z) (mm_A z)) args s 0 0 (mm_A z)) 6 t9.1 8 [(0, .ref (z + mm_ad 21 0)), (1, .int t9.2.1), (2, .ref (z + mm_ad 10 t9.2.2.1)), (3, .int t9.2.2.2.1), (4, .int t9.2.2.2.2)] [] := by
    intro E8_45 hE8_45 t9 h
    refine lp_go (P := fun t9 : mm_T × Int32 × Nat × Int32 × Int32 => jJ p l e ({ frames := 3, cells := 0, slots := 0, locals := 72 }) s m args below meth c D cy z (MQ below (va_Qv Po (mm_Po D cy z) (mm_A z)) args s 0 0 (mm_A z)) 6 t9.1 8 [(0, .ref (z + mm_ad 21 0)), (1, .int t9.2.1), (2, .ref (z + mm_ad 10 t9.2.2.1)), (3, .int t9.2.2.2.1), (4, .int t9.2.2.2.2)] []) (fun K9 t9 hK h => ?_) t9 h
    obtain ⟨μ, a1, a2, a3, a4⟩ := t9
    obtain ⟨K8, eK8⟩ : ∃ K : mm_T → Int32 → Nat → Int32 → Int32 → Prop, K = (fun μ a1 a2 a3 a4 => K9 (μ, a1, a2, a3, a4)) := ⟨_, rfl⟩
    have hK8 : ∀ (μ : mm_T) (a1 : Int32) (a2 : Nat) (a3 : Int32) (a4 : Int32), K8 μ a1 a2 a3 a4 → jJ p l e ({ frames := 3, cells := 0, slots := 0, locals := 72 }) s m args below meth c D cy z (MQ below (va_Qv Po (mm_Po D cy z) (mm_A z)) args s 0 0 (mm_A z)) 6 μ 8 [(0, .ref (z + mm_ad 21 0)), (1, .int a1), (2, .ref (z + mm_ad 10 a2)), (3, .int a3), (4, .int a4)] [] := fun μ a1 a2 a3 a4 h9 => hK (μ, a1, a2, a3, a4) (by rw [eK8] at h9; exact h9)
    replace h : pX1_settle_l8 Po E8_45 K8 μ a1 a2 a3 a4 := by rw [eK8]; exact h
    unfold pX1_settle_l8 at h
    refine jr_iload (q := 10) C 4 dX1_settle_8 rfl rfl ?_
    refine jr_aload_n (q := 11) C 0 dX1_settle_10 rfl rfl rfl ?_
    refine jr_getR (q := 14) (ci := 1) (Cn := RX1) (T := TX1) (N := 6) (j := 5) C mf_21 rfl rfl (by decide) rfl 25 0 rfl rfl rfl nX1_settle_1 mX1_settle_5 dX1_settle_11 rfl rfl ?_
    refine jr_alen (q := 15) (v := (1024 : Int32)) C mf_25 rfl rfl (by decide) (by decide) dX1_settle_14 rfl ?_
    refine jr_icmp_ge (q := 18) (tgt := 45) C dX1_settle_15 (by decide) rfl (fun c26 => ?_) (fun c26 => ?_)
    · replace h := h.1 c26
      refine jr_sub [0, 1, 2, 3] rfl ?_
      exact hE8_45 _ _ _ _ h
    · replace h := h.2 c26
      refine jr_aload_n (q := 19) C 0 dX1_settle_18 rfl rfl rfl ?_
      refine jr_getR (q := 22) (ci := 1) (Cn := RX1) (T := TX1) (N := 6) (j := 5) C mf_21 rfl rfl (by decide) rfl 25 0 rfl rfl rfl nX1_settle_1 mX1_settle_5 dX1_settle_19 rfl rfl ?_
      refine jr_iload (q := 24) C 4 dX1_settle_22 rfl rfl ?_
      refine jr_aload_n (q := 25) C 0 dX1_settle_24 rfl rfl rfl ?_
      refine jr_iload (q := 27) C 4 dX1_settle_25 rfl rfl ?_
      refine jr_bipush (q := 29) (v := (32 : Int32)) C dX1_settle_27 (by decide) rfl ?_
      refine jr_irem (q := 30) C dX1_settle_29 (by decide) rfl ?_
      refine jr_iload (q := 32) C 4 dX1_settle_30 rfl rfl ?_
      refine jr_bipush (q := 34) (v := (32 : Int32)) C dX1_settle_32 (by decide) rfl ?_
      refine jr_idiv (q := 35) C dX1_settle_34 (by decide) rfl ?_
      refine jr_cvI (q := 38) (As := [.int (a4 - a4 / (32 : Int32) * (32 : Int32)), .int (a4 / (32 : Int32))]) (rest := [.int a4, .ref (z + mm_ad 25 0)]) C (f := 21) (i := 0) (ci := 1) mf_21 rfl rfl rfl (kX1_misfitAt l (a4 - a4 / (32 : Int32) * (32 : Int32)) (a4 / (32 : Int32))) rfl gX1_settle_X1_misfitAt rfl dsc_X1_misfitAt ⟨rfl, rfl⟩ ⟨by decide, by decide⟩ rfl rfl (Nat.le_of_ble_eq_true rfl) dX1_settle_35 rfl h (fun r23 μ22 h => ?_)
      obtain ⟨g24, h⟩ := h
      refine jr_iast (q := 39) C mf_25 rfl g24 dX1_settle_38 rfl ?_
      refine jn_mem (fun μ25 eμ25 => ?_)
      replace h := h μ25 eμ25
      refine jr_iinc (q := 42) (lv' := [(4, .int (a4 + (1 : Int32))), (0, .ref (z + mm_ad 21 0)), (1, .int a1), (2, .ref (z + mm_ad 10 a2)), (3, .int a3)]) C 4 dX1_settle_39 rfl (by rfl) (by decide) rfl rfl ?_
      refine jr_goto (tgt := 8) C dX1_settle_42 (by decide) ?_
      refine jr_sub [1, 2, 3, 4, 0] rfl ?_
      exact hK8 _ _ _ _ _ h
  have x8_45 : ∀ (μ : mm_T) (c1 : Int32) (c2 : Nat) (c3 : Int32), (pX1_leastPlace (fun r3 μ2 => lp_ (fun (K9 : mm_T × Int32 × Nat × Int32 × Int32 × Int32 → Prop) (t9 : mm_T × Int32 × Nat × Int32 × Int32 × Int32) => pX1_settle_l54 Po (fun μ c2 c3 c4 => (c2 < 7) ∧ (∀ μ5 : mm_T, μ5 = mm_I μ 10 c2 1 (c4 - c4 / (32 : Int32) * (32 : Int32)) → (∀ μ6 : mm_T, μ6 = mm_I μ5 10 c2 2 (c4 / (32 : Int32)) → ((vp_in c4 1024) ∧ (∀ μ8 : mm_T, μ8 = mm_I μ6 10 c2 3 (μ6.1 25 0 c4.toNatClampNeg) → (∀ μ9 : mm_T, μ9 = mm_I μ8 10 c2 4 (μ8.1 21 0 4) → (∀ μ10 : mm_T, μ10 = mm_I μ9 10 c2 5 (c3 &&& ((μ9.1 21 0 4) ^^^ (-1 : Int32))) → (Po μ10)))))))) (fun μ a1 a2 a3 a4 a5 => K9 (μ, a1, a2, a3, a4, a5)) t9.1 t9.2.1 t9.2.2.1 t9.2.2.2.1 t9.2.2.2.2.1 t9.2.2.2.2.2) (μ2, c1, c2, c3, r3, (0 : Int32))) μ ) → jJ p l e ({ frames := 3, cells := 0, slots := 0, locals := 72 }) s m args below meth c D cy z (MQ below (va_Qv Po (mm_Po D cy z) (mm_A z)) args s 0 0 (mm_A z)) 6 μ 45 [(0, .ref (z + mm_ad 21 0)), (1, .int c1), (2, .ref (z + mm_ad 10 c2)), (3, .int c3)] [] := by
    intro μ c1 c2 c3 h
    refine jr_aload_n (q := 46) C 0 dX1_settle_45 rfl rfl rfl ?_
    refine jr_cvI (q := 49) (As := []) (rest := []) C (f := 21) (i := 0) (ci := 1) mf_21 rfl rfl rfl (kX1_leastPlace l) rfl gX1_settle_X1_leastPlace rfl dsc_X1_leastPlace ⟨rfl, rfl⟩ ⟨by decide, by decide⟩ rfl rfl (Nat.le_of_ble_eq_true rfl) dX1_settle_46 rfl h (fun r3 μ2 h => ?_)
    refine jr_istore (q := 51) (lv' := [(4, .int r3), (0, .ref (z + mm_ad 21 0)), (1, .int c1), (2, .ref (z + mm_ad 10 c2)), (3, .int c3)]) C dX1_settle_49 (by decide) rfl rfl ?_
    refine jr_iconst (q := 52) (v := (0 : Int32)) C dX1_settle_51 (by decide) rfl ?_
    refine jr_istore (q := 54) (lv' := [(5, .int (0 : Int32)), (4, .int r3), (0, .ref (z + mm_ad 21 0)), (1, .int c1), (2, .ref (z + mm_ad 10 c2)), (3, .int c3)]) C dX1_settle_52 (by decide) rfl rfl ?_
    have l54 : ∀ (E54_103 : mm_T → Nat → Int32 → Int32 → Prop) (hE54_103 : ∀ (μ : mm_T) (c2 : Nat) (c3 : Int32) (c4 : Int32), E54_103 μ c2 c3 c4 → jJ p l e ({ frames := 3, cells := 0, slots := 0, locals := 72 }) s m args below meth c D cy z (MQ below (va_Qv Po (mm_Po D cy z) (mm_A z)) args s 0 0 (mm_A z)) 6 μ 103 [(0, .ref (z + mm_ad 21 0)), (2, .ref (z + mm_ad 10 c2)), (3, .int c3), (4, .int c4)] []), ∀ t9 : mm_T × Int32 × Nat × Int32 × Int32 × Int32, lp_ (fun (K9 : mm_T × Int32 × Nat × Int32 × Int32 × Int32 → Prop) (t9 : mm_T × Int32 × Nat × Int32 × Int32 × Int32) => pX1_settle_l54 Po E54_103 (fun μ a1 a2 a3 a4 a5 => K9 (μ, a1, a2, a3, a4, a5)) t9.1 t9.2.1 t9.2.2.1 t9.2.2.2.1 t9.2.2.2.2.1 t9.2.2.2.2.2) t9 → jJ p l e ({ frames := 3, cells := 0, slots := 0, locals := 72 }) s m args below meth c D cy z (MQ below (va_Qv Po (mm_Po D cy z) (mm_A z)) args s 0 0 (mm_A z)) 6 t9.1 54 [(0, .ref (z + mm_ad 21 0)), (1, .int t9.2.1), (2, .ref (z + mm_ad 10 t9.2.2.1)), (3, .int t9.2.2.2.1), (4, .int t9.2.2.2.2.1), (5, .int t9.2.2.2.2.2)] [] := by
      intro E54_103 hE54_103 t9 h
      refine lp_go (P := fun t9 : mm_T × Int32 × Nat × Int32 × Int32 × Int32 => jJ p l e ({ frames := 3, cells := 0, slots := 0, locals := 72 }) s m args below meth c D cy z (MQ below (va_Qv Po (mm_Po D cy z) (mm_A z)) args s 0 0 (mm_A z)) 6 t9.1 54 [(0, .ref (z + mm_ad 21 0)), (1, .int t9.2.1), (2, .ref (z + mm_ad 10 t9.2.2.1)), (3, .int t9.2.2.2.1), (4, .int t9.2.2.2.2.1), (5, .int t9.2.2.2.2.2)] []) (fun K9 t9 hK h => ?_) t9 h
      obtain ⟨μ, a1, a2, a3, a4, a5⟩ := t9
      obtain ⟨K54, eK54⟩ : ∃ K : mm_T → Int32 → Nat → Int32 → Int32 → Int32 → Prop, K = (fun μ a1 a2 a3 a4 a5 => K9 (μ, a1, a2, a3, a4, a5)) := ⟨_, rfl⟩
      have hK54 : ∀ (μ : mm_T) (a1 : Int32) (a2 : Nat) (a3 : Int32) (a4 : Int32) (a5 : Int32), K54 μ a1 a2 a3 a4 a5 → jJ p l e ({ frames := 3, cells := 0, slots := 0, locals := 72 }) s m args below meth c D cy z (MQ below (va_Qv Po (mm_Po D cy z) (mm_A z)) args s 0 0 (mm_A z)) 6 μ 54 [(0, .ref (z + mm_ad 21 0)), (1, .int a1), (2, .ref (z + mm_ad 10 a2)), (3, .int a3), (4, .int a4), (5, .int a5)] [] := fun μ a1 a2 a3 a4 a5 h9 => hK (μ, a1, a2, a3, a4, a5) (by rw [eK54] at h9; exact h9)
      replace h : pX1_settle_l54 Po E54_103 K54 μ a1 a2 a3 a4 a5 := by rw [eK54]; exact h
      unfold pX1_settle_l54 at h
      refine jr_iload (q := 56) C 5 dX1_settle_54 rfl rfl ?_
      refine jr_bipush (q := 58) (v := (7 : Int32)) C dX1_settle_56 (by decide) rfl ?_
      refine jr_icmp_ge (q := 61) (tgt := 103) C dX1_settle_58 (by decide) rfl (fun c21 => ?_) (fun c21 => ?_)
      · replace h := h.1 c21
        refine jr_sub [0, 2, 3, 4] rfl ?_
        exact hE54_103 _ _ _ _ h
      · replace h := h.2 c21
        refine jr_aload_n (q := 62) C 0 dX1_settle_61 rfl rfl rfl ?_
        refine jr_getI (q := 65) (ci := 1) (Cn := RX1) (T := TX1) (N := 6) (j := 4) C mf_21 rfl rfl (by decide) rfl rfl nX1_settle_1 mX1_settle_1 dX1_settle_62 rfl rfl ?_
        refine jr_csI (q := 68) (As := [.int (μ.1 21 0 4)]) (rest := []) C  (kJ6_bitCount_0f7a4 l (μ.1 21 0 4)) rfl gX1_settle_J6_bitCount_0f7a4 rfl dsc_J6_bitCount_0f7a4 ⟨rfl, rfl⟩ ⟨by decide, by decide⟩ rfl rfl (Nat.le_of_ble_eq_true rfl) dX1_settle_65 rfl h (fun r12 μ11 h => ?_)
        refine jr_iconst (q := 69) (v := (3 : Int32)) C dX1_settle_68 (by decide) rfl ?_
        refine jr_icmp_le (q := 72) (tgt := 103) C dX1_settle_69 (by decide) rfl (fun c20 => ?_) (fun c20 => ?_)
        · replace h := h.1 c20
          refine jr_sub [0, 2, 3, 4] rfl ?_
          exact hE54_103 _ _ _ _ h
        · replace h := h.2 c20
          refine jr_aload_n (q := 73) C 0 dX1_settle_72 rfl rfl rfl ?_
          refine jr_getR (q := 76) (ci := 1) (Cn := RX1) (T := TX1) (N := 6) (j := 5) C mf_21 rfl rfl (by decide) rfl 25 0 rfl rfl rfl nX1_settle_1 mX1_settle_5 dX1_settle_73 rfl rfl ?_
          refine jr_iload (q := 78) C 4 dX1_settle_76 rfl rfl ?_
          obtain ⟨g13, h⟩ := h
          refine jr_iald (q := 79) C mf_25 rfl g13 dX1_settle_78 rfl ?_
          refine jr_iload_n (q := 80) C 1 dX1_settle_79 rfl rfl rfl ?_
          refine jr_icmp_le (q := 83) (tgt := 103) C dX1_settle_80 (by decide) rfl (fun c19 => ?_) (fun c19 => ?_)
          · replace h := h.1 c19
            refine jr_sub [0, 2, 3, 4] rfl ?_
            exact hE54_103 _ _ _ _ h
          · replace h := h.2 c19
            refine jr_aload_n (q := 84) C 0 dX1_settle_83 rfl rfl rfl ?_
            refine jr_aload_n (q := 85) C 0 dX1_settle_84 rfl rfl rfl ?_
            refine jr_cvI (q := 88) (As := []) (rest := [.ref (z + mm_ad 21 0)]) C (f := 21) (i := 0) (ci := 1) mf_21 rfl rfl rfl (kX1_worstFitting l) rfl gX1_settle_X1_worstFitting rfl dsc_X1_worstFitting ⟨rfl, rfl⟩ ⟨by decide, by decide⟩ rfl rfl (Nat.le_of_ble_eq_true rfl) dX1_settle_85 rfl h (fun r15 μ14 h => ?_)
            refine jr_cvV (q := 91) (As := [.int r15]) (rest := []) C (f := 21) (i := 0) (ci := 1) mf_21 rfl rfl rfl (kX1_leaveOut l r15) rfl gX1_settle_X1_leaveOut rfl dsc_X1_leaveOut ⟨rfl, rfl⟩ ⟨by decide, by decide⟩ rfl rfl (Nat.le_of_ble_eq_true rfl) dX1_settle_88 rfl h (fun μ16 h => ?_)
            refine jr_aload_n (q := 92) C 0 dX1_settle_91 rfl rfl rfl ?_
            refine jr_cvI (q := 95) (As := []) (rest := []) C (f := 21) (i := 0) (ci := 1) mf_21 rfl rfl rfl (kX1_leastPlace l) rfl gX1_settle_X1_leastPlace rfl dsc_X1_leastPlace ⟨rfl, rfl⟩ ⟨by decide, by decide⟩ rfl rfl (Nat.le_of_ble_eq_true rfl) dX1_settle_92 rfl h (fun r18 μ17 h => ?_)
            refine jr_istore (q := 97) (lv' := [(4, .int r18), (0, .ref (z + mm_ad 21 0)), (1, .int a1), (2, .ref (z + mm_ad 10 a2)), (3, .int a3), (5, .int a5)]) C dX1_settle_95 (by decide) rfl rfl ?_
            refine jr_iinc (q := 100) (lv' := [(5, .int (a5 + (1 : Int32))), (4, .int r18), (0, .ref (z + mm_ad 21 0)), (1, .int a1), (2, .ref (z + mm_ad 10 a2)), (3, .int a3)]) C 5 dX1_settle_97 rfl (by rfl) (by decide) rfl rfl ?_
            refine jr_goto (tgt := 54) C dX1_settle_100 (by decide) ?_
            refine jr_sub [2, 3, 4, 5, 1, 0] rfl ?_
            exact hK54 _ _ _ _ _ _ h
    have x54_103 : ∀ (μ : mm_T) (c2 : Nat) (c3 : Int32) (c4 : Int32), ((c2 < 7) ∧ (∀ μ5 : mm_T, μ5 = mm_I μ 10 c2 1 (c4 - c4 / (32 : Int32) * (32 : Int32)) → (∀ μ6 : mm_T, μ6 = mm_I μ5 10 c2 2 (c4 / (32 : Int32)) → ((vp_in c4 1024) ∧ (∀ μ8 : mm_T, μ8 = mm_I μ6 10 c2 3 (μ6.1 25 0 c4.toNatClampNeg) → (∀ μ9 : mm_T, μ9 = mm_I μ8 10 c2 4 (μ8.1 21 0 4) → (∀ μ10 : mm_T, μ10 = mm_I μ9 10 c2 5 (c3 &&& ((μ9.1 21 0 4) ^^^ (-1 : Int32))) → (Po μ10)))))))) → jJ p l e ({ frames := 3, cells := 0, slots := 0, locals := 72 }) s m args below meth c D cy z (MQ below (va_Qv Po (mm_Po D cy z) (mm_A z)) args s 0 0 (mm_A z)) 6 μ 103 [(0, .ref (z + mm_ad 21 0)), (2, .ref (z + mm_ad 10 c2)), (3, .int c3), (4, .int c4)] [] := by
      intro μ c2 c3 c4 h
      refine jr_aload_n (q := 104) C 1 dX1_settle_103 rfl rfl rfl ?_
      refine jr_iload (q := 106) C 3 dX1_settle_104 rfl rfl ?_
      refine jr_bipush (q := 108) (v := (32 : Int32)) C dX1_settle_106 (by decide) rfl ?_
      refine jr_irem (q := 109) C dX1_settle_108 (by decide) rfl ?_
      obtain ⟨g4, h⟩ := h
      refine jr_putI (q := 112) (ci := 7) (Cn := RX7) (T := TX7) (N := 6) (j := 1) C g4 rfl rfl (by decide) rfl rfl tyX7 tyX7_ok nmX7 rfl (by decide +kernel) nX1_settle_7 mX1_settle_3 dX1_settle_109 rfl rfl ?_
      refine jn_mem (fun μ5 eμ5 => ?_)
      replace h := h μ5 eμ5
      refine jr_aload_n (q := 113) C 1 dX1_settle_112 rfl rfl rfl ?_
      refine jr_iload (q := 115) C 3 dX1_settle_113 rfl rfl ?_
      refine jr_bipush (q := 117) (v := (32 : Int32)) C dX1_settle_115 (by decide) rfl ?_
      refine jr_idiv (q := 118) C dX1_settle_117 (by decide) rfl ?_
      refine jr_putI (q := 121) (ci := 7) (Cn := RX7) (T := TX7) (N := 6) (j := 2) C g4 rfl rfl (by decide) rfl rfl tyX7 tyX7_ok nmX7 rfl (by decide +kernel) nX1_settle_7 mX1_settle_4 dX1_settle_118 rfl rfl ?_
      refine jn_mem (fun μ6 eμ6 => ?_)
      replace h := h μ6 eμ6
      refine jr_aload_n (q := 122) C 1 dX1_settle_121 rfl rfl rfl ?_
      refine jr_aload_n (q := 123) C 0 dX1_settle_122 rfl rfl rfl ?_
      refine jr_getR (q := 126) (ci := 1) (Cn := RX1) (T := TX1) (N := 6) (j := 5) C mf_21 rfl rfl (by decide) rfl 25 0 rfl rfl rfl nX1_settle_1 mX1_settle_5 dX1_settle_123 rfl rfl ?_
      refine jr_iload (q := 128) C 3 dX1_settle_126 rfl rfl ?_
      obtain ⟨g7, h⟩ := h
      refine jr_iald (q := 129) C mf_25 rfl g7 dX1_settle_128 rfl ?_
      refine jr_putI (q := 132) (ci := 7) (Cn := RX7) (T := TX7) (N := 6) (j := 3) C g4 rfl rfl (by decide) rfl rfl tyX7 tyX7_ok nmX7 rfl (by decide +kernel) nX1_settle_7 mX1_settle_6 dX1_settle_129 rfl rfl ?_
      refine jn_mem (fun μ8 eμ8 => ?_)
      replace h := h μ8 eμ8
      refine jr_aload_n (q := 133) C 1 dX1_settle_132 rfl rfl rfl ?_
      refine jr_aload_n (q := 134) C 0 dX1_settle_133 rfl rfl rfl ?_
      refine jr_getI (q := 137) (ci := 1) (Cn := RX1) (T := TX1) (N := 6) (j := 4) C mf_21 rfl rfl (by decide) rfl rfl nX1_settle_1 mX1_settle_1 dX1_settle_134 rfl rfl ?_
      refine jr_putI (q := 140) (ci := 7) (Cn := RX7) (T := TX7) (N := 6) (j := 4) C g4 rfl rfl (by decide) rfl rfl tyX7 tyX7_ok nmX7 rfl (by decide +kernel) nX1_settle_7 mX1_settle_7 dX1_settle_137 rfl rfl ?_
      refine jn_mem (fun μ9 eμ9 => ?_)
      replace h := h μ9 eμ9
      refine jr_aload_n (q := 141) C 1 dX1_settle_140 rfl rfl rfl ?_
      refine jr_iload_n (q := 142) C 2 dX1_settle_141 rfl rfl rfl ?_
      refine jr_aload_n (q := 143) C 0 dX1_settle_142 rfl rfl rfl ?_
      refine jr_getI (q := 146) (ci := 1) (Cn := RX1) (T := TX1) (N := 6) (j := 4) C mf_21 rfl rfl (by decide) rfl rfl nX1_settle_1 mX1_settle_1 dX1_settle_143 rfl rfl ?_
      refine jr_iconst (q := 147) (v := (-1 : Int32)) C dX1_settle_146 (by decide) rfl ?_
      refine jr_ixor (q := 148) C dX1_settle_147 rfl ?_
      refine jr_iand (q := 149) C dX1_settle_148 rfl ?_
      refine jr_putI (q := 152) (ci := 7) (Cn := RX7) (T := TX7) (N := 6) (j := 5) C g4 rfl rfl (by decide) rfl rfl tyX7 tyX7_ok nmX7 rfl (by decide +kernel) nX1_settle_7 mX1_settle_8 dX1_settle_149 rfl rfl ?_
      refine jn_mem (fun μ10 eμ10 => ?_)
      replace h := h μ10 eμ10
      exact jr_vret C hr hk dX1_settle_152 h
    refine jr_sub [2, 3, 4, 5, 1, 0] rfl ?_
    exact l54 _ x54_103 _ h
  refine jr_sub [2, 3, 4, 1, 0] rfl ?_
  exact l8 _ x8_45 _ h
theorem nX0_placingOf_0 : ∀ w ∈ wsX00, w ∈ wsX0_placingOf := fun _ h => List.mem_cons_of_mem _ (List.mem_append_left _ (List.mem_append_left _ (List.mem_append_left _ (List.mem_append_left _ (List.mem_append_left _ (List.mem_append_right _ h))))))
theorem mX0_placingOf_1 : Cond.fieldLink RX0 19 RX0 (TX0 8).2.1 (TX0 8).2.2.1 ∈ wsX0_placingOf := List.mem_of_getElem? (i := 1) (by decide +kernel)
theorem nX0_placingOf_7 : ∀ w ∈ wsX70, w ∈ wsX0_placingOf := fun _ h => List.mem_cons_of_mem _ (List.mem_append_left _ (List.mem_append_left _ (List.mem_append_left _ (List.mem_append_left _ (List.mem_append_right _ h)))))
theorem mX0_placingOf_3 : Cond.fieldLink RX0 170 RX7 (TX7 0).2.1 (TX7 0).2.2.1 ∈ wsX0_placingOf := List.mem_of_getElem? (i := 2) (by decide +kernel)
theorem mX0_placingOf_4 : Cond.fieldLink RX0 185 RX0 (TX0 4).2.1 (TX0 4).2.2.1 ∈ wsX0_placingOf := List.mem_of_getElem? (i := 3) (by decide +kernel)
theorem dsc_X0_placingOf : yX0_placingOf.cls ≠ "java/lang/invoke/MethodHandle" ∧ yX0_placingOf.cls ≠ "java/lang/invoke/VarHandle" ∧ (parseMethodDescriptor yX0_placingOf.desc).map (fun d => d.parameters.length) = some 1 := by decide +kernel
def pX0_placingOf (Po : Nat → mm_T → Prop) (μ : mm_T) (p1 : Int32) : Prop := (vp_in p1 7) ∧ ((¬ (μ.1 10 p1.toNatClampNeg 0) = 0 → Po p1.toNatClampNeg μ) ∧ ((μ.1 10 p1.toNatClampNeg 0) = 0 → pX0_fittingOf (fun r3 μ2 => r3 = 0 ∧ (pX1_settle (fun μ4 => ∀ μ5 : mm_T, μ5 = mm_I μ4 10 p1.toNatClampNeg 0 (1 : Int32) → (Po p1.toNatClampNeg μ5)) μ2 (μ2.1 6 0 4) p1.toNatClampNeg)) μ p1))
set_option maxHeartbeats 4000000 in
set_option maxRecDepth 100000 in
theorem kX0_placingOf (l : Launch) (p1 : Int32) : mm_CR 10 l yX0_placingOf wsX0_placingOf ({ frames := 4, cells := 0, slots := 0, locals := 97 }) (fun z => [.ref (z + mm_ad 6 0), .int p1]) (fun μ Po => pX0_placingOf Po μ p1) := by
  refine je_R (cc := cX0_placingOf) (nL := 3) (own := RX0) (plainFor_of_name (by decide)) rfl rfl (fun _ => Nat.le_of_ble_eq_true rfl) ?_
  intro p e s m args below meth c D cy z μ Po C hr hk h
  change jJ p l e ({ frames := 4, cells := 0, slots := 0, locals := 97 }) s m args below meth c D cy z (MQ below (va_Qr (fun u : Nat × mm_T => Po u.1 u.2) (fun u a t => a = z + mm_ad 10 u.1 ∧ mm_Po D cy z u.2 t) (mm_A z)) args s 0 0 (mm_A z)) 3 μ 0 [(0, .ref (z + mm_ad 6 0)), (1, .int p1)] []
  replace h : pX0_placingOf Po μ p1 := h
  unfold pX0_placingOf at h
  refine jr_aload_n (q := 1) C 0 dX0_placingOf_0 rfl rfl rfl ?_
  refine jr_getR (q := 4) (ci := 0) (Cn := RX0) (T := TX0) (N := 11) (j := 8) C mf_6 rfl rfl (by decide) rfl 8 0 rfl rfl rfl nX0_placingOf_0 mX0_placingOf_1 dX0_placingOf_1 rfl rfl ?_
  refine jr_iload_n (q := 5) C 1 dX0_placingOf_4 rfl rfl rfl ?_
  obtain ⟨g1, h⟩ := h
  refine jr_aald (q := 6) (t := 2) C mf_8 10 (fun _ => rfl) (fun _ _ => rfl) rfl (by decide) g1 dX0_placingOf_5 rfl ?_
  refine jr_astore_n (q := 7) (lv' := [(2, .ref (z + mm_ad 10 p1.toNatClampNeg)), (0, .ref (z + mm_ad 6 0)), (1, .int p1)]) C dX0_placingOf_6 rfl (by decide) rfl rfl ?_
  refine jr_aload_n (q := 8) C 0 dX0_placingOf_7 rfl rfl rfl ?_
  refine jr_getI (q := 11) (ci := 7) (Cn := RX7) (T := TX7) (N := 6) (j := 0) C (mm_lt g1) rfl rfl (by decide) rfl rfl nX0_placingOf_7 mX0_placingOf_3 dX0_placingOf_8 rfl rfl ?_
  refine jr_if_ne (q := 14) (tgt := 32) C dX0_placingOf_11 (by decide) rfl (fun c6 => ?_) (fun c6 => ?_)
  · replace h := h.1 c6
    refine jr_aload_n (q := 33) C 0 dX0_placingOf_32 rfl rfl rfl ?_
    exact jr_aret (i := p1.toNatClampNeg) C hr hk dX0_placingOf_33 h
  · replace h := h.2 c6
    refine jr_aload_n (q := 15) C 1 dX0_placingOf_14 rfl rfl rfl ?_
    refine jr_iload_n (q := 16) C 2 dX0_placingOf_15 rfl rfl rfl ?_
    refine jr_cvR (q := 19) (f0 := 21) (As := [.int p1]) (rest := []) C (f := 6) (i := 0) (ci := 0) mf_6 rfl rfl rfl (kX0_fittingOf l p1) rfl gX0_placingOf_X0_fittingOf rfl dsc_X0_fittingOf ⟨rfl, rfl⟩ ⟨by decide, by decide⟩ rfl rfl (Nat.le_of_ble_eq_true rfl) dX0_placingOf_16 rfl h (fun r3 μ2 h => ?_)
    obtain ⟨e9, h⟩ := h
    subst e9
    refine jr_aload_n (q := 20) C 1 dX0_placingOf_19 rfl rfl rfl ?_
    refine jr_getI (q := 23) (ci := 0) (Cn := RX0) (T := TX0) (N := 11) (j := 4) C mf_6 rfl rfl (by decide) rfl rfl nX0_placingOf_0 mX0_placingOf_4 dX0_placingOf_20 rfl rfl ?_
    refine jr_aload_n (q := 24) C 0 dX0_placingOf_23 rfl rfl rfl ?_
    refine jr_cvV (q := 27) (As := [.int (μ2.1 6 0 4), .ref (z + mm_ad 10 p1.toNatClampNeg)]) (rest := []) C (f := 21) (i := 0) (ci := 1) mf_21 rfl rfl rfl (kX1_settle l (μ2.1 6 0 4) p1.toNatClampNeg) rfl gX0_placingOf_X1_settle rfl dsc_X1_settle ⟨rfl, rfl⟩ ⟨by decide, by decide⟩ rfl rfl (Nat.le_of_ble_eq_true rfl) dX0_placingOf_24 rfl h (fun μ4 h => ?_)
    refine jr_aload_n (q := 28) C 0 dX0_placingOf_27 rfl rfl rfl ?_
    refine jr_iconst (q := 29) (v := (1 : Int32)) C dX0_placingOf_28 (by decide) rfl ?_
    refine jr_putZ (q := 32) (ci := 7) (Cn := RX7) (T := TX7) (N := 6) (j := 0) C (mm_lt g1) rfl rfl (by decide) rfl (by decide) rfl tyX7 tyX7_ok nmX7 rfl (by decide +kernel) nX0_placingOf_7 mX0_placingOf_3 dX0_placingOf_29 rfl rfl ?_
    refine jn_mem (fun μ5 eμ5 => ?_)
    replace h := h μ5 eμ5
    refine jr_aload_n (q := 33) C 0 dX0_placingOf_32 rfl rfl rfl ?_
    exact jr_aret (i := p1.toNatClampNeg) C hr hk dX0_placingOf_33 h
theorem nX9_areFree_9 : ∀ w ∈ wsX90, w ∈ wsX9_areFree := fun _ h => List.mem_cons_of_mem _ (List.mem_append_right _ h)
theorem mX9_areFree_1 : Cond.fieldLink RX9 9 RX9 (TX9 0).2.1 (TX9 0).2.2.1 ∈ wsX9_areFree := List.mem_of_getElem? (i := 1) (by decide +kernel)
theorem mX9_areFree_2 : Cond.methodLink RX9 25 Lib.Math.max.name ∈ wsX9_areFree := List.mem_of_getElem? (i := 2) (by decide +kernel)
theorem mX9_areFree_3 : Cond.static Lib.Math.max.name ∈ wsX9_areFree := List.mem_of_getElem? (i := 3) (by decide +kernel)
theorem mX9_areFree_4 : Cond.initialized "java/lang/Math" ∈ wsX9_areFree := List.mem_of_getElem? (i := 4) (by decide +kernel)
theorem mX9_areFree_5 : Cond.code Lib.Math.max.name Lib.Math.max.code 2 (some .int) ∈ wsX9_areFree := List.mem_of_getElem? (i := 5) (by decide +kernel)
theorem dsc_X9_areFree : yX9_areFree.cls ≠ "java/lang/invoke/MethodHandle" ∧ yX9_areFree.cls ≠ "java/lang/invoke/VarHandle" ∧ (parseMethodDescriptor yX9_areFree.desc).map (fun d => d.parameters.length) = some 2 := by decide +kernel
def pX9_areFree_l2 (Po : Int32 → mm_T → Prop) (E2_18 : mm_T → Prop) (E2_31 : mm_T → Prop) (K2 : mm_T → Int32 → Int32 → Prop) (μ : mm_T) (a2 : Int32) (a3 : Int32) : Prop := ((16 : Int32) ≤ a3 → E2_31 μ) ∧ (¬ ((16 : Int32) ≤ a3) → (vp_in a3 16) ∧ (((μ.1 18 0 a3.toNatClampNeg) = (-1 : Int32) → ∀ x2 : Int32, x2 = a3 + (if (1 : Int32) < a2 then a2 else (1 : Int32)) → (K2 μ a2 x2)) ∧ (¬ ((μ.1 18 0 a3.toNatClampNeg) = (-1 : Int32)) → E2_18 μ)))
def pX9_areFree (Po : Int32 → mm_T → Prop) (μ : mm_T) (p1 : Int32) (p2 : Int32) : Prop := lp_ (fun (K9 : mm_T × Int32 × Int32 → Prop) (t9 : mm_T × Int32 × Int32) => pX9_areFree_l2 Po (fun μ => Po (0 : Int32) μ) (fun μ => Po (1 : Int32) μ) (fun μ a2 a3 => K9 (μ, a2, a3)) t9.1 t9.2.1 t9.2.2) (μ, p2, p1)
set_option maxHeartbeats 4000000 in
set_option maxRecDepth 100000 in
theorem kX9_areFree (l : Launch) (p1 : Int32) (p2 : Int32) : mm_CI l yX9_areFree wsX9_areFree ({ frames := 1, cells := 0, slots := 0, locals := 23 }) (fun z => [.ref (z + mm_ad 17 0), .int p1, .int p2]) (fun μ Po => pX9_areFree Po μ p1 p2) := by
  refine je_Z (cc := cX9_areFree) (nL := 4) (own := RX9) (plainFor_of_name (by decide)) rfl rfl (fun _ => Nat.le_of_ble_eq_true rfl) ?_
  intro p e s m args below meth c D cy z μ Po C hr hk h
  change jJ p l e ({ frames := 1, cells := 0, slots := 0, locals := 23 }) s m args below meth c D cy z (MQ below (va_Qi Po (mm_Po D cy z) (mm_A z)) args s 0 0 (mm_A z)) 4 μ 0 [(0, .ref (z + mm_ad 17 0)), (1, .int p1), (2, .int p2)] []
  replace h : pX9_areFree Po μ p1 p2 := h
  unfold pX9_areFree at h
  refine jr_iload_n (q := 1) C 1 dX9_areFree_0 rfl rfl rfl ?_
  refine jr_istore_n (q := 2) (lv' := [(3, .int p1), (0, .ref (z + mm_ad 17 0)), (1, .int p1), (2, .int p2)]) C dX9_areFree_1 rfl (by decide) rfl rfl ?_
  have l2 : ∀ (E2_18 : mm_T → Prop) (hE2_18 : ∀ (μ : mm_T), E2_18 μ → jJ p l e ({ frames := 1, cells := 0, slots := 0, locals := 23 }) s m args below meth c D cy z (MQ below (va_Qi Po (mm_Po D cy z) (mm_A z)) args s 0 0 (mm_A z)) 4 μ 18 [] []), ∀ (E2_31 : mm_T → Prop) (hE2_31 : ∀ (μ : mm_T), E2_31 μ → jJ p l e ({ frames := 1, cells := 0, slots := 0, locals := 23 }) s m args below meth c D cy z (MQ below (va_Qi Po (mm_Po D cy z) (mm_A z)) args s 0 0 (mm_A z)) 4 μ 31 [] []), ∀ t9 : mm_T × Int32 × Int32, lp_ (fun (K9 : mm_T × Int32 × Int32 → Prop) (t9 : mm_T × Int32 × Int32) => pX9_areFree_l2 Po E2_18 E2_31 (fun μ a2 a3 => K9 (μ, a2, a3)) t9.1 t9.2.1 t9.2.2) t9 → jJ p l e ({ frames := 1, cells := 0, slots := 0, locals := 23 }) s m args below meth c D cy z (MQ below (va_Qi Po (mm_Po D cy z) (mm_A z)) args s 0 0 (mm_A z)) 4 t9.1 2 [(0, .ref (z + mm_ad 17 0)), (2, .int t9.2.1), (3, .int t9.2.2)] [] := by
    intro E2_18 hE2_18 E2_31 hE2_31 t9 h
    refine lp_go (P := fun t9 : mm_T × Int32 × Int32 => jJ p l e ({ frames := 1, cells := 0, slots := 0, locals := 23 }) s m args below meth c D cy z (MQ below (va_Qi Po (mm_Po D cy z) (mm_A z)) args s 0 0 (mm_A z)) 4 t9.1 2 [(0, .ref (z + mm_ad 17 0)), (2, .int t9.2.1), (3, .int t9.2.2)] []) (fun K9 t9 hK h => ?_) t9 h
    obtain ⟨μ, a2, a3⟩ := t9
    obtain ⟨K2, eK2⟩ : ∃ K : mm_T → Int32 → Int32 → Prop, K = (fun μ a2 a3 => K9 (μ, a2, a3)) := ⟨_, rfl⟩
    have hK2 : ∀ (μ : mm_T) (a2 : Int32) (a3 : Int32), K2 μ a2 a3 → jJ p l e ({ frames := 1, cells := 0, slots := 0, locals := 23 }) s m args below meth c D cy z (MQ below (va_Qi Po (mm_Po D cy z) (mm_A z)) args s 0 0 (mm_A z)) 4 μ 2 [(0, .ref (z + mm_ad 17 0)), (2, .int a2), (3, .int a3)] [] := fun μ a2 a3 h9 => hK (μ, a2, a3) (by rw [eK2] at h9; exact h9)
    replace h : pX9_areFree_l2 Po E2_18 E2_31 K2 μ a2 a3 := by rw [eK2]; exact h
    unfold pX9_areFree_l2 at h
    refine jr_iload_n (q := 3) C 2 dX9_areFree_2 rfl rfl rfl ?_
    refine jr_bipush (q := 5) (v := (16 : Int32)) C dX9_areFree_3 (by decide) rfl ?_
    refine jr_icmp_ge (q := 8) (tgt := 31) C dX9_areFree_5 (by decide) rfl (fun c4 => ?_) (fun c4 => ?_)
    · replace h := h.1 c4
      refine jr_sub [] rfl ?_
      exact hE2_31 _ h
    · replace h := h.2 c4
      refine jr_aload_n (q := 9) C 0 dX9_areFree_8 rfl rfl rfl ?_
      refine jr_getR (q := 12) (ci := 9) (Cn := RX9) (T := TX9) (N := 1) (j := 0) C mf_17 rfl rfl (by decide) rfl 18 0 rfl rfl rfl nX9_areFree_9 mX9_areFree_1 dX9_areFree_9 rfl rfl ?_
      refine jr_iload_n (q := 13) C 2 dX9_areFree_12 rfl rfl rfl ?_
      obtain ⟨g1, h⟩ := h
      refine jr_iald (q := 14) C mf_18 rfl g1 dX9_areFree_13 rfl ?_
      refine jr_iconst (q := 15) (v := (-1 : Int32)) C dX9_areFree_14 (by decide) rfl ?_
      refine jr_icmp_eq (q := 18) (tgt := 20) C dX9_areFree_15 (by decide) rfl (fun c3 => ?_) (fun c3 => ?_)
      · replace h := h.1 c3
        refine jr_iload_n (q := 21) C 2 dX9_areFree_20 rfl rfl rfl ?_
        refine jr_iconst (q := 22) (v := (1 : Int32)) C dX9_areFree_21 (by decide) rfl ?_
        refine jr_iload_n (q := 23) C 1 dX9_areFree_22 rfl rfl rfl ?_
        refine jr_max (q := 26) C mX9_areFree_2 mX9_areFree_3 mX9_areFree_4 mX9_areFree_5 (by decide) (Nat.le_of_ble_eq_true rfl) dX9_areFree_23 rfl ?_
        refine jr_iadd (q := 27) C dX9_areFree_26 rfl ?_
        refine jn_int (fun x2 ex2 => ?_)
        replace h := h x2 ex2
        refine jr_istore_n (q := 28) (lv' := [(3, .int x2), (0, .ref (z + mm_ad 17 0)), (2, .int a2)]) C dX9_areFree_27 rfl (by decide) rfl rfl ?_
        refine jr_goto (tgt := 2) C dX9_areFree_28 (by decide) ?_
        refine jr_sub [1, 2, 0] rfl ?_
        exact hK2 _ _ _ h
      · replace h := h.2 c3
        refine jr_sub [] rfl ?_
        exact hE2_18 _ h
  have x2_18 : ∀ (μ : mm_T), (Po (0 : Int32) μ) → jJ p l e ({ frames := 1, cells := 0, slots := 0, locals := 23 }) s m args below meth c D cy z (MQ below (va_Qi Po (mm_Po D cy z) (mm_A z)) args s 0 0 (mm_A z)) 4 μ 18 [] [] := by
    intro μ h
    refine jr_iconst (q := 19) (v := (0 : Int32)) C dX9_areFree_18 (by decide) rfl ?_
    exact jr_zret C hr hk dX9_areFree_19 (by decide) h
  have x2_31 : ∀ (μ : mm_T), (Po (1 : Int32) μ) → jJ p l e ({ frames := 1, cells := 0, slots := 0, locals := 23 }) s m args below meth c D cy z (MQ below (va_Qi Po (mm_Po D cy z) (mm_A z)) args s 0 0 (mm_A z)) 4 μ 31 [] [] := by
    intro μ h
    refine jr_iconst (q := 32) (v := (1 : Int32)) C dX9_areFree_31 (by decide) rfl ?_
    exact jr_zret C hr hk dX9_areFree_32 (by decide) h
  refine jr_sub [1, 3, 0] rfl ?_
  exact l2 _ x2_18 _ x2_31 _ h
