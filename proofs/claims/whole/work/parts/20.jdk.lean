theorem dsc_J7_fill_53178 : yJ7_fill_53178.cls ≠ "java/lang/invoke/MethodHandle" ∧ yJ7_fill_53178.cls ≠ "java/lang/invoke/VarHandle" ∧ (parseMethodDescriptor yJ7_fill_53178.desc).map (fun d => d.parameters.length) = some 2 := by decide +kernel
def pJ7_fill_53178_l5 (Po : mm_T → Prop) (E5_20 : mm_T → Prop) (K5 : mm_T → Int32 → Int32 → Int32 → Prop) (μ : mm_T) (a1 : Int32) (a2 : Int32) (a3 : Int32) : Prop := (a3 ≤ a2 → E5_20 μ) ∧ (¬ (a3 ≤ a2) → (vp_in a2 16) ∧ (∀ μ2 : mm_T, μ2 = mm_I μ 18 0 a2.toNatClampNeg a1 → (K5 μ2 a1 (a2 + (1 : Int32)) a3)))
def pJ7_fill_53178 (Po : mm_T → Prop) (μ : mm_T) (p2 : Int32) : Prop := lp_ (fun (K9 : mm_T × Int32 × Int32 × Int32 → Prop) (t9 : mm_T × Int32 × Int32 × Int32) => pJ7_fill_53178_l5 Po (fun μ => Po μ) (fun μ a1 a2 a3 => K9 (μ, a1, a2, a3)) t9.1 t9.2.1 t9.2.2.1 t9.2.2.2) (μ, p2, (0 : Int32), (16 : Int32))
set_option maxHeartbeats 4000000 in
set_option maxRecDepth 100000 in
theorem kJ7_fill_53178 (l : Launch) (p2 : Int32) : mm_CV l yJ7_fill_53178 wsJ7_fill_53178 ({ frames := 0, cells := 0, slots := 0, locals := 0 }) (fun z => [.ref (z + mm_ad 18 0), .int p2]) (fun μ Po => pJ7_fill_53178 Po μ p2) := by
  refine je_V (cc := cJ7_fill_53178) (nL := 4) (own := RJ7) (by decide +kernel) rfl rfl (fun _ => Nat.le_of_ble_eq_true rfl) ?_
  intro p e s m args below meth c D cy z μ Po C hr hk h
  change jJ p l e ({ frames := 0, cells := 0, slots := 0, locals := 0 }) s m args below meth c D cy z (MQ below (va_Qv Po (mm_Po D cy z) (mm_A z)) args s 0 0 (mm_A z)) 4 μ 0 [(0, .ref (z + mm_ad 18 0)), (1, .int p2)] []
  replace h : pJ7_fill_53178 Po μ p2 := h
  unfold pJ7_fill_53178 at h
  refine jr_iconst (q := 1) (v := (0 : Int32)) C dJ7_fill_53178_0 (by decide) rfl ?_
  refine jr_istore_n (q := 2) (lv' := [(2, .int (0 : Int32)), (0, .ref (z + mm_ad 18 0)), (1, .int p2)]) C dJ7_fill_53178_1 rfl (by decide) rfl rfl ?_
  refine jr_aload_n (q := 3) C 1 dJ7_fill_53178_2 rfl rfl rfl ?_
  refine jr_alen (q := 4) (v := (16 : Int32)) C mf_18 rfl rfl (by decide) (by decide) dJ7_fill_53178_3 rfl ?_
  refine jr_istore_n (q := 5) (lv' := [(3, .int (16 : Int32)), (2, .int (0 : Int32)), (0, .ref (z + mm_ad 18 0)), (1, .int p2)]) C dJ7_fill_53178_4 rfl (by decide) rfl rfl ?_
  have l5 : ∀ (E5_20 : mm_T → Prop) (hE5_20 : ∀ (μ : mm_T), E5_20 μ → jJ p l e ({ frames := 0, cells := 0, slots := 0, locals := 0 }) s m args below meth c D cy z (MQ below (va_Qv Po (mm_Po D cy z) (mm_A z)) args s 0 0 (mm_A z)) 4 μ 20 [] []), ∀ t9 : mm_T × Int32 × Int32 × Int32, lp_ (fun (K9 : mm_T × Int32 × Int32 × Int32 → Prop) (t9 : mm_T × Int32 × Int32 × Int32) => pJ7_fill_53178_l5 Po E5_20 (fun μ a1 a2 a3 => K9 (μ, a1, a2, a3)) t9.1 t9.2.1 t9.2.2.1 t9.2.2.2) t9 → jJ p l e ({ frames := 0, cells := 0, slots := 0, locals := 0 }) s m args below meth c D cy z (MQ below (va_Qv Po (mm_Po D cy z) (mm_A z)) args s 0 0 (mm_A z)) 4 t9.1 5 [(0, .ref (z + mm_ad 18 0)), (1, .int t9.2.1), (2, .int t9.2.2.1), (3, .int t9.2.2.2)] [] := by
    intro E5_20 hE5_20 t9 h
    refine lp_go (P := fun t9 : mm_T × Int32 × Int32 × Int32 => jJ p l e ({ frames := 0, cells := 0, slots := 0, locals := 0 }) s m args below meth c D cy z (MQ below (va_Qv Po (mm_Po D cy z) (mm_A z)) args s 0 0 (mm_A z)) 4 t9.1 5 [(0, .ref (z + mm_ad 18 0)), (1, .int t9.2.1), (2, .int t9.2.2.1), (3, .int t9.2.2.2)] []) (fun K9 t9 hK h => ?_) t9 h
    obtain ⟨μ, a1, a2, a3⟩ := t9
    obtain ⟨K5, eK5⟩ : ∃ K : mm_T → Int32 → Int32 → Int32 → Prop, K = (fun μ a1 a2 a3 => K9 (μ, a1, a2, a3)) := ⟨_, rfl⟩
    have hK5 : ∀ (μ : mm_T) (a1 : Int32) (a2 : Int32) (a3 : Int32), K5 μ a1 a2 a3 → jJ p l e ({ frames := 0, cells := 0, slots := 0, locals := 0 }) s m args below meth c D cy z (MQ below (va_Qv Po (mm_Po D cy z) (mm_A z)) args s 0 0 (mm_A z)) 4 μ 5 [(0, .ref (z + mm_ad 18 0)), (1, .int a1), (2, .int a2), (3, .int a3)] [] := fun μ a1 a2 a3 h9 => hK (μ, a1, a2, a3) (by rw [eK5] at h9; exact h9)
    replace h : pJ7_fill_53178_l5 Po E5_20 K5 μ a1 a2 a3 := by rw [eK5]; exact h
    unfold pJ7_fill_53178_l5 at h
    refine jr_iload_n (q := 6) C 2 dJ7_fill_53178_5 rfl rfl rfl ?_
    refine jr_iload_n (q := 7) C 3 dJ7_fill_53178_6 rfl rfl rfl ?_
    refine jr_icmp_ge (q := 10) (tgt := 20) C dJ7_fill_53178_7 (by decide) rfl (fun c3 => ?_) (fun c3 => ?_)
    · replace h := h.1 c3
      refine jr_sub [] rfl ?_
      exact hE5_20 _ h
    · replace h := h.2 c3
      refine jr_aload_n (q := 11) C 0 dJ7_fill_53178_10 rfl rfl rfl ?_
      refine jr_iload_n (q := 12) C 2 dJ7_fill_53178_11 rfl rfl rfl ?_
      refine jr_iload_n (q := 13) C 1 dJ7_fill_53178_12 rfl rfl rfl ?_
      obtain ⟨g1, h⟩ := h
      refine jr_iast (q := 14) C mf_18 rfl g1 dJ7_fill_53178_13 rfl ?_
      refine jn_mem (fun μ2 eμ2 => ?_)
      replace h := h μ2 eμ2
      refine jr_iinc (q := 17) (lv' := [(2, .int (a2 + (1 : Int32))), (0, .ref (z + mm_ad 18 0)), (1, .int a1), (3, .int a3)]) C 2 dJ7_fill_53178_14 rfl (by rfl) (by decide) rfl rfl ?_
      refine jr_goto (tgt := 5) C dJ7_fill_53178_17 (by decide) ?_
      refine jr_sub [1, 2, 0, 3] rfl ?_
      exact hK5 _ _ _ _ h
  have x5_20 : ∀ (μ : mm_T), (Po μ) → jJ p l e ({ frames := 0, cells := 0, slots := 0, locals := 0 }) s m args below meth c D cy z (MQ below (va_Qv Po (mm_Po D cy z) (mm_A z)) args s 0 0 (mm_A z)) 4 μ 20 [] [] := by
    intro μ h
    exact jr_vret C hr hk dJ7_fill_53178_20 h
  refine jr_sub [2, 3, 1, 0] rfl ?_
  exact l5 _ x5_20 _ h
theorem dsc_J9_floorDiv_f86c9 : yJ9_floorDiv_f86c9.cls ≠ "java/lang/invoke/MethodHandle" ∧ yJ9_floorDiv_f86c9.cls ≠ "java/lang/invoke/VarHandle" ∧ (parseMethodDescriptor yJ9_floorDiv_f86c9.desc).map (fun d => d.parameters.length) = some 2 := by decide +kernel
def pJ9_floorDiv_f86c9 (Po : Int64 → mm_T → Prop) (μ : mm_T) (p1 : Int64) (p2 : Int64) : Prop := (¬ p2 = 0) ∧ (∀ x2 : Int64, x2 = p1 / p2 → ((0 ≤ (lg_cmp (p1 ^^^ p2) (0 : Int64)) → Po x2 μ) ∧ (¬ (0 ≤ (lg_cmp (p1 ^^^ p2) (0 : Int64))) → ((lg_cmp (x2 * p2) p1) = 0 → Po x2 μ) ∧ (¬ ((lg_cmp (x2 * p2) p1) = 0) → Po (x2 - (1 : Int64)) μ))))
set_option maxHeartbeats 4000000 in
set_option maxRecDepth 100000 in
theorem kJ9_floorDiv_f86c9 (l : Launch) (p1 : Int64) (p2 : Int64) : mm_CL l yJ9_floorDiv_f86c9 wsJ9_floorDiv_f86c9 ({ frames := 0, cells := 0, slots := 0, locals := 0 }) (fun z => [.long p1, .long p2]) (fun μ Po => pJ9_floorDiv_f86c9 Po μ p1 p2) := by
  refine je_L (cc := cJ9_floorDiv_f86c9) (nL := 6) (own := RJ9) (by decide +kernel) rfl rfl (fun _ => Nat.le_of_ble_eq_true rfl) ?_
  intro p e s m args below meth c D cy z μ Po C hr hk h
  change jJ p l e ({ frames := 0, cells := 0, slots := 0, locals := 0 }) s m args below meth c D cy z (MQ below (va_Ql Po (mm_Po D cy z) (mm_A z)) args s 0 0 (mm_A z)) 6 μ 0 [(0, .long p1), (2, .long p2)] []
  replace h : pJ9_floorDiv_f86c9 Po μ p1 p2 := h
  unfold pJ9_floorDiv_f86c9 at h
  refine jr_lload_n (q := 1) C 0 dJ9_floorDiv_f86c9_0 rfl rfl rfl ?_
  refine jr_lload_n (q := 2) C 1 dJ9_floorDiv_f86c9_1 rfl rfl rfl ?_
  obtain ⟨g1, h⟩ := h
  refine jr_ldiv (q := 3) C dJ9_floorDiv_f86c9_2 g1 rfl ?_
  refine jn_lng (fun x2 ex2 => ?_)
  replace h := h x2 ex2
  refine jr_lstore (q := 5) (lv' := [(4, .long x2), (0, .long p1), (2, .long p2)]) C dJ9_floorDiv_f86c9_3 (by decide) rfl rfl ?_
  refine jr_lload_n (q := 6) C 1 dJ9_floorDiv_f86c9_5 rfl rfl rfl ?_
  refine jr_lload_n (q := 7) C 2 dJ9_floorDiv_f86c9_6 rfl rfl rfl ?_
  refine jr_lxor (q := 8) C dJ9_floorDiv_f86c9_7 rfl ?_
  refine jr_lconst (q := 9) (v := (0 : Int64)) C dJ9_floorDiv_f86c9_8 (by decide) rfl ?_
  refine jr_lcmp (q := 10) C dJ9_floorDiv_f86c9_9 rfl ?_
  refine jr_if_ge (q := 13) (tgt := 27) C dJ9_floorDiv_f86c9_10 (by decide) rfl (fun c4 => ?_) (fun c4 => ?_)
  · replace h := h.1 c4
    refine jr_lload (q := 29) C 0 dJ9_floorDiv_f86c9_27 rfl rfl ?_
    exact jr_lret C hr hk dJ9_floorDiv_f86c9_29 h
  · replace h := h.2 c4
    refine jr_lload (q := 15) C 0 dJ9_floorDiv_f86c9_13 rfl rfl ?_
    refine jr_lload_n (q := 16) C 2 dJ9_floorDiv_f86c9_15 rfl rfl rfl ?_
    refine jr_lmul (q := 17) C dJ9_floorDiv_f86c9_16 rfl ?_
    refine jr_lload_n (q := 18) C 1 dJ9_floorDiv_f86c9_17 rfl rfl rfl ?_
    refine jr_lcmp (q := 19) C dJ9_floorDiv_f86c9_18 rfl ?_
    refine jr_if_eq (q := 22) (tgt := 27) C dJ9_floorDiv_f86c9_19 (by decide) rfl (fun c3 => ?_) (fun c3 => ?_)
    · replace h := h.1 c3
      refine jr_lload (q := 29) C 0 dJ9_floorDiv_f86c9_27 rfl rfl ?_
      exact jr_lret C hr hk dJ9_floorDiv_f86c9_29 h
    · replace h := h.2 c3
      refine jr_lload (q := 24) C 0 dJ9_floorDiv_f86c9_22 rfl rfl ?_
      refine jr_lconst (q := 25) (v := (1 : Int64)) C dJ9_floorDiv_f86c9_24 (by decide) rfl ?_
      refine jr_lsub (q := 26) C dJ9_floorDiv_f86c9_25 rfl ?_
      exact jr_lret C hr hk dJ9_floorDiv_f86c9_26 h
theorem mJ6_bitCount_0f7a4_0 : Cond.constant RJ6 265 (1431655765) ∈ wsJ6_bitCount_0f7a4 := List.mem_of_getElem? (i := 1) (by decide +kernel)
theorem mJ6_bitCount_0f7a4_1 : Cond.constant RJ6 266 (858993459) ∈ wsJ6_bitCount_0f7a4 := List.mem_of_getElem? (i := 2) (by decide +kernel)
theorem mJ6_bitCount_0f7a4_2 : Cond.constant RJ6 267 (252645135) ∈ wsJ6_bitCount_0f7a4 := List.mem_of_getElem? (i := 3) (by decide +kernel)
theorem dsc_J6_bitCount_0f7a4 : yJ6_bitCount_0f7a4.cls ≠ "java/lang/invoke/MethodHandle" ∧ yJ6_bitCount_0f7a4.cls ≠ "java/lang/invoke/VarHandle" ∧ (parseMethodDescriptor yJ6_bitCount_0f7a4.desc).map (fun d => d.parameters.length) = some 1 := by decide +kernel
def pJ6_bitCount_0f7a4 (Po : Int32 → mm_T → Prop) (μ : mm_T) (p1 : Int32) : Prop := ∀ x1 : Int32, x1 = p1 - (((p1.toUInt32 >>> ((1 : Int32).toUInt32 &&& Int32.toUInt32 31)).toInt32) &&& (1431655765 : Int32)) → (∀ x2 : Int32, x2 = (x1 &&& (858993459 : Int32)) + (((x1.toUInt32 >>> ((2 : Int32).toUInt32 &&& Int32.toUInt32 31)).toInt32) &&& (858993459 : Int32)) → (∀ x3 : Int32, x3 = (x2 + ((x2.toUInt32 >>> ((4 : Int32).toUInt32 &&& Int32.toUInt32 31)).toInt32)) &&& (252645135 : Int32) → (∀ x4 : Int32, x4 = x3 + ((x3.toUInt32 >>> ((8 : Int32).toUInt32 &&& Int32.toUInt32 31)).toInt32) → (∀ x5 : Int32, x5 = x4 + ((x4.toUInt32 >>> ((16 : Int32).toUInt32 &&& Int32.toUInt32 31)).toInt32) → (Po (x5 &&& (63 : Int32)) μ)))))
set_option maxHeartbeats 4000000 in
set_option maxRecDepth 100000 in
theorem kJ6_bitCount_0f7a4 (l : Launch) (p1 : Int32) : mm_CI l yJ6_bitCount_0f7a4 wsJ6_bitCount_0f7a4 ({ frames := 0, cells := 0, slots := 0, locals := 0 }) (fun z => [.int p1]) (fun μ Po => pJ6_bitCount_0f7a4 Po μ p1) := by
  refine je_I (cc := cJ6_bitCount_0f7a4) (nL := 1) (own := RJ6) (by decide +kernel) rfl rfl (fun _ => Nat.le_of_ble_eq_true rfl) ?_
  intro p e s m args below meth c D cy z μ Po C hr hk h
  change jJ p l e ({ frames := 0, cells := 0, slots := 0, locals := 0 }) s m args below meth c D cy z (MQ below (va_Qi Po (mm_Po D cy z) (mm_A z)) args s 0 0 (mm_A z)) 1 μ 0 [(0, .int p1)] []
  replace h : pJ6_bitCount_0f7a4 Po μ p1 := h
  unfold pJ6_bitCount_0f7a4 at h
  refine jr_iload_n (q := 1) C 0 dJ6_bitCount_0f7a4_0 rfl rfl rfl ?_
  refine jr_iload_n (q := 2) C 0 dJ6_bitCount_0f7a4_1 rfl rfl rfl ?_
  refine jr_iconst (q := 3) (v := (1 : Int32)) C dJ6_bitCount_0f7a4_2 (by decide) rfl ?_
  refine jr_iushr (q := 4) C dJ6_bitCount_0f7a4_3 rfl ?_
  refine jr_ldcw (q := 7) (v := (1431655765 : Int32)) C dJ6_bitCount_0f7a4_4 mJ6_bitCount_0f7a4_0 rfl ?_
  refine jr_iand (q := 8) C dJ6_bitCount_0f7a4_7 rfl ?_
  refine jr_isub (q := 9) C dJ6_bitCount_0f7a4_8 rfl ?_
  refine jn_int (fun x1 ex1 => ?_)
  replace h := h x1 ex1
  refine jr_istore_n (q := 10) (lv' := [(0, .int x1)]) C dJ6_bitCount_0f7a4_9 rfl (by decide) rfl rfl ?_
  refine jr_iload_n (q := 11) C 0 dJ6_bitCount_0f7a4_10 rfl rfl rfl ?_
  refine jr_ldcw (q := 14) (v := (858993459 : Int32)) C dJ6_bitCount_0f7a4_11 mJ6_bitCount_0f7a4_1 rfl ?_
  refine jr_iand (q := 15) C dJ6_bitCount_0f7a4_14 rfl ?_
  refine jr_iload_n (q := 16) C 0 dJ6_bitCount_0f7a4_15 rfl rfl rfl ?_
  refine jr_iconst (q := 17) (v := (2 : Int32)) C dJ6_bitCount_0f7a4_16 (by decide) rfl ?_
  refine jr_iushr (q := 18) C dJ6_bitCount_0f7a4_17 rfl ?_
  refine jr_ldcw (q := 21) (v := (858993459 : Int32)) C dJ6_bitCount_0f7a4_18 mJ6_bitCount_0f7a4_1 rfl ?_
  refine jr_iand (q := 22) C dJ6_bitCount_0f7a4_21 rfl ?_
  refine jr_iadd (q := 23) C dJ6_bitCount_0f7a4_22 rfl ?_
  refine jn_int (fun x2 ex2 => ?_)
  replace h := h x2 ex2
  refine jr_istore_n (q := 24) (lv' := [(0, .int x2)]) C dJ6_bitCount_0f7a4_23 rfl (by decide) rfl rfl ?_
  refine jr_iload_n (q := 25) C 0 dJ6_bitCount_0f7a4_24 rfl rfl rfl ?_
  refine jr_iload_n (q := 26) C 0 dJ6_bitCount_0f7a4_25 rfl rfl rfl ?_
  refine jr_iconst (q := 27) (v := (4 : Int32)) C dJ6_bitCount_0f7a4_26 (by decide) rfl ?_
  refine jr_iushr (q := 28) C dJ6_bitCount_0f7a4_27 rfl ?_
  refine jr_iadd (q := 29) C dJ6_bitCount_0f7a4_28 rfl ?_
  refine jr_ldcw (q := 32) (v := (252645135 : Int32)) C dJ6_bitCount_0f7a4_29 mJ6_bitCount_0f7a4_2 rfl ?_
  refine jr_iand (q := 33) C dJ6_bitCount_0f7a4_32 rfl ?_
  refine jn_int (fun x3 ex3 => ?_)
  replace h := h x3 ex3
  refine jr_istore_n (q := 34) (lv' := [(0, .int x3)]) C dJ6_bitCount_0f7a4_33 rfl (by decide) rfl rfl ?_
  refine jr_iload_n (q := 35) C 0 dJ6_bitCount_0f7a4_34 rfl rfl rfl ?_
  refine jr_iload_n (q := 36) C 0 dJ6_bitCount_0f7a4_35 rfl rfl rfl ?_
  refine jr_bipush (q := 38) (v := (8 : Int32)) C dJ6_bitCount_0f7a4_36 (by decide) rfl ?_
  refine jr_iushr (q := 39) C dJ6_bitCount_0f7a4_38 rfl ?_
  refine jr_iadd (q := 40) C dJ6_bitCount_0f7a4_39 rfl ?_
  refine jn_int (fun x4 ex4 => ?_)
  replace h := h x4 ex4
  refine jr_istore_n (q := 41) (lv' := [(0, .int x4)]) C dJ6_bitCount_0f7a4_40 rfl (by decide) rfl rfl ?_
  refine jr_iload_n (q := 42) C 0 dJ6_bitCount_0f7a4_41 rfl rfl rfl ?_
  refine jr_iload_n (q := 43) C 0 dJ6_bitCount_0f7a4_42 rfl rfl rfl ?_
  refine jr_bipush (q := 45) (v := (16 : Int32)) C dJ6_bitCount_0f7a4_43 (by decide) rfl ?_
  refine jr_iushr (q := 46) C dJ6_bitCount_0f7a4_45 rfl ?_
  refine jr_iadd (q := 47) C dJ6_bitCount_0f7a4_46 rfl ?_
  refine jn_int (fun x5 ex5 => ?_)
  replace h := h x5 ex5
  refine jr_istore_n (q := 48) (lv' := [(0, .int x5)]) C dJ6_bitCount_0f7a4_47 rfl (by decide) rfl rfl ?_
  refine jr_iload_n (q := 49) C 0 dJ6_bitCount_0f7a4_48 rfl rfl rfl ?_
  refine jr_bipush (q := 51) (v := (63 : Int32)) C dJ6_bitCount_0f7a4_49 (by decide) rfl ?_
  refine jr_iand (q := 52) C dJ6_bitCount_0f7a4_51 rfl ?_
  exact jr_iret C hr hk dJ6_bitCount_0f7a4_52 h
