theorem nX9_give_9 : ∀ w ∈ wsX90, w ∈ wsX9_give := fun _ h => List.mem_cons_of_mem _ (List.mem_append_right _ h)
theorem mX9_give_1 : Cond.fieldLink RX9 9 RX9 (TX9 0).2.1 (TX9 0).2.2.1 ∈ wsX9_give := List.mem_of_getElem? (i := 1) (by decide +kernel)
theorem mX9_give_2 : Cond.methodLink RX9 25 Lib.Math.max.name ∈ wsX9_give := List.mem_of_getElem? (i := 2) (by decide +kernel)
theorem mX9_give_3 : Cond.static Lib.Math.max.name ∈ wsX9_give := List.mem_of_getElem? (i := 3) (by decide +kernel)
theorem mX9_give_4 : Cond.initialized "java/lang/Math" ∈ wsX9_give := List.mem_of_getElem? (i := 4) (by decide +kernel)
theorem mX9_give_5 : Cond.code Lib.Math.max.name Lib.Math.max.code 2 (some .int) ∈ wsX9_give := List.mem_of_getElem? (i := 5) (by decide +kernel)
theorem dsc_X9_give : yX9_give.cls ≠ "java/lang/invoke/MethodHandle" ∧ yX9_give.cls ≠ "java/lang/invoke/VarHandle" ∧ (parseMethodDescriptor yX9_give.desc).map (fun d => d.parameters.length) = some 2 := by decide +kernel
def pX9_give_l25 (Po : Int32 → mm_T → Prop) (E25_53 : mm_T → Prop) (K25 : mm_T → Int32 → Int32 → Int32 → Prop) (μ : mm_T) (a1 : Int32) (a2 : Int32) (a4 : Int32) : Prop := ((16 : Int32) ≤ a4 → E25_53 μ) ∧ (¬ ((16 : Int32) ≤ a4) → (vp_in a4 16) ∧ (∀ μ2 : mm_T, μ2 = mm_I μ 18 0 a4.toNatClampNeg a1 → (∀ x3 : Int32, x3 = a4 + (if (1 : Int32) < a2 then a2 else (1 : Int32)) → (K25 μ2 a1 a2 x3))))
def pX9_give_l2 (Po : Int32 → mm_T → Prop) (E2_22 : mm_T → Int32 → Int32 → Int32 → Prop) (E2_61 : mm_T → Prop) (K2 : mm_T → Int32 → Int32 → Int32 → Prop) (μ : mm_T) (a1 : Int32) (a2 : Int32) (a3 : Int32) : Prop := (a2 ≤ a3 → E2_61 μ) ∧ (¬ (a2 ≤ a3) → ((16 : Int32) ≤ a3 → E2_61 μ) ∧ (¬ ((16 : Int32) ≤ a3) → pX9_areFree (fun r6 μ5 => (r6 = 0 → K2 μ5 a1 a2 (a3 + (1 : Int32))) ∧ (¬ (r6 = 0) → E2_22 μ5 a1 a2 a3)) μ a3 a2))
def pX9_give (Po : Int32 → mm_T → Prop) (μ : mm_T) (p1 : Int32) (p2 : Int32) : Prop := lp_ (fun (K9 : mm_T × Int32 × Int32 × Int32 → Prop) (t9 : mm_T × Int32 × Int32 × Int32) => pX9_give_l2 Po (fun μ c1 c2 c3 => lp_ (fun (K9 : mm_T × Int32 × Int32 × Int32 → Prop) (t9 : mm_T × Int32 × Int32 × Int32) => pX9_give_l25 Po (fun μ => Po (1 : Int32) μ) (fun μ a1 a2 a4 => K9 (μ, a1, a2, a4)) t9.1 t9.2.1 t9.2.2.1 t9.2.2.2) (μ, c1, c2, c3)) (fun μ => Po (0 : Int32) μ) (fun μ a1 a2 a3 => K9 (μ, a1, a2, a3)) t9.1 t9.2.1 t9.2.2.1 t9.2.2.2) (μ, p1, p2, (0 : Int32))
set_option maxHeartbeats 4000000 in
set_option maxRecDepth 100000 in
theorem kX9_give (l : Launch) (p1 : Int32) (p2 : Int32) : mm_CI l yX9_give wsX9_give ({ frames := 2, cells := 0, slots := 0, locals := 46 }) (fun z => [.ref (z + mm_ad 17 0), .int p1, .int p2]) (fun μ Po => pX9_give Po μ p1 p2) := by
  refine je_Z (cc := cX9_give) (nL := 5) (own := RX9) (plainFor_of_name (by decide)) rfl rfl (fun _ => Nat.le_of_ble_eq_true rfl) ?_
  intro p e s m args below meth c D cy z μ Po C hr hk h
  change jJ p l e ({ frames := 2, cells := 0, slots := 0, locals := 46 }) s m args below meth c D cy z (MQ below (va_Qi Po (mm_Po D cy z) (mm_A z)) args s 0 0 (mm_A z)) 5 μ 0 [(0, .ref (z + mm_ad 17 0)), (1, .int p1), (2, .int p2)] []
  replace h : pX9_give Po μ p1 p2 := h
  unfold pX9_give at h
  refine jr_iconst (q := 1) (v := (0 : Int32)) C dX9_give_0 (by decide) rfl ?_
  refine jr_istore_n (q := 2) (lv' := [(3, .int (0 : Int32)), (0, .ref (z + mm_ad 17 0)), (1, .int p1), (2, .int p2)]) C dX9_give_1 rfl (by decide) rfl rfl ?_
  have l2 : ∀ (E2_22 : mm_T → Int32 → Int32 → Int32 → Prop) (hE2_22 : ∀ (μ : mm_T) (c1 : Int32) (c2 : Int32) (c3 : Int32), E2_22 μ c1 c2 c3 → jJ p l e ({ frames := 2, cells := 0, slots := 0, locals := 46 }) s m args below meth c D cy z (MQ below (va_Qi Po (mm_Po D cy z) (mm_A z)) args s 0 0 (mm_A z)) 5 μ 22 [(0, .ref (z + mm_ad 17 0)), (1, .int c1), (2, .int c2), (3, .int c3)] []), ∀ (E2_61 : mm_T → Prop) (hE2_61 : ∀ (μ : mm_T), E2_61 μ → jJ p l e ({ frames := 2, cells := 0, slots := 0, locals := 46 }) s m args below meth c D cy z (MQ below (va_Qi Po (mm_Po D cy z) (mm_A z)) args s 0 0 (mm_A z)) 5 μ 61 [] []), ∀ t9 : mm_T × Int32 × Int32 × Int32, lp_ (fun (K9 : mm_T × Int32 × Int32 × Int32 → Prop) (t9 : mm_T × Int32 × Int32 × Int32) => pX9_give_l2 Po E2_22 E2_61 (fun μ a1 a2 a3 => K9 (μ, a1, a2, a3)) t9.1 t9.2.1 t9.2.2.1 t9.2.2.2) t9 → jJ p l e ({ frames := 2, cells := 0, slots := 0, locals := 46 }) s m args below meth c D cy z (MQ below (va_Qi Po (mm_Po D cy z) (mm_A z)) args s 0 0 (mm_A z)) 5 t9.1 2 [(0, .ref (z + mm_ad 17 0)), (1, .int t9.2.1), (2, .int t9.2.2.1), (3, .int t9.2.2.2)] [] := by
    intro E2_22 hE2_22 E2_61 hE2_61 t9 h
    refine lp_go (P := fun t9 : mm_T × Int32 × Int32 × Int32 => jJ p l e ({ frames := 2, cells := 0, slots := 0, locals := 46 }) s m args below meth c D cy z (MQ below (va_Qi Po (mm_Po D cy z) (mm_A z)) args s 0 0 (mm_A z)) 5 t9.1 2 [(0, .ref (z + mm_ad 17 0)), (1, .int t9.2.1), (2, .int t9.2.2.1), (3, .int t9.2.2.2)] []) (fun K9 t9 hK h => ?_) t9 h
    obtain ⟨μ, a1, a2, a3⟩ := t9
    obtain ⟨K2, eK2⟩ : ∃ K : mm_T → Int32 → Int32 → Int32 → Prop, K = (fun μ a1 a2 a3 => K9 (μ, a1, a2, a3)) := ⟨_, rfl⟩
    have hK2 : ∀ (μ : mm_T) (a1 : Int32) (a2 : Int32) (a3 : Int32), K2 μ a1 a2 a3 → jJ p l e ({ frames := 2, cells := 0, slots := 0, locals := 46 }) s m args below meth c D cy z (MQ below (va_Qi Po (mm_Po D cy z) (mm_A z)) args s 0 0 (mm_A z)) 5 μ 2 [(0, .ref (z + mm_ad 17 0)), (1, .int a1), (2, .int a2), (3, .int a3)] [] := fun μ a1 a2 a3 h9 => hK (μ, a1, a2, a3) (by rw [eK2] at h9; exact h9)
    replace h : pX9_give_l2 Po E2_22 E2_61 K2 μ a1 a2 a3 := by rw [eK2]; exact h
    unfold pX9_give_l2 at h
    refine jr_iload_n (q := 3) C 3 dX9_give_2 rfl rfl rfl ?_
    refine jr_iload_n (q := 4) C 2 dX9_give_3 rfl rfl rfl ?_
    refine jr_icmp_ge (q := 7) (tgt := 61) C dX9_give_4 (by decide) rfl (fun c9 => ?_) (fun c9 => ?_)
    · replace h := h.1 c9
      refine jr_sub [] rfl ?_
      exact hE2_61 _ h
    · replace h := h.2 c9
      refine jr_iload_n (q := 8) C 3 dX9_give_7 rfl rfl rfl ?_
      refine jr_bipush (q := 10) (v := (16 : Int32)) C dX9_give_8 (by decide) rfl ?_
      refine jr_icmp_ge (q := 13) (tgt := 61) C dX9_give_10 (by decide) rfl (fun c8 => ?_) (fun c8 => ?_)
      · replace h := h.1 c8
        refine jr_sub [] rfl ?_
        exact hE2_61 _ h
      · replace h := h.2 c8
        refine jr_aload_n (q := 14) C 0 dX9_give_13 rfl rfl rfl ?_
        refine jr_iload_n (q := 15) C 3 dX9_give_14 rfl rfl rfl ?_
        refine jr_iload_n (q := 16) C 2 dX9_give_15 rfl rfl rfl ?_
        refine jr_cvI (q := 19) (As := [.int a3, .int a2]) (rest := []) C (f := 17) (i := 0) (ci := 9) mf_17 rfl rfl rfl (kX9_areFree l a3 a2) rfl gX9_give_X9_areFree rfl dsc_X9_areFree ⟨rfl, rfl⟩ ⟨by decide, by decide⟩ rfl rfl (Nat.le_of_ble_eq_true rfl) dX9_give_16 rfl h (fun r6 μ5 h => ?_)
        refine jr_if_eq (q := 22) (tgt := 55) C dX9_give_19 (by decide) rfl (fun c7 => ?_) (fun c7 => ?_)
        · replace h := h.1 c7
          refine jr_iinc (q := 58) (lv' := [(3, .int (a3 + (1 : Int32))), (0, .ref (z + mm_ad 17 0)), (1, .int a1), (2, .int a2)]) C 3 dX9_give_55 rfl (by rfl) (by decide) rfl rfl ?_
          refine jr_goto (tgt := 2) C dX9_give_58 (by decide) ?_
          refine jr_sub [1, 2, 3, 0] rfl ?_
          exact hK2 _ _ _ _ h
        · replace h := h.2 c7
          refine jr_sub [0, 1, 2, 3] rfl ?_
          exact hE2_22 _ _ _ _ h
  have x2_22 : ∀ (μ : mm_T) (c1 : Int32) (c2 : Int32) (c3 : Int32), (lp_ (fun (K9 : mm_T × Int32 × Int32 × Int32 → Prop) (t9 : mm_T × Int32 × Int32 × Int32) => pX9_give_l25 Po (fun μ => Po (1 : Int32) μ) (fun μ a1 a2 a4 => K9 (μ, a1, a2, a4)) t9.1 t9.2.1 t9.2.2.1 t9.2.2.2) (μ, c1, c2, c3)) → jJ p l e ({ frames := 2, cells := 0, slots := 0, locals := 46 }) s m args below meth c D cy z (MQ below (va_Qi Po (mm_Po D cy z) (mm_A z)) args s 0 0 (mm_A z)) 5 μ 22 [(0, .ref (z + mm_ad 17 0)), (1, .int c1), (2, .int c2), (3, .int c3)] [] := by
    intro μ c1 c2 c3 h
    refine jr_iload_n (q := 23) C 3 dX9_give_22 rfl rfl rfl ?_
    refine jr_istore (q := 25) (lv' := [(4, .int c3), (0, .ref (z + mm_ad 17 0)), (1, .int c1), (2, .int c2), (3, .int c3)]) C dX9_give_23 (by decide) rfl rfl ?_
    have l25 : ∀ (E25_53 : mm_T → Prop) (hE25_53 : ∀ (μ : mm_T), E25_53 μ → jJ p l e ({ frames := 2, cells := 0, slots := 0, locals := 46 }) s m args below meth c D cy z (MQ below (va_Qi Po (mm_Po D cy z) (mm_A z)) args s 0 0 (mm_A z)) 5 μ 53 [] []), ∀ t9 : mm_T × Int32 × Int32 × Int32, lp_ (fun (K9 : mm_T × Int32 × Int32 × Int32 → Prop) (t9 : mm_T × Int32 × Int32 × Int32) => pX9_give_l25 Po E25_53 (fun μ a1 a2 a4 => K9 (μ, a1, a2, a4)) t9.1 t9.2.1 t9.2.2.1 t9.2.2.2) t9 → jJ p l e ({ frames := 2, cells := 0, slots := 0, locals := 46 }) s m args below meth c D cy z (MQ below (va_Qi Po (mm_Po D cy z) (mm_A z)) args s 0 0 (mm_A z)) 5 t9.1 25 [(0, .ref (z + mm_ad 17 0)), (1, .int t9.2.1), (2, .int t9.2.2.1), (4, .int t9.2.2.2)] [] := by
      intro E25_53 hE25_53 t9 h
      refine lp_go (P := fun t9 : mm_T × Int32 × Int32 × Int32 => jJ p l e ({ frames := 2, cells := 0, slots := 0, locals := 46 }) s m args below meth c D cy z (MQ below (va_Qi Po (mm_Po D cy z) (mm_A z)) args s 0 0 (mm_A z)) 5 t9.1 25 [(0, .ref (z + mm_ad 17 0)), (1, .int t9.2.1), (2, .int t9.2.2.1), (4, .int t9.2.2.2)] []) (fun K9 t9 hK h => ?_) t9 h
      obtain ⟨μ, a1, a2, a4⟩ := t9
      obtain ⟨K25, eK25⟩ : ∃ K : mm_T → Int32 → Int32 → Int32 → Prop, K = (fun μ a1 a2 a4 => K9 (μ, a1, a2, a4)) := ⟨_, rfl⟩
      have hK25 : ∀ (μ : mm_T) (a1 : Int32) (a2 : Int32) (a4 : Int32), K25 μ a1 a2 a4 → jJ p l e ({ frames := 2, cells := 0, slots := 0, locals := 46 }) s m args below meth c D cy z (MQ below (va_Qi Po (mm_Po D cy z) (mm_A z)) args s 0 0 (mm_A z)) 5 μ 25 [(0, .ref (z + mm_ad 17 0)), (1, .int a1), (2, .int a2), (4, .int a4)] [] := fun μ a1 a2 a4 h9 => hK (μ, a1, a2, a4) (by rw [eK25] at h9; exact h9)
      replace h : pX9_give_l25 Po E25_53 K25 μ a1 a2 a4 := by rw [eK25]; exact h
      unfold pX9_give_l25 at h
      refine jr_iload (q := 27) C 3 dX9_give_25 rfl rfl ?_
      refine jr_bipush (q := 29) (v := (16 : Int32)) C dX9_give_27 (by decide) rfl ?_
      refine jr_icmp_ge (q := 32) (tgt := 53) C dX9_give_29 (by decide) rfl (fun c4 => ?_) (fun c4 => ?_)
      · replace h := h.1 c4
        refine jr_sub [] rfl ?_
        exact hE25_53 _ h
      · replace h := h.2 c4
        refine jr_aload_n (q := 33) C 0 dX9_give_32 rfl rfl rfl ?_
        refine jr_getR (q := 36) (ci := 9) (Cn := RX9) (T := TX9) (N := 1) (j := 0) C mf_17 rfl rfl (by decide) rfl 18 0 rfl rfl rfl nX9_give_9 mX9_give_1 dX9_give_33 rfl rfl ?_
        refine jr_iload (q := 38) C 3 dX9_give_36 rfl rfl ?_
        refine jr_iload_n (q := 39) C 1 dX9_give_38 rfl rfl rfl ?_
        obtain ⟨g1, h⟩ := h
        refine jr_iast (q := 40) C mf_18 rfl g1 dX9_give_39 rfl ?_
        refine jn_mem (fun μ2 eμ2 => ?_)
        replace h := h μ2 eμ2
        refine jr_iload (q := 42) C 3 dX9_give_40 rfl rfl ?_
        refine jr_iconst (q := 43) (v := (1 : Int32)) C dX9_give_42 (by decide) rfl ?_
        refine jr_iload_n (q := 44) C 2 dX9_give_43 rfl rfl rfl ?_
        refine jr_max (q := 47) C mX9_give_2 mX9_give_3 mX9_give_4 mX9_give_5 (by decide) (Nat.le_of_ble_eq_true rfl) dX9_give_44 rfl ?_
        refine jr_iadd (q := 48) C dX9_give_47 rfl ?_
        refine jn_int (fun x3 ex3 => ?_)
        replace h := h x3 ex3
        refine jr_istore (q := 50) (lv' := [(4, .int x3), (0, .ref (z + mm_ad 17 0)), (1, .int a1), (2, .int a2)]) C dX9_give_48 (by decide) rfl rfl ?_
        refine jr_goto (tgt := 25) C dX9_give_50 (by decide) ?_
        refine jr_sub [1, 2, 3, 0] rfl ?_
        exact hK25 _ _ _ _ h
    have x25_53 : ∀ (μ : mm_T), (Po (1 : Int32) μ) → jJ p l e ({ frames := 2, cells := 0, slots := 0, locals := 46 }) s m args below meth c D cy z (MQ below (va_Qi Po (mm_Po D cy z) (mm_A z)) args s 0 0 (mm_A z)) 5 μ 53 [] [] := by
      intro μ h
      refine jr_iconst (q := 54) (v := (1 : Int32)) C dX9_give_53 (by decide) rfl ?_
      exact jr_zret C hr hk dX9_give_54 (by decide) h
    refine jr_sub [1, 2, 3, 0] rfl ?_
    exact l25 _ x25_53 _ h
  have x2_61 : ∀ (μ : mm_T), (Po (0 : Int32) μ) → jJ p l e ({ frames := 2, cells := 0, slots := 0, locals := 46 }) s m args below meth c D cy z (MQ below (va_Qi Po (mm_Po D cy z) (mm_A z)) args s 0 0 (mm_A z)) 5 μ 61 [] [] := by
    intro μ h
    refine jr_iconst (q := 62) (v := (0 : Int32)) C dX9_give_61 (by decide) rfl ?_
    exact jr_zret C hr hk dX9_give_62 (by decide) h
  refine jr_sub [1, 2, 3, 0] rfl ?_
  exact l2 _ x2_22 _ x2_61 _ h
theorem nX0_dealSlots_0 : ∀ w ∈ wsX00, w ∈ wsX0_dealSlots := fun _ h => List.mem_cons_of_mem _ (List.mem_append_left _ (List.mem_append_left _ (List.mem_append_right _ h)))
theorem mX0_dealSlots_1 : Cond.fieldLink RX0 42 RX0 (TX0 6).2.1 (TX0 6).2.2.1 ∈ wsX0_dealSlots := List.mem_of_getElem? (i := 1) (by decide +kernel)
theorem mX0_dealSlots_2 : Cond.fieldLink RX0 68 RX0 (TX0 1).2.1 (TX0 1).2.2.1 ∈ wsX0_dealSlots := List.mem_of_getElem? (i := 2) (by decide +kernel)
theorem mX0_dealSlots_3 : Cond.fieldLink RX0 11 RX0 (TX0 0).2.1 (TX0 0).2.2.1 ∈ wsX0_dealSlots := List.mem_of_getElem? (i := 3) (by decide +kernel)
theorem nX0_dealSlots_5 : ∀ w ∈ wsX50, w ∈ wsX0_dealSlots := fun _ h => List.mem_cons_of_mem _ (List.mem_append_left _ (List.mem_append_right _ h))
theorem mX0_dealSlots_5 : Cond.fieldLink RX0 204 RX5 (TX5 6).2.1 (TX5 6).2.2.1 ∈ wsX0_dealSlots := List.mem_of_getElem? (i := 4) (by decide +kernel)
theorem dsc_X0_dealSlots : yX0_dealSlots.cls ≠ "java/lang/invoke/MethodHandle" ∧ yX0_dealSlots.cls ≠ "java/lang/invoke/VarHandle" ∧ (parseMethodDescriptor yX0_dealSlots.desc).map (fun d => d.parameters.length) = some 0 := by decide +kernel
def pX0_dealSlots_l19 (Po : Int32 → mm_T → Prop) (E19_61 : mm_T → Int32 → Int32 → Prop) (K19 : mm_T → Int32 → Int32 → Int32 → Prop) (μ : mm_T) (a1 : Int32) (a2 : Int32) (a3 : Int32) : Prop := ((μ.1 6 0 1) ≤ a3 → E19_61 μ a1 a2) ∧ (¬ ((μ.1 6 0 1) ≤ a3) → (vp_in a3 7) ∧ ((¬ (μ.1 9 a3.toNatClampNeg 6) = a2 → K19 μ a1 a2 (a3 + (1 : Int32))) ∧ ((μ.1 9 a3.toNatClampNeg 6) = a2 → pX9_give (fun r5 μ4 => (r5 = 0 → K19 μ4 a1 a2 (a3 + (1 : Int32))) ∧ (¬ (r5 = 0) → K19 μ4 (a1 + (1 : Int32)) a2 (a3 + (1 : Int32)))) μ a3 a2)))
def pX0_dealSlots_l11 (Po : Int32 → mm_T → Prop) (E11_68 : mm_T → Int32 → Prop) (K11 : mm_T → Int32 → Int32 → Prop) (μ : mm_T) (a1 : Int32) (a2 : Int32) : Prop := ((16 : Int32) < a2 → E11_68 μ a1) ∧ (¬ ((16 : Int32) < a2) → lp_ (fun (K9 : mm_T × Int32 × Int32 × Int32 → Prop) (t9 : mm_T × Int32 × Int32 × Int32) => pX0_dealSlots_l19 Po (fun μ c1 c2 => ∀ x2 : Int32, x2 = c2 * (2 : Int32) → (K11 μ c1 x2)) (fun μ a1 a2 a3 => K9 (μ, a1, a2, a3)) t9.1 t9.2.1 t9.2.2.1 t9.2.2.2) (μ, a1, a2, (0 : Int32)))
def pX0_dealSlots (Po : Int32 → mm_T → Prop) (μ : mm_T) : Prop := pX9_clear (fun μ1 => lp_ (fun (K9 : mm_T × Int32 × Int32 → Prop) (t9 : mm_T × Int32 × Int32) => pX0_dealSlots_l11 Po (fun μ c1 => Po c1 μ) (fun μ a1 a2 => K9 (μ, a1, a2)) t9.1 t9.2.1 t9.2.2) (μ1, (0 : Int32), (1 : Int32))) μ 
set_option maxHeartbeats 4000000 in
set_option maxRecDepth 100000 in
theorem kX0_dealSlots (l : Launch) : mm_CI l yX0_dealSlots wsX0_dealSlots ({ frames := 3, cells := 0, slots := 0, locals := 70 }) (fun z => [.ref (z + mm_ad 6 0)]) (fun μ Po => pX0_dealSlots Po μ) := by
  refine je_I (cc := cX0_dealSlots) (nL := 4) (own := RX0) (plainFor_of_name (by decide)) rfl rfl (fun _ => Nat.le_of_ble_eq_true rfl) ?_
  intro p e s m args below meth c D cy z μ Po C hr hk h
  change jJ p l e ({ frames := 3, cells := 0, slots := 0, locals := 70 }) s m args below meth c D cy z (MQ below (va_Qi Po (mm_Po D cy z) (mm_A z)) args s 0 0 (mm_A z)) 4 μ 0 [(0, .ref (z + mm_ad 6 0))] []
  replace h : pX0_dealSlots Po μ := h
  unfold pX0_dealSlots at h
  refine jr_aload_n (q := 1) C 0 dX0_dealSlots_0 rfl rfl rfl ?_
  refine jr_getR (q := 4) (ci := 0) (Cn := RX0) (T := TX0) (N := 11) (j := 6) C mf_6 rfl rfl (by decide) rfl 17 0 rfl rfl rfl nX0_dealSlots_0 mX0_dealSlots_1 dX0_dealSlots_1 rfl rfl ?_
  refine jr_cvV (q := 7) (As := []) (rest := []) C (f := 17) (i := 0) (ci := 9) mf_17 rfl rfl rfl (kX9_clear l) rfl gX0_dealSlots_X9_clear rfl dsc_X9_clear ⟨rfl, rfl⟩ ⟨by decide, by decide⟩ rfl rfl (Nat.le_of_ble_eq_true rfl) dX0_dealSlots_4 rfl h (fun μ1 h => ?_)
  refine jr_iconst (q := 8) (v := (0 : Int32)) C dX0_dealSlots_7 (by decide) rfl ?_
  refine jr_istore_n (q := 9) (lv' := [(1, .int (0 : Int32)), (0, .ref (z + mm_ad 6 0))]) C dX0_dealSlots_8 rfl (by decide) rfl rfl ?_
  refine jr_iconst (q := 10) (v := (1 : Int32)) C dX0_dealSlots_9 (by decide) rfl ?_
  refine jr_istore_n (q := 11) (lv' := [(2, .int (1 : Int32)), (1, .int (0 : Int32)), (0, .ref (z + mm_ad 6 0))]) C dX0_dealSlots_10 rfl (by decide) rfl rfl ?_
  have l11 : ∀ (E11_68 : mm_T → Int32 → Prop) (hE11_68 : ∀ (μ : mm_T) (c1 : Int32), E11_68 μ c1 → jJ p l e ({ frames := 3, cells := 0, slots := 0, locals := 70 }) s m args below meth c D cy z (MQ below (va_Qi Po (mm_Po D cy z) (mm_A z)) args s 0 0 (mm_A z)) 4 μ 68 [(1, .int c1)] []), ∀ t9 : mm_T × Int32 × Int32, lp_ (fun (K9 : mm_T × Int32 × Int32 → Prop) (t9 : mm_T × Int32 × Int32) => pX0_dealSlots_l11 Po E11_68 (fun μ a1 a2 => K9 (μ, a1, a2)) t9.1 t9.2.1 t9.2.2) t9 → jJ p l e ({ frames := 3, cells := 0, slots := 0, locals := 70 }) s m args below meth c D cy z (MQ below (va_Qi Po (mm_Po D cy z) (mm_A z)) args s 0 0 (mm_A z)) 4 t9.1 11 [(0, .ref (z + mm_ad 6 0)), (1, .int t9.2.1), (2, .int t9.2.2)] [] := by
    intro E11_68 hE11_68 t9 h
    refine lp_go (P := fun t9 : mm_T × Int32 × Int32 => jJ p l e ({ frames := 3, cells := 0, slots := 0, locals := 70 }) s m args below meth c D cy z (MQ below (va_Qi Po (mm_Po D cy z) (mm_A z)) args s 0 0 (mm_A z)) 4 t9.1 11 [(0, .ref (z + mm_ad 6 0)), (1, .int t9.2.1), (2, .int t9.2.2)] []) (fun K9 t9 hK h => ?_) t9 h
    obtain ⟨μ, a1, a2⟩ := t9
    obtain ⟨K11, eK11⟩ : ∃ K : mm_T → Int32 → Int32 → Prop, K = (fun μ a1 a2 => K9 (μ, a1, a2)) := ⟨_, rfl⟩
    have hK11 : ∀ (μ : mm_T) (a1 : Int32) (a2 : Int32), K11 μ a1 a2 → jJ p l e ({ frames := 3, cells := 0, slots := 0, locals := 70 }) s m args below meth c D cy z (MQ below (va_Qi Po (mm_Po D cy z) (mm_A z)) args s 0 0 (mm_A z)) 4 μ 11 [(0, .ref (z + mm_ad 6 0)), (1, .int a1), (2, .int a2)] [] := fun μ a1 a2 h9 => hK (μ, a1, a2) (by rw [eK11] at h9; exact h9)
    replace h : pX0_dealSlots_l11 Po E11_68 K11 μ a1 a2 := by rw [eK11]; exact h
    unfold pX0_dealSlots_l11 at h
    refine jr_iload_n (q := 12) C 2 dX0_dealSlots_11 rfl rfl rfl ?_
    refine jr_bipush (q := 14) (v := (16 : Int32)) C dX0_dealSlots_12 (by decide) rfl ?_
    refine jr_icmp_gt (q := 17) (tgt := 68) C dX0_dealSlots_14 (by decide) rfl (fun c9 => ?_) (fun c9 => ?_)
    · replace h := h.1 c9
      refine jr_sub [1] rfl ?_
      exact hE11_68 _ _ h
    · replace h := h.2 c9
      refine jr_iconst (q := 18) (v := (0 : Int32)) C dX0_dealSlots_17 (by decide) rfl ?_
      refine jr_istore_n (q := 19) (lv' := [(3, .int (0 : Int32)), (0, .ref (z + mm_ad 6 0)), (1, .int a1), (2, .int a2)]) C dX0_dealSlots_18 rfl (by decide) rfl rfl ?_
      have l19 : ∀ (E19_61 : mm_T → Int32 → Int32 → Prop) (hE19_61 : ∀ (μ : mm_T) (c1 : Int32) (c2 : Int32), E19_61 μ c1 c2 → jJ p l e ({ frames := 3, cells := 0, slots := 0, locals := 70 }) s m args below meth c D cy z (MQ below (va_Qi Po (mm_Po D cy z) (mm_A z)) args s 0 0 (mm_A z)) 4 μ 61 [(0, .ref (z + mm_ad 6 0)), (1, .int c1), (2, .int c2)] []), ∀ t9 : mm_T × Int32 × Int32 × Int32, lp_ (fun (K9 : mm_T × Int32 × Int32 × Int32 → Prop) (t9 : mm_T × Int32 × Int32 × Int32) => pX0_dealSlots_l19 Po E19_61 (fun μ a1 a2 a3 => K9 (μ, a1, a2, a3)) t9.1 t9.2.1 t9.2.2.1 t9.2.2.2) t9 → jJ p l e ({ frames := 3, cells := 0, slots := 0, locals := 70 }) s m args below meth c D cy z (MQ below (va_Qi Po (mm_Po D cy z) (mm_A z)) args s 0 0 (mm_A z)) 4 t9.1 19 [(0, .ref (z + mm_ad 6 0)), (1, .int t9.2.1), (2, .int t9.2.2.1), (3, .int t9.2.2.2)] [] := by
        intro E19_61 hE19_61 t9 h
        refine lp_go (P := fun t9 : mm_T × Int32 × Int32 × Int32 => jJ p l e ({ frames := 3, cells := 0, slots := 0, locals := 70 }) s m args below meth c D cy z (MQ below (va_Qi Po (mm_Po D cy z) (mm_A z)) args s 0 0 (mm_A z)) 4 t9.1 19 [(0, .ref (z + mm_ad 6 0)), (1, .int t9.2.1), (2, .int t9.2.2.1), (3, .int t9.2.2.2)] []) (fun K9 t9 hK h => ?_) t9 h
        obtain ⟨μ, a1, a2, a3⟩ := t9
        obtain ⟨K19, eK19⟩ : ∃ K : mm_T → Int32 → Int32 → Int32 → Prop, K = (fun μ a1 a2 a3 => K9 (μ, a1, a2, a3)) := ⟨_, rfl⟩
        have hK19 : ∀ (μ : mm_T) (a1 : Int32) (a2 : Int32) (a3 : Int32), K19 μ a1 a2 a3 → jJ p l e ({ frames := 3, cells := 0, slots := 0, locals := 70 }) s m args below meth c D cy z (MQ below (va_Qi Po (mm_Po D cy z) (mm_A z)) args s 0 0 (mm_A z)) 4 μ 19 [(0, .ref (z + mm_ad 6 0)), (1, .int a1), (2, .int a2), (3, .int a3)] [] := fun μ a1 a2 a3 h9 => hK (μ, a1, a2, a3) (by rw [eK19] at h9; exact h9)
        replace h : pX0_dealSlots_l19 Po E19_61 K19 μ a1 a2 a3 := by rw [eK19]; exact h
        unfold pX0_dealSlots_l19 at h
        refine jr_iload_n (q := 20) C 3 dX0_dealSlots_19 rfl rfl rfl ?_
        refine jr_aload_n (q := 21) C 0 dX0_dealSlots_20 rfl rfl rfl ?_
        refine jr_getI (q := 24) (ci := 0) (Cn := RX0) (T := TX0) (N := 11) (j := 1) C mf_6 rfl rfl (by decide) rfl rfl nX0_dealSlots_0 mX0_dealSlots_2 dX0_dealSlots_21 rfl rfl ?_
        refine jr_icmp_ge (q := 27) (tgt := 61) C dX0_dealSlots_24 (by decide) rfl (fun c8 => ?_) (fun c8 => ?_)
        · replace h := h.1 c8
          refine jr_sub [0, 1, 2] rfl ?_
          exact hE19_61 _ _ _ h
        · replace h := h.2 c8
          refine jr_aload_n (q := 28) C 0 dX0_dealSlots_27 rfl rfl rfl ?_
          refine jr_getR (q := 31) (ci := 0) (Cn := RX0) (T := TX0) (N := 11) (j := 0) C mf_6 rfl rfl (by decide) rfl 7 0 rfl rfl rfl nX0_dealSlots_0 mX0_dealSlots_3 dX0_dealSlots_28 rfl rfl ?_
          refine jr_iload_n (q := 32) C 3 dX0_dealSlots_31 rfl rfl rfl ?_
          obtain ⟨g3, h⟩ := h
          refine jr_aald (q := 33) (t := 1) C mf_7 9 (fun _ => rfl) (fun _ _ => rfl) rfl (by decide) g3 dX0_dealSlots_32 rfl ?_
          refine jr_getI (q := 36) (ci := 5) (Cn := RX5) (T := TX5) (N := 8) (j := 6) C (mm_lt g3) rfl rfl (by decide) rfl rfl nX0_dealSlots_5 mX0_dealSlots_5 dX0_dealSlots_33 rfl rfl ?_
          refine jr_iload_n (q := 37) C 2 dX0_dealSlots_36 rfl rfl rfl ?_
          refine jr_icmp_ne (q := 40) (tgt := 55) C dX0_dealSlots_37 (by decide) rfl (fun c7 => ?_) (fun c7 => ?_)
          · replace h := h.1 c7
            refine jr_iinc (q := 58) (lv' := [(3, .int (a3 + (1 : Int32))), (0, .ref (z + mm_ad 6 0)), (1, .int a1), (2, .int a2)]) C 3 dX0_dealSlots_55 rfl (by rfl) (by decide) rfl rfl ?_
            refine jr_goto (tgt := 19) C dX0_dealSlots_58 (by decide) ?_
            refine jr_sub [1, 2, 3, 0] rfl ?_
            exact hK19 _ _ _ _ h
          · replace h := h.2 c7
            refine jr_aload_n (q := 41) C 0 dX0_dealSlots_40 rfl rfl rfl ?_
            refine jr_getR (q := 44) (ci := 0) (Cn := RX0) (T := TX0) (N := 11) (j := 6) C mf_6 rfl rfl (by decide) rfl 17 0 rfl rfl rfl nX0_dealSlots_0 mX0_dealSlots_1 dX0_dealSlots_41 rfl rfl ?_
            refine jr_iload_n (q := 45) C 3 dX0_dealSlots_44 rfl rfl rfl ?_
            refine jr_iload_n (q := 46) C 2 dX0_dealSlots_45 rfl rfl rfl ?_
            refine jr_cvI (q := 49) (As := [.int a3, .int a2]) (rest := []) C (f := 17) (i := 0) (ci := 9) mf_17 rfl rfl rfl (kX9_give l a3 a2) rfl gX0_dealSlots_X9_give rfl dsc_X9_give ⟨rfl, rfl⟩ ⟨by decide, by decide⟩ rfl rfl (Nat.le_of_ble_eq_true rfl) dX0_dealSlots_46 rfl h (fun r5 μ4 h => ?_)
            refine jr_if_eq (q := 52) (tgt := 55) C dX0_dealSlots_49 (by decide) rfl (fun c6 => ?_) (fun c6 => ?_)
            · replace h := h.1 c6
              refine jr_iinc (q := 58) (lv' := [(3, .int (a3 + (1 : Int32))), (0, .ref (z + mm_ad 6 0)), (1, .int a1), (2, .int a2)]) C 3 dX0_dealSlots_55 rfl (by rfl) (by decide) rfl rfl ?_
              refine jr_goto (tgt := 19) C dX0_dealSlots_58 (by decide) ?_
              refine jr_sub [1, 2, 3, 0] rfl ?_
              exact hK19 _ _ _ _ h
            · replace h := h.2 c6
              refine jr_iinc (q := 55) (lv' := [(1, .int (a1 + (1 : Int32))), (0, .ref (z + mm_ad 6 0)), (2, .int a2), (3, .int a3)]) C 1 dX0_dealSlots_52 rfl (by rfl) (by decide) rfl rfl ?_
              refine jr_iinc (q := 58) (lv' := [(3, .int (a3 + (1 : Int32))), (1, .int (a1 + (1 : Int32))), (0, .ref (z + mm_ad 6 0)), (2, .int a2)]) C 3 dX0_dealSlots_55 rfl (by rfl) (by decide) rfl rfl ?_
              refine jr_goto (tgt := 19) C dX0_dealSlots_58 (by decide) ?_
              refine jr_sub [2, 1, 3, 0] rfl ?_
              exact hK19 _ _ _ _ h
      have x19_61 : ∀ (μ : mm_T) (c1 : Int32) (c2 : Int32), (∀ x2 : Int32, x2 = c2 * (2 : Int32) → (K11 μ c1 x2)) → jJ p l e ({ frames := 3, cells := 0, slots := 0, locals := 70 }) s m args below meth c D cy z (MQ below (va_Qi Po (mm_Po D cy z) (mm_A z)) args s 0 0 (mm_A z)) 4 μ 61 [(0, .ref (z + mm_ad 6 0)), (1, .int c1), (2, .int c2)] [] := by
        intro μ c1 c2 h
        refine jr_iload_n (q := 62) C 2 dX0_dealSlots_61 rfl rfl rfl ?_
        refine jr_iconst (q := 63) (v := (2 : Int32)) C dX0_dealSlots_62 (by decide) rfl ?_
        refine jr_imul (q := 64) C dX0_dealSlots_63 rfl ?_
        refine jn_int (fun x2 ex2 => ?_)
        replace h := h x2 ex2
        refine jr_istore_n (q := 65) (lv' := [(2, .int x2), (0, .ref (z + mm_ad 6 0)), (1, .int c1)]) C dX0_dealSlots_64 rfl (by decide) rfl rfl ?_
        refine jr_goto (tgt := 11) C dX0_dealSlots_65 (by decide) ?_
        refine jr_sub [1, 2, 0] rfl ?_
        exact hK11 _ _ _ h
      refine jr_sub [1, 2, 3, 0] rfl ?_
      exact l19 _ x19_61 _ h
  have x11_68 : ∀ (μ : mm_T) (c1 : Int32), (Po c1 μ) → jJ p l e ({ frames := 3, cells := 0, slots := 0, locals := 70 }) s m args below meth c D cy z (MQ below (va_Qi Po (mm_Po D cy z) (mm_A z)) args s 0 0 (mm_A z)) 4 μ 68 [(1, .int c1)] [] := by
    intro μ c1 h
    refine jr_iload_n (q := 69) C 0 dX0_dealSlots_68 rfl rfl rfl ?_
    exact jr_iret C hr hk dX0_dealSlots_69 h
  refine jr_sub [2, 1, 0] rfl ?_
  exact l11 _ x11_68 _ h
theorem nX3_isOf_3 : ∀ w ∈ wsX30, w ∈ wsX3_isOf := fun _ h => List.mem_cons_of_mem _ (List.mem_append_right _ h)
theorem mX3_isOf_1 : Cond.fieldLink RX3 15 RX3 (TX3 1).2.1 (TX3 1).2.2.1 ∈ wsX3_isOf := List.mem_of_getElem? (i := 1) (by decide +kernel)
theorem mX3_isOf_2 : Cond.fieldLink RX3 19 RX3 (TX3 2).2.1 (TX3 2).2.2.1 ∈ wsX3_isOf := List.mem_of_getElem? (i := 2) (by decide +kernel)
theorem dsc_X3_isOf : yX3_isOf.cls ≠ "java/lang/invoke/MethodHandle" ∧ yX3_isOf.cls ≠ "java/lang/invoke/VarHandle" ∧ (parseMethodDescriptor yX3_isOf.desc).map (fun d => d.parameters.length) = some 1 := by decide +kernel
def pX3_isOf (Po : Int32 → mm_T → Prop) (μ : mm_T) (p1 : Int32) : Prop := (p1 = (μ.1 15 0 1) → Po (1 : Int32) μ) ∧ (¬ (p1 = (μ.1 15 0 1)) → (¬ p1 = (μ.1 15 0 2) → Po (0 : Int32) μ) ∧ (p1 = (μ.1 15 0 2) → Po (1 : Int32) μ))
set_option maxHeartbeats 4000000 in
set_option maxRecDepth 100000 in
theorem kX3_isOf (l : Launch) (p1 : Int32) : mm_CI l yX3_isOf wsX3_isOf ({ frames := 0, cells := 0, slots := 0, locals := 0 }) (fun z => [.ref (z + mm_ad 15 0), .int p1]) (fun μ Po => pX3_isOf Po μ p1) := by
  refine je_Z (cc := cX3_isOf) (nL := 2) (own := RX3) (plainFor_of_name (by decide)) rfl rfl (fun _ => Nat.le_of_ble_eq_true rfl) ?_
  intro p e s m args below meth c D cy z μ Po C hr hk h
  change jJ p l e ({ frames := 0, cells := 0, slots := 0, locals := 0 }) s m args below meth c D cy z (MQ below (va_Qi Po (mm_Po D cy z) (mm_A z)) args s 0 0 (mm_A z)) 2 μ 0 [(0, .ref (z + mm_ad 15 0)), (1, .int p1)] []
  replace h : pX3_isOf Po μ p1 := h
  unfold pX3_isOf at h
  refine jr_iload_n (q := 1) C 1 dX3_isOf_0 rfl rfl rfl ?_
  refine jr_aload_n (q := 2) C 0 dX3_isOf_1 rfl rfl rfl ?_
  refine jr_getI (q := 5) (ci := 3) (Cn := RX3) (T := TX3) (N := 9) (j := 1) C mf_15 rfl rfl (by decide) rfl rfl nX3_isOf_3 mX3_isOf_1 dX3_isOf_2 rfl rfl ?_
  refine jr_icmp_eq (q := 8) (tgt := 16) C dX3_isOf_5 (by decide) rfl (fun c2 => ?_) (fun c2 => ?_)
  · replace h := h.1 c2
    refine jr_iconst (q := 17) (v := (1 : Int32)) C dX3_isOf_16 (by decide) rfl ?_
    refine jr_goto (tgt := 21) C dX3_isOf_17 (by decide) ?_
    exact jr_zret C hr hk dX3_isOf_21 (by decide) h
  · replace h := h.2 c2
    refine jr_iload_n (q := 9) C 1 dX3_isOf_8 rfl rfl rfl ?_
    refine jr_aload_n (q := 10) C 0 dX3_isOf_9 rfl rfl rfl ?_
    refine jr_getI (q := 13) (ci := 3) (Cn := RX3) (T := TX3) (N := 9) (j := 2) C mf_15 rfl rfl (by decide) rfl rfl nX3_isOf_3 mX3_isOf_2 dX3_isOf_10 rfl rfl ?_
    refine jr_icmp_ne (q := 16) (tgt := 20) C dX3_isOf_13 (by decide) rfl (fun c1 => ?_) (fun c1 => ?_)
    · replace h := h.1 c1
      refine jr_iconst (q := 21) (v := (0 : Int32)) C dX3_isOf_20 (by decide) rfl ?_
      exact jr_zret C hr hk dX3_isOf_21 (by decide) h
    · replace h := h.2 c1
      refine jr_iconst (q := 17) (v := (1 : Int32)) C dX3_isOf_16 (by decide) rfl ?_
      refine jr_goto (tgt := 21) C dX3_isOf_17 (by decide) ?_
      exact jr_zret C hr hk dX3_isOf_21 (by decide) h
theorem nX3_tell_3 : ∀ w ∈ wsX30, w ∈ wsX3_tell := fun _ h => List.mem_cons_of_mem _ (List.mem_append_right _ h)
theorem mX3_tell_1 : Cond.fieldLink RX3 53 RX3 (TX3 6).2.1 (TX3 6).2.2.1 ∈ wsX3_tell := List.mem_of_getElem? (i := 2) (by decide +kernel)
theorem mX3_tell_2 : Cond.fieldLink RX3 56 RX3 (TX3 7).2.1 (TX3 7).2.2.1 ∈ wsX3_tell := List.mem_of_getElem? (i := 3) (by decide +kernel)
theorem mX3_tell_3 : Cond.fieldLink RX3 59 RX3 (TX3 5).2.1 (TX3 5).2.2.1 ∈ wsX3_tell := List.mem_of_getElem? (i := 4) (by decide +kernel)
theorem mX3_tell_4 : Cond.fieldLink RX3 15 RX3 (TX3 1).2.1 (TX3 1).2.2.1 ∈ wsX3_tell := List.mem_of_getElem? (i := 5) (by decide +kernel)
theorem mX3_tell_5 : Cond.fieldLink RX3 19 RX3 (TX3 2).2.1 (TX3 2).2.2.1 ∈ wsX3_tell := List.mem_of_getElem? (i := 6) (by decide +kernel)
theorem mX3_tell_6 : Cond.constant RX3 62 (-1000002) ∈ wsX3_tell := List.mem_of_getElem? (i := 7) (by decide +kernel)
theorem mX3_tell_7 : Cond.fieldLink RX3 9 RX3 (TX3 8).2.1 (TX3 8).2.2.1 ∈ wsX3_tell := List.mem_of_getElem? (i := 1) (by decide +kernel)
theorem dsc_X3_tell : yX3_tell.cls ≠ "java/lang/invoke/MethodHandle" ∧ yX3_tell.cls ≠ "java/lang/invoke/VarHandle" ∧ (parseMethodDescriptor yX3_tell.desc).map (fun d => d.parameters.length) = some 1 := by decide +kernel
def pX3_tell_b19 (Po : Int32 → mm_T → Prop) (μ : mm_T) (a1 : Int32) : Prop := (a1 = (7 : Int32) → Po (μ.1 15 0 6) μ) ∧ (a1 = (8 : Int32) → Po (μ.1 15 0 7) μ) ∧ (a1 = (9 : Int32) → Po (μ.1 15 0 5) μ) ∧ (a1 = (10 : Int32) → Po (μ.1 15 0 1) μ) ∧ (a1 = (11 : Int32) → Po (μ.1 15 0 2) μ) ∧ (¬ a1 = (7 : Int32) → ¬ a1 = (8 : Int32) → ¬ a1 = (9 : Int32) → ¬ a1 = (10 : Int32) → ¬ a1 = (11 : Int32) → Po (-1000002 : Int32) μ)
def pX3_tell (Po : Int32 → mm_T → Prop) (μ : mm_T) (p1 : Int32) : Prop := (p1 < (1 : Int32) → pX3_tell_b19 Po μ p1) ∧ (¬ (p1 < (1 : Int32)) → ((6 : Int32) < p1 → pX3_tell_b19 Po μ p1) ∧ (¬ ((6 : Int32) < p1) → (vp_in p1 7) ∧ (Po ((μ.2 16 0 p1.toNatClampNeg).toInt32) μ)))
set_option maxHeartbeats 4000000 in
set_option maxRecDepth 100000 in
theorem kX3_tell (l : Launch) (p1 : Int32) : mm_CI l yX3_tell wsX3_tell ({ frames := 0, cells := 0, slots := 0, locals := 0 }) (fun z => [.ref (z + mm_ad 15 0), .int p1]) (fun μ Po => pX3_tell Po μ p1) := by
  refine je_I (cc := cX3_tell) (nL := 2) (own := RX3) (plainFor_of_name (by decide)) rfl rfl (fun _ => Nat.le_of_ble_eq_true rfl) ?_
  intro p e s m args below meth c D cy z μ Po C hr hk h
  change jJ p l e ({ frames := 0, cells := 0, slots := 0, locals := 0 }) s m args below meth c D cy z (MQ below (va_Qi Po (mm_Po D cy z) (mm_A z)) args s 0 0 (mm_A z)) 2 μ 0 [(0, .ref (z + mm_ad 15 0)), (1, .int p1)] []
  replace h : pX3_tell Po μ p1 := h
  unfold pX3_tell at h
  refine jr_iload_n (q := 1) C 1 dX3_tell_0 rfl rfl rfl ?_
  refine jr_iconst (q := 2) (v := (1 : Int32)) C dX3_tell_1 (by decide) rfl ?_
  have b19 : ∀ (μ : mm_T) (a1 : Int32), pX3_tell_b19 Po μ a1 → jJ p l e ({ frames := 0, cells := 0, slots := 0, locals := 0 }) s m args below meth c D cy z (MQ below (va_Qi Po (mm_Po D cy z) (mm_A z)) args s 0 0 (mm_A z)) 2 μ 19 [(0, .ref (z + mm_ad 15 0)), (1, .int a1)] [] := by
    intro μ a1 h
    unfold pX3_tell_b19 at h
    refine jr_iload_n (q := 20) C 1 dX3_tell_19 rfl rfl rfl ?_
    by_cases w7 : a1 = (7 : Int32)
    · replace h := h.1 w7
      refine jr_tabI (tgt := 56) C (7 : Int32) w7 dX3_tell_20 (by decide) (by decide) rfl (by decide) ?_
      refine jr_aload_n (q := 57) C 0 dX3_tell_56 rfl rfl rfl ?_
      refine jr_getI (q := 60) (ci := 3) (Cn := RX3) (T := TX3) (N := 9) (j := 6) C mf_15 rfl rfl (by decide) rfl rfl nX3_tell_3 mX3_tell_1 dX3_tell_57 rfl rfl ?_
      exact jr_iret C hr hk dX3_tell_60 h
    by_cases w8 : a1 = (8 : Int32)
    · replace h := h.2.1 w8
      refine jr_tabI (tgt := 61) C (8 : Int32) w8 dX3_tell_20 (by decide) (by decide) rfl (by decide) ?_
      refine jr_aload_n (q := 62) C 0 dX3_tell_61 rfl rfl rfl ?_
      refine jr_getI (q := 65) (ci := 3) (Cn := RX3) (T := TX3) (N := 9) (j := 7) C mf_15 rfl rfl (by decide) rfl rfl nX3_tell_3 mX3_tell_2 dX3_tell_62 rfl rfl ?_
      exact jr_iret C hr hk dX3_tell_65 h
    by_cases w9 : a1 = (9 : Int32)
    · replace h := h.2.2.1 w9
      refine jr_tabI (tgt := 66) C (9 : Int32) w9 dX3_tell_20 (by decide) (by decide) rfl (by decide) ?_
      refine jr_aload_n (q := 67) C 0 dX3_tell_66 rfl rfl rfl ?_
      refine jr_getI (q := 70) (ci := 3) (Cn := RX3) (T := TX3) (N := 9) (j := 5) C mf_15 rfl rfl (by decide) rfl rfl nX3_tell_3 mX3_tell_3 dX3_tell_67 rfl rfl ?_
      exact jr_iret C hr hk dX3_tell_70 h
    by_cases w10 : a1 = (10 : Int32)
    · replace h := h.2.2.2.1 w10
      refine jr_tabI (tgt := 71) C (10 : Int32) w10 dX3_tell_20 (by decide) (by decide) rfl (by decide) ?_
      refine jr_aload_n (q := 72) C 0 dX3_tell_71 rfl rfl rfl ?_
      refine jr_getI (q := 75) (ci := 3) (Cn := RX3) (T := TX3) (N := 9) (j := 1) C mf_15 rfl rfl (by decide) rfl rfl nX3_tell_3 mX3_tell_4 dX3_tell_72 rfl rfl ?_
      exact jr_iret C hr hk dX3_tell_75 h
    by_cases w11 : a1 = (11 : Int32)
    · replace h := h.2.2.2.2.1 w11
      refine jr_tabI (tgt := 76) C (11 : Int32) w11 dX3_tell_20 (by decide) (by decide) rfl (by decide) ?_
      refine jr_aload_n (q := 77) C 0 dX3_tell_76 rfl rfl rfl ?_
      refine jr_getI (q := 80) (ci := 3) (Cn := RX3) (T := TX3) (N := 9) (j := 2) C mf_15 rfl rfl (by decide) rfl rfl nX3_tell_3 mX3_tell_5 dX3_tell_77 rfl rfl ?_
      exact jr_iret C hr hk dX3_tell_80 h
    replace h := h.2.2.2.2.2 w7 w8 w9 w10 w11
    have vw7 := lv_neT (a := 7) w7 (by decide)
    have vw8 := lv_neT (a := 8) w8 (by decide)
    have vw9 := lv_neT (a := 9) w9 (by decide)
    have vw10 := lv_neT (a := 10) w10 (by decide)
    have vw11 := lv_neT (a := 11) w11 (by decide)
    refine jr_tabO (tgt := 81) C dX3_tell_20 (by omega) (by decide) ?_
    refine jr_ldc (q := 83) (v := (-1000002 : Int32)) C dX3_tell_81 mX3_tell_6 rfl ?_
    exact jr_iret C hr hk dX3_tell_83 h
  refine jr_icmp_lt (q := 5) (tgt := 19) C dX3_tell_2 (by decide) rfl (fun c3 => ?_) (fun c3 => ?_)
  · replace h := h.1 c3
    refine jr_sub [0, 1] rfl ?_
    exact b19 _ _ h
  · replace h := h.2 c3
    refine jr_iload_n (q := 6) C 1 dX3_tell_5 rfl rfl rfl ?_
    refine jr_bipush (q := 8) (v := (6 : Int32)) C dX3_tell_6 (by decide) rfl ?_
    refine jr_icmp_gt (q := 11) (tgt := 19) C dX3_tell_8 (by decide) rfl (fun c2 => ?_) (fun c2 => ?_)
    · replace h := h.1 c2
      refine jr_sub [0, 1] rfl ?_
      exact b19 _ _ h
    · replace h := h.2 c2
      refine jr_aload_n (q := 12) C 0 dX3_tell_11 rfl rfl rfl ?_
      refine jr_getR (q := 15) (ci := 3) (Cn := RX3) (T := TX3) (N := 9) (j := 8) C mf_15 rfl rfl (by decide) rfl 16 0 rfl rfl rfl nX3_tell_3 mX3_tell_7 dX3_tell_12 rfl rfl ?_
      refine jr_iload_n (q := 16) C 1 dX3_tell_15 rfl rfl rfl ?_
      obtain ⟨g1, h⟩ := h
      refine jr_lald (q := 17) C mf_16 rfl g1 dX3_tell_16 rfl ?_
      refine jr_l2i (q := 18) C dX3_tell_17 rfl ?_
      exact jr_iret C hr hk dX3_tell_18 h
theorem nX5_tell_5 : ∀ w ∈ wsX50, w ∈ wsX5_tell := fun _ h => List.mem_cons_of_mem _ (List.mem_append_right _ h)
theorem mX5_tell_1 : Cond.fieldLink RX5 9 RX5 (TX5 0).2.1 (TX5 0).2.2.1 ∈ wsX5_tell := List.mem_of_getElem? (i := 1) (by decide +kernel)
theorem mX5_tell_2 : Cond.fieldLink RX5 15 RX5 (TX5 1).2.1 (TX5 1).2.2.1 ∈ wsX5_tell := List.mem_of_getElem? (i := 2) (by decide +kernel)
theorem mX5_tell_3 : Cond.fieldLink RX5 19 RX5 (TX5 2).2.1 (TX5 2).2.2.1 ∈ wsX5_tell := List.mem_of_getElem? (i := 3) (by decide +kernel)
theorem mX5_tell_4 : Cond.fieldLink RX5 22 RX5 (TX5 3).2.1 (TX5 3).2.2.1 ∈ wsX5_tell := List.mem_of_getElem? (i := 4) (by decide +kernel)
theorem mX5_tell_5 : Cond.fieldLink RX5 25 RX5 (TX5 4).2.1 (TX5 4).2.2.1 ∈ wsX5_tell := List.mem_of_getElem? (i := 5) (by decide +kernel)
theorem mX5_tell_6 : Cond.fieldLink RX5 28 RX5 (TX5 5).2.1 (TX5 5).2.2.1 ∈ wsX5_tell := List.mem_of_getElem? (i := 6) (by decide +kernel)
theorem mX5_tell_7 : Cond.fieldLink RX5 31 RX5 (TX5 6).2.1 (TX5 6).2.2.1 ∈ wsX5_tell := List.mem_of_getElem? (i := 7) (by decide +kernel)
theorem mX5_tell_8 : Cond.fieldLink RX5 46 RX5 (TX5 7).2.1 (TX5 7).2.2.1 ∈ wsX5_tell := List.mem_of_getElem? (i := 8) (by decide +kernel)
theorem mX5_tell_9 : Cond.constant RX5 49 (-1000002) ∈ wsX5_tell := List.mem_of_getElem? (i := 9) (by decide +kernel)
theorem dsc_X5_tell : yX5_tell.cls ≠ "java/lang/invoke/MethodHandle" ∧ yX5_tell.cls ≠ "java/lang/invoke/VarHandle" ∧ (parseMethodDescriptor yX5_tell.desc).map (fun d => d.parameters.length) = some 2 := by decide +kernel
def pX5_tell (Po : Int32 → mm_T → Prop) (μ : mm_T) (i0 : Nat) (p1 : Int32) (p2 : Int64) : Prop := i0 < 7 ∧ ((p1 = (0 : Int32) → ((μ.1 9 i0 0) = 0 → Po (0 : Int32) μ) ∧ (¬ ((μ.1 9 i0 0) = 0) → Po (1 : Int32) μ)) ∧ (p1 = (1 : Int32) → Po (μ.1 9 i0 1) μ) ∧ (p1 = (2 : Int32) → Po (μ.1 9 i0 2) μ) ∧ (p1 = (3 : Int32) → Po (μ.1 9 i0 3) μ) ∧ (p1 = (4 : Int32) → Po (μ.1 9 i0 4) μ) ∧ (p1 = (5 : Int32) → Po (μ.1 9 i0 5) μ) ∧ (p1 = (6 : Int32) → pX5_clockAt (fun r3 μ2 => Po r3.toInt32 μ2) μ i0 p2) ∧ (p1 = (7 : Int32) → Po (μ.1 9 i0 6) μ) ∧ (p1 = (8 : Int32) → Po (μ.1 9 i0 7) μ) ∧ (¬ p1 = (0 : Int32) → ¬ p1 = (1 : Int32) → ¬ p1 = (2 : Int32) → ¬ p1 = (3 : Int32) → ¬ p1 = (4 : Int32) → ¬ p1 = (5 : Int32) → ¬ p1 = (6 : Int32) → ¬ p1 = (7 : Int32) → ¬ p1 = (8 : Int32) → Po (-1000002 : Int32) μ))
set_option maxHeartbeats 4000000 in
set_option maxRecDepth 100000 in
theorem kX5_tell (l : Launch) (i0 : Nat) (p1 : Int32) (p2 : Int64) : mm_CI l yX5_tell wsX5_tell ({ frames := 2, cells := 0, slots := 0, locals := 47 }) (fun z => [.ref (z + mm_ad 9 i0), .int p1, .long p2]) (fun μ Po => pX5_tell Po μ i0 p1 p2) := by
  refine je_I (cc := cX5_tell) (nL := 4) (own := RX5) (plainFor_of_name (by decide)) rfl rfl (fun _ => Nat.le_of_ble_eq_true rfl) ?_
  intro p e s m args below meth c D cy z μ Po C hr hk h
  change jJ p l e ({ frames := 2, cells := 0, slots := 0, locals := 47 }) s m args below meth c D cy z (MQ below (va_Qi Po (mm_Po D cy z) (mm_A z)) args s 0 0 (mm_A z)) 4 μ 0 [(0, .ref (z + mm_ad 9 i0)), (1, .int p1), (2, .long p2)] []
  replace h : pX5_tell Po μ i0 p1 p2 := h
  unfold pX5_tell at h
  obtain ⟨hi_i0, h⟩ := h
  refine jr_iload_n (q := 1) C 1 dX5_tell_0 rfl rfl rfl ?_
  by_cases w0 : p1 = (0 : Int32)
  · replace h := h.1 w0
    refine jr_tabI (tgt := 52) C (0 : Int32) w0 dX5_tell_1 (by decide) (by decide) rfl (by decide) ?_
    refine jr_aload_n (q := 53) C 0 dX5_tell_52 rfl rfl rfl ?_
    refine jr_getI (q := 56) (ci := 5) (Cn := RX5) (T := TX5) (N := 8) (j := 0) C hi_i0 rfl rfl (by decide) rfl rfl nX5_tell_5 mX5_tell_1 dX5_tell_53 rfl rfl ?_
    refine jr_if_eq (q := 59) (tgt := 63) C dX5_tell_56 (by decide) rfl (fun c1 => ?_) (fun c1 => ?_)
    · replace h := h.1 c1
      refine jr_iconst (q := 64) (v := (0 : Int32)) C dX5_tell_63 (by decide) rfl ?_
      exact jr_iret C hr hk dX5_tell_64 h
    · replace h := h.2 c1
      refine jr_iconst (q := 60) (v := (1 : Int32)) C dX5_tell_59 (by decide) rfl ?_
      refine jr_goto (tgt := 64) C dX5_tell_60 (by decide) ?_
      exact jr_iret C hr hk dX5_tell_64 h
  by_cases w1 : p1 = (1 : Int32)
  · replace h := h.2.1 w1
    refine jr_tabI (tgt := 65) C (1 : Int32) w1 dX5_tell_1 (by decide) (by decide) rfl (by decide) ?_
    refine jr_aload_n (q := 66) C 0 dX5_tell_65 rfl rfl rfl ?_
    refine jr_getI (q := 69) (ci := 5) (Cn := RX5) (T := TX5) (N := 8) (j := 1) C hi_i0 rfl rfl (by decide) rfl rfl nX5_tell_5 mX5_tell_2 dX5_tell_66 rfl rfl ?_
    exact jr_iret C hr hk dX5_tell_69 h
  by_cases w2 : p1 = (2 : Int32)
  · replace h := h.2.2.1 w2
    refine jr_tabI (tgt := 70) C (2 : Int32) w2 dX5_tell_1 (by decide) (by decide) rfl (by decide) ?_
    refine jr_aload_n (q := 71) C 0 dX5_tell_70 rfl rfl rfl ?_
    refine jr_getI (q := 74) (ci := 5) (Cn := RX5) (T := TX5) (N := 8) (j := 2) C hi_i0 rfl rfl (by decide) rfl rfl nX5_tell_5 mX5_tell_3 dX5_tell_71 rfl rfl ?_
    exact jr_iret C hr hk dX5_tell_74 h
  by_cases w3 : p1 = (3 : Int32)
  · replace h := h.2.2.2.1 w3
    refine jr_tabI (tgt := 75) C (3 : Int32) w3 dX5_tell_1 (by decide) (by decide) rfl (by decide) ?_
    refine jr_aload_n (q := 76) C 0 dX5_tell_75 rfl rfl rfl ?_
    refine jr_getI (q := 79) (ci := 5) (Cn := RX5) (T := TX5) (N := 8) (j := 3) C hi_i0 rfl rfl (by decide) rfl rfl nX5_tell_5 mX5_tell_4 dX5_tell_76 rfl rfl ?_
    exact jr_iret C hr hk dX5_tell_79 h
  by_cases w4 : p1 = (4 : Int32)
  · replace h := h.2.2.2.2.1 w4
    refine jr_tabI (tgt := 80) C (4 : Int32) w4 dX5_tell_1 (by decide) (by decide) rfl (by decide) ?_
    refine jr_aload_n (q := 81) C 0 dX5_tell_80 rfl rfl rfl ?_
    refine jr_getI (q := 84) (ci := 5) (Cn := RX5) (T := TX5) (N := 8) (j := 4) C hi_i0 rfl rfl (by decide) rfl rfl nX5_tell_5 mX5_tell_5 dX5_tell_81 rfl rfl ?_
    exact jr_iret C hr hk dX5_tell_84 h
  by_cases w5 : p1 = (5 : Int32)
  · replace h := h.2.2.2.2.2.1 w5
    refine jr_tabI (tgt := 85) C (5 : Int32) w5 dX5_tell_1 (by decide) (by decide) rfl (by decide) ?_
    refine jr_aload_n (q := 86) C 0 dX5_tell_85 rfl rfl rfl ?_
    refine jr_getI (q := 89) (ci := 5) (Cn := RX5) (T := TX5) (N := 8) (j := 5) C hi_i0 rfl rfl (by decide) rfl rfl nX5_tell_5 mX5_tell_6 dX5_tell_86 rfl rfl ?_
    exact jr_iret C hr hk dX5_tell_89 h
  by_cases w6 : p1 = (6 : Int32)
  · replace h := h.2.2.2.2.2.2.1 w6
    refine jr_tabI (tgt := 90) C (6 : Int32) w6 dX5_tell_1 (by decide) (by decide) rfl (by decide) ?_
    refine jr_aload_n (q := 91) C 0 dX5_tell_90 rfl rfl rfl ?_
    refine jr_lload_n (q := 92) C 2 dX5_tell_91 rfl rfl rfl ?_
    refine jr_cvL (q := 95) (As := [.long p2]) (rest := []) C (f := 9) (i := i0) (ci := 5) hi_i0 rfl rfl rfl (kX5_clockAt l i0 p2) rfl gX5_tell_X5_clockAt rfl dsc_X5_clockAt ⟨rfl, rfl⟩ ⟨by decide, by decide⟩ rfl rfl (Nat.le_of_ble_eq_true rfl) dX5_tell_92 rfl h (fun r3 μ2 h => ?_)
    refine jr_l2i (q := 96) C dX5_tell_95 rfl ?_
    exact jr_iret C hr hk dX5_tell_96 h
  by_cases w7 : p1 = (7 : Int32)
  · replace h := h.2.2.2.2.2.2.2.1 w7
    refine jr_tabI (tgt := 97) C (7 : Int32) w7 dX5_tell_1 (by decide) (by decide) rfl (by decide) ?_
    refine jr_aload_n (q := 98) C 0 dX5_tell_97 rfl rfl rfl ?_
    refine jr_getI (q := 101) (ci := 5) (Cn := RX5) (T := TX5) (N := 8) (j := 6) C hi_i0 rfl rfl (by decide) rfl rfl nX5_tell_5 mX5_tell_7 dX5_tell_98 rfl rfl ?_
    exact jr_iret C hr hk dX5_tell_101 h
  by_cases w8 : p1 = (8 : Int32)
  · replace h := h.2.2.2.2.2.2.2.2.1 w8
    refine jr_tabI (tgt := 102) C (8 : Int32) w8 dX5_tell_1 (by decide) (by decide) rfl (by decide) ?_
    refine jr_aload_n (q := 103) C 0 dX5_tell_102 rfl rfl rfl ?_
    refine jr_getI (q := 106) (ci := 5) (Cn := RX5) (T := TX5) (N := 8) (j := 7) C hi_i0 rfl rfl (by decide) rfl rfl nX5_tell_5 mX5_tell_8 dX5_tell_103 rfl rfl ?_
    exact jr_iret C hr hk dX5_tell_106 h
  replace h := h.2.2.2.2.2.2.2.2.2 w0 w1 w2 w3 w4 w5 w6 w7 w8
  have vw0 := lv_neT (a := 0) w0 (by decide)
  have vw1 := lv_neT (a := 1) w1 (by decide)
  have vw2 := lv_neT (a := 2) w2 (by decide)
  have vw3 := lv_neT (a := 3) w3 (by decide)
  have vw4 := lv_neT (a := 4) w4 (by decide)
  have vw5 := lv_neT (a := 5) w5 (by decide)
  have vw6 := lv_neT (a := 6) w6 (by decide)
  have vw7 := lv_neT (a := 7) w7 (by decide)
  have vw8 := lv_neT (a := 8) w8 (by decide)
  refine jr_tabO (tgt := 107) C dX5_tell_1 (by omega) (by decide) ?_
  refine jr_ldc (q := 109) (v := (-1000002 : Int32)) C dX5_tell_107 mX5_tell_9 rfl ?_
  exact jr_iret C hr hk dX5_tell_109 h
theorem nX6_add_6 : ∀ w ∈ wsX60, w ∈ wsX6_add := fun _ h => List.mem_cons_of_mem _ (List.mem_append_right _ h)
theorem mX6_add_1 : Cond.fieldLink RX6 15 RX6 (TX6 1).2.1 (TX6 1).2.2.1 ∈ wsX6_add := List.mem_of_getElem? (i := 1) (by decide +kernel)
theorem mX6_add_2 : Cond.fieldLink RX6 9 RX6 (TX6 0).2.1 (TX6 0).2.2.1 ∈ wsX6_add := List.mem_of_getElem? (i := 2) (by decide +kernel)
theorem dsc_X6_add : yX6_add.cls ≠ "java/lang/invoke/MethodHandle" ∧ yX6_add.cls ≠ "java/lang/invoke/VarHandle" ∧ (parseMethodDescriptor yX6_add.desc).map (fun d => d.parameters.length) = some 1 := by decide +kernel
def pX6_add (Po : mm_T → Prop) (μ : mm_T) (p1 : Int32) : Prop := ((110 : Int32) ≤ (μ.1 1 0 1) → Po μ) ∧ (¬ ((110 : Int32) ≤ (μ.1 1 0 1)) → (vp_in (μ.1 1 0 1) 110) ∧ (∀ μ2 : mm_T, μ2 = mm_I μ 2 0 (μ.1 1 0 1).toNatClampNeg p1 → (∀ μ3 : mm_T, μ3 = mm_I μ2 1 0 1 ((μ2.1 1 0 1) + (1 : Int32)) → (Po μ3))))
set_option maxHeartbeats 4000000 in
set_option maxRecDepth 100000 in
theorem kX6_add (l : Launch) (p1 : Int32) : mm_CV l yX6_add wsX6_add ({ frames := 0, cells := 0, slots := 0, locals := 0 }) (fun z => [.ref (z + mm_ad 1 0), .int p1]) (fun μ Po => pX6_add Po μ p1) := by
  refine je_V (cc := cX6_add) (nL := 2) (own := RX6) (plainFor_of_name (by decide)) rfl rfl (fun _ => Nat.le_of_ble_eq_true rfl) ?_
  intro p e s m args below meth c D cy z μ Po C hr hk h
  change jJ p l e ({ frames := 0, cells := 0, slots := 0, locals := 0 }) s m args below meth c D cy z (MQ below (va_Qv Po (mm_Po D cy z) (mm_A z)) args s 0 0 (mm_A z)) 2 μ 0 [(0, .ref (z + mm_ad 1 0)), (1, .int p1)] []
  replace h : pX6_add Po μ p1 := h
  unfold pX6_add at h
  refine jr_aload_n (q := 1) C 0 dX6_add_0 rfl rfl rfl ?_
  refine jr_getI (q := 4) (ci := 6) (Cn := RX6) (T := TX6) (N := 2) (j := 1) C mf_1 rfl rfl (by decide) rfl rfl nX6_add_6 mX6_add_1 dX6_add_1 rfl rfl ?_
  refine jr_bipush (q := 6) (v := (110 : Int32)) C dX6_add_4 (by decide) rfl ?_
  refine jr_icmp_ge (q := 9) (tgt := 29) C dX6_add_6 (by decide) rfl (fun c4 => ?_) (fun c4 => ?_)
  · replace h := h.1 c4
    exact jr_vret C hr hk dX6_add_29 h
  · replace h := h.2 c4
    refine jr_aload_n (q := 10) C 0 dX6_add_9 rfl rfl rfl ?_
    refine jr_getR (q := 13) (ci := 6) (Cn := RX6) (T := TX6) (N := 2) (j := 0) C mf_1 rfl rfl (by decide) rfl 2 0 rfl rfl rfl nX6_add_6 mX6_add_2 dX6_add_10 rfl rfl ?_
    refine jr_aload_n (q := 14) C 0 dX6_add_13 rfl rfl rfl ?_
    refine jr_getI (q := 17) (ci := 6) (Cn := RX6) (T := TX6) (N := 2) (j := 1) C mf_1 rfl rfl (by decide) rfl rfl nX6_add_6 mX6_add_1 dX6_add_14 rfl rfl ?_
    refine jr_iload_n (q := 18) C 1 dX6_add_17 rfl rfl rfl ?_
    obtain ⟨g1, h⟩ := h
    refine jr_iast (q := 19) C mf_2 rfl g1 dX6_add_18 rfl ?_
    refine jn_mem (fun μ2 eμ2 => ?_)
    replace h := h μ2 eμ2
    refine jr_aload_n (q := 20) C 0 dX6_add_19 rfl rfl rfl ?_
    refine jr_dup (q := 21) C dX6_add_20 rfl rfl ?_
    refine jr_getI (q := 24) (ci := 6) (Cn := RX6) (T := TX6) (N := 2) (j := 1) C mf_1 rfl rfl (by decide) rfl rfl nX6_add_6 mX6_add_1 dX6_add_21 rfl rfl ?_
    refine jr_iconst (q := 25) (v := (1 : Int32)) C dX6_add_24 (by decide) rfl ?_
    refine jr_iadd (q := 26) C dX6_add_25 rfl ?_
    refine jr_putI (q := 29) (ci := 6) (Cn := RX6) (T := TX6) (N := 2) (j := 1) C mf_1 rfl rfl (by decide) rfl rfl tyX6 tyX6_ok nmX6 rfl (by decide +kernel) nX6_add_6 mX6_add_1 dX6_add_26 rfl rfl ?_
    refine jn_mem (fun μ3 eμ3 => ?_)
    replace h := h μ3 eμ3
    exact jr_vret C hr hk dX6_add_29 h
theorem nX6_clear_6 : ∀ w ∈ wsX60, w ∈ wsX6_clear := fun _ h => List.mem_cons_of_mem _ (List.mem_append_right _ h)
theorem mX6_clear_1 : Cond.fieldLink RX6 15 RX6 (TX6 1).2.1 (TX6 1).2.2.1 ∈ wsX6_clear := List.mem_of_getElem? (i := 1) (by decide +kernel)
theorem dsc_X6_clear : yX6_clear.cls ≠ "java/lang/invoke/MethodHandle" ∧ yX6_clear.cls ≠ "java/lang/invoke/VarHandle" ∧ (parseMethodDescriptor yX6_clear.desc).map (fun d => d.parameters.length) = some 0 := by decide +kernel
def pX6_clear (Po : mm_T → Prop) (μ : mm_T) : Prop := ∀ μ1 : mm_T, μ1 = mm_I μ 1 0 1 (0 : Int32) → (Po μ1)
set_option maxHeartbeats 4000000 in
set_option maxRecDepth 100000 in
theorem kX6_clear (l : Launch) : mm_CV l yX6_clear wsX6_clear ({ frames := 0, cells := 0, slots := 0, locals := 0 }) (fun z => [.ref (z + mm_ad 1 0)]) (fun μ Po => pX6_clear Po μ) := by
  refine je_V (cc := cX6_clear) (nL := 1) (own := RX6) (plainFor_of_name (by decide)) rfl rfl (fun _ => Nat.le_of_ble_eq_true rfl) ?_
  intro p e s m args below meth c D cy z μ Po C hr hk h
  change jJ p l e ({ frames := 0, cells := 0, slots := 0, locals := 0 }) s m args below meth c D cy z (MQ below (va_Qv Po (mm_Po D cy z) (mm_A z)) args s 0 0 (mm_A z)) 1 μ 0 [(0, .ref (z + mm_ad 1 0))] []
  replace h : pX6_clear Po μ := h
  unfold pX6_clear at h
  refine jr_aload_n (q := 1) C 0 dX6_clear_0 rfl rfl rfl ?_
  refine jr_iconst (q := 2) (v := (0 : Int32)) C dX6_clear_1 (by decide) rfl ?_
  refine jr_putI (q := 5) (ci := 6) (Cn := RX6) (T := TX6) (N := 2) (j := 1) C mf_1 rfl rfl (by decide) rfl rfl tyX6 tyX6_ok nmX6 rfl (by decide +kernel) nX6_clear_6 mX6_clear_1 dX6_clear_2 rfl rfl ?_
  refine jn_mem (fun μ1 eμ1 => ?_)
  replace h := h μ1 eμ1
  exact jr_vret C hr hk dX6_clear_5 h
theorem nX7_tell_7 : ∀ w ∈ wsX70, w ∈ wsX7_tell := fun _ h => List.mem_cons_of_mem _ (List.mem_append_right _ h)
theorem mX7_tell_1 : Cond.fieldLink RX7 9 RX7 (TX7 1).2.1 (TX7 1).2.2.1 ∈ wsX7_tell := List.mem_of_getElem? (i := 1) (by decide +kernel)
theorem mX7_tell_2 : Cond.fieldLink RX7 15 RX7 (TX7 2).2.1 (TX7 2).2.2.1 ∈ wsX7_tell := List.mem_of_getElem? (i := 2) (by decide +kernel)
theorem mX7_tell_3 : Cond.fieldLink RX7 18 RX7 (TX7 3).2.1 (TX7 3).2.2.1 ∈ wsX7_tell := List.mem_of_getElem? (i := 3) (by decide +kernel)
theorem mX7_tell_4 : Cond.fieldLink RX7 21 RX7 (TX7 4).2.1 (TX7 4).2.2.1 ∈ wsX7_tell := List.mem_of_getElem? (i := 4) (by decide +kernel)
theorem mX7_tell_5 : Cond.fieldLink RX7 24 RX7 (TX7 5).2.1 (TX7 5).2.2.1 ∈ wsX7_tell := List.mem_of_getElem? (i := 5) (by decide +kernel)
theorem mX7_tell_6 : Cond.constant RX7 27 (-1000002) ∈ wsX7_tell := List.mem_of_getElem? (i := 6) (by decide +kernel)
theorem dsc_X7_tell : yX7_tell.cls ≠ "java/lang/invoke/MethodHandle" ∧ yX7_tell.cls ≠ "java/lang/invoke/VarHandle" ∧ (parseMethodDescriptor yX7_tell.desc).map (fun d => d.parameters.length) = some 1 := by decide +kernel
def pX7_tell (Po : Int32 → mm_T → Prop) (μ : mm_T) (i0 : Nat) (p1 : Int32) : Prop := i0 < 7 ∧ ((p1 = (0 : Int32) → Po (μ.1 10 i0 1) μ) ∧ (p1 = (1 : Int32) → Po (μ.1 10 i0 2) μ) ∧ (p1 = (2 : Int32) → Po (μ.1 10 i0 3) μ) ∧ (p1 = (3 : Int32) → Po (μ.1 10 i0 4) μ) ∧ (p1 = (4 : Int32) → Po (μ.1 10 i0 5) μ) ∧ (¬ p1 = (0 : Int32) → ¬ p1 = (1 : Int32) → ¬ p1 = (2 : Int32) → ¬ p1 = (3 : Int32) → ¬ p1 = (4 : Int32) → Po (-1000002 : Int32) μ))
set_option maxHeartbeats 4000000 in
set_option maxRecDepth 100000 in
theorem kX7_tell (l : Launch) (i0 : Nat) (p1 : Int32) : mm_CI l yX7_tell wsX7_tell ({ frames := 0, cells := 0, slots := 0, locals := 0 }) (fun z => [.ref (z + mm_ad 10 i0), .int p1]) (fun μ Po => pX7_tell Po μ i0 p1) := by
  refine je_I (cc := cX7_tell) (nL := 2) (own := RX7) (plainFor_of_name (by decide)) rfl rfl (fun _ => Nat.le_of_ble_eq_true rfl) ?_
  intro p e s m args below meth c D cy z μ Po C hr hk h
  change jJ p l e ({ frames := 0, cells := 0, slots := 0, locals := 0 }) s m args below meth c D cy z (MQ below (va_Qi Po (mm_Po D cy z) (mm_A z)) args s 0 0 (mm_A z)) 2 μ 0 [(0, .ref (z + mm_ad 10 i0)), (1, .int p1)] []
  replace h : pX7_tell Po μ i0 p1 := h
  unfold pX7_tell at h
  obtain ⟨hi_i0, h⟩ := h
  refine jr_iload_n (q := 1) C 1 dX7_tell_0 rfl rfl rfl ?_
  by_cases w0 : p1 = (0 : Int32)
  · replace h := h.1 w0
    refine jr_tabI (tgt := 36) C (0 : Int32) w0 dX7_tell_1 (by decide) (by decide) rfl (by decide) ?_
    refine jr_aload_n (q := 37) C 0 dX7_tell_36 rfl rfl rfl ?_
    refine jr_getI (q := 40) (ci := 7) (Cn := RX7) (T := TX7) (N := 6) (j := 1) C hi_i0 rfl rfl (by decide) rfl rfl nX7_tell_7 mX7_tell_1 dX7_tell_37 rfl rfl ?_
    exact jr_iret C hr hk dX7_tell_40 h
  by_cases w1 : p1 = (1 : Int32)
  · replace h := h.2.1 w1
    refine jr_tabI (tgt := 41) C (1 : Int32) w1 dX7_tell_1 (by decide) (by decide) rfl (by decide) ?_
    refine jr_aload_n (q := 42) C 0 dX7_tell_41 rfl rfl rfl ?_
    refine jr_getI (q := 45) (ci := 7) (Cn := RX7) (T := TX7) (N := 6) (j := 2) C hi_i0 rfl rfl (by decide) rfl rfl nX7_tell_7 mX7_tell_2 dX7_tell_42 rfl rfl ?_
    exact jr_iret C hr hk dX7_tell_45 h
  by_cases w2 : p1 = (2 : Int32)
  · replace h := h.2.2.1 w2
    refine jr_tabI (tgt := 46) C (2 : Int32) w2 dX7_tell_1 (by decide) (by decide) rfl (by decide) ?_
    refine jr_aload_n (q := 47) C 0 dX7_tell_46 rfl rfl rfl ?_
    refine jr_getI (q := 50) (ci := 7) (Cn := RX7) (T := TX7) (N := 6) (j := 3) C hi_i0 rfl rfl (by decide) rfl rfl nX7_tell_7 mX7_tell_3 dX7_tell_47 rfl rfl ?_
    exact jr_iret C hr hk dX7_tell_50 h
  by_cases w3 : p1 = (3 : Int32)
  · replace h := h.2.2.2.1 w3
    refine jr_tabI (tgt := 51) C (3 : Int32) w3 dX7_tell_1 (by decide) (by decide) rfl (by decide) ?_
    refine jr_aload_n (q := 52) C 0 dX7_tell_51 rfl rfl rfl ?_
    refine jr_getI (q := 55) (ci := 7) (Cn := RX7) (T := TX7) (N := 6) (j := 4) C hi_i0 rfl rfl (by decide) rfl rfl nX7_tell_7 mX7_tell_4 dX7_tell_52 rfl rfl ?_
    exact jr_iret C hr hk dX7_tell_55 h
  by_cases w4 : p1 = (4 : Int32)
  · replace h := h.2.2.2.2.1 w4
    refine jr_tabI (tgt := 56) C (4 : Int32) w4 dX7_tell_1 (by decide) (by decide) rfl (by decide) ?_
    refine jr_aload_n (q := 57) C 0 dX7_tell_56 rfl rfl rfl ?_
    refine jr_getI (q := 60) (ci := 7) (Cn := RX7) (T := TX7) (N := 6) (j := 5) C hi_i0 rfl rfl (by decide) rfl rfl nX7_tell_7 mX7_tell_5 dX7_tell_57 rfl rfl ?_
    exact jr_iret C hr hk dX7_tell_60 h
  replace h := h.2.2.2.2.2 w0 w1 w2 w3 w4
  have vw0 := lv_neT (a := 0) w0 (by decide)
  have vw1 := lv_neT (a := 1) w1 (by decide)
  have vw2 := lv_neT (a := 2) w2 (by decide)
  have vw3 := lv_neT (a := 3) w3 (by decide)
  have vw4 := lv_neT (a := 4) w4 (by decide)
  refine jr_tabO (tgt := 61) C dX7_tell_1 (by omega) (by decide) ?_
  refine jr_ldc (q := 63) (v := (-1000002 : Int32)) C dX7_tell_61 mX7_tell_6 rfl ?_
  exact jr_iret C hr hk dX7_tell_63 h
theorem nX8_begin_8 : ∀ w ∈ wsX80, w ∈ wsX8_begin := fun _ h => List.mem_cons_of_mem _ (List.mem_append_right _ h)
theorem mX8_begin_1 : Cond.fieldLink RX8 40 RX8 (TX8 3).2.1 (TX8 3).2.2.1 ∈ wsX8_begin := List.mem_of_getElem? (i := 1) (by decide +kernel)
theorem mX8_begin_2 : Cond.fieldLink RX8 43 RX8 (TX8 4).2.1 (TX8 4).2.2.1 ∈ wsX8_begin := List.mem_of_getElem? (i := 2) (by decide +kernel)
theorem mX8_begin_3 : Cond.fieldLink RX8 11 RX8 (TX8 0).2.1 (TX8 0).2.2.1 ∈ wsX8_begin := List.mem_of_getElem? (i := 3) (by decide +kernel)
theorem mX8_begin_4 : Cond.fieldLink RX8 16 RX8 (TX8 1).2.1 (TX8 1).2.2.1 ∈ wsX8_begin := List.mem_of_getElem? (i := 4) (by decide +kernel)
theorem dsc_X8_begin : yX8_begin.cls ≠ "java/lang/invoke/MethodHandle" ∧ yX8_begin.cls ≠ "java/lang/invoke/VarHandle" ∧ (parseMethodDescriptor yX8_begin.desc).map (fun d => d.parameters.length) = some 1 := by decide +kernel
def pX8_begin (Po : mm_T → Prop) (μ : mm_T) (p1 : Int32) : Prop := ∀ μ1 : mm_T, μ1 = mm_I μ 3 0 3 p1 → (∀ μ2 : mm_T, μ2 = mm_I μ1 3 0 4 (0 : Int32) → ((vp_in (μ2.1 3 0 1) 7) ∧ ((vp_in p1 5) ∧ (∀ μ5 : mm_T, μ5 = mm_I μ2 5 ((μ2.1 3 0 1).toNatClampNeg) p1.toNatClampNeg (0 : Int32) → (Po μ5)))))
set_option maxHeartbeats 4000000 in
set_option maxRecDepth 100000 in
theorem kX8_begin (l : Launch) (p1 : Int32) : mm_CV l yX8_begin wsX8_begin ({ frames := 0, cells := 0, slots := 0, locals := 0 }) (fun z => [.ref (z + mm_ad 3 0), .int p1]) (fun μ Po => pX8_begin Po μ p1) := by
  refine je_V (cc := cX8_begin) (nL := 2) (own := RX8) (plainFor_of_name (by decide)) rfl rfl (fun _ => Nat.le_of_ble_eq_true rfl) ?_
  intro p e s m args below meth c D cy z μ Po C hr hk h
  change jJ p l e ({ frames := 0, cells := 0, slots := 0, locals := 0 }) s m args below meth c D cy z (MQ below (va_Qv Po (mm_Po D cy z) (mm_A z)) args s 0 0 (mm_A z)) 2 μ 0 [(0, .ref (z + mm_ad 3 0)), (1, .int p1)] []
  replace h : pX8_begin Po μ p1 := h
  unfold pX8_begin at h
  refine jr_aload_n (q := 1) C 0 dX8_begin_0 rfl rfl rfl ?_
  refine jr_iload_n (q := 2) C 1 dX8_begin_1 rfl rfl rfl ?_
  refine jr_putI (q := 5) (ci := 8) (Cn := RX8) (T := TX8) (N := 6) (j := 3) C mf_3 rfl rfl (by decide) rfl rfl tyX8 tyX8_ok nmX8 rfl (by decide +kernel) nX8_begin_8 mX8_begin_1 dX8_begin_2 rfl rfl ?_
  refine jn_mem (fun μ1 eμ1 => ?_)
  replace h := h μ1 eμ1
  refine jr_aload_n (q := 6) C 0 dX8_begin_5 rfl rfl rfl ?_
  refine jr_iconst (q := 7) (v := (0 : Int32)) C dX8_begin_6 (by decide) rfl ?_
  refine jr_putI (q := 10) (ci := 8) (Cn := RX8) (T := TX8) (N := 6) (j := 4) C mf_3 rfl rfl (by decide) rfl rfl tyX8 tyX8_ok nmX8 rfl (by decide +kernel) nX8_begin_8 mX8_begin_2 dX8_begin_7 rfl rfl ?_
  refine jn_mem (fun μ2 eμ2 => ?_)
  replace h := h μ2 eμ2
  refine jr_aload_n (q := 11) C 0 dX8_begin_10 rfl rfl rfl ?_
  refine jr_getR (q := 14) (ci := 8) (Cn := RX8) (T := TX8) (N := 6) (j := 0) C mf_3 rfl rfl (by decide) rfl 4 0 rfl rfl rfl nX8_begin_8 mX8_begin_3 dX8_begin_11 rfl rfl ?_
  refine jr_aload_n (q := 15) C 0 dX8_begin_14 rfl rfl rfl ?_
  refine jr_getI (q := 18) (ci := 8) (Cn := RX8) (T := TX8) (N := 6) (j := 1) C mf_3 rfl rfl (by decide) rfl rfl nX8_begin_8 mX8_begin_4 dX8_begin_15 rfl rfl ?_
  obtain ⟨g3, h⟩ := h
  refine jr_aald (q := 19) (t := 3) C mf_4 5 (fun _ => rfl) (fun _ _ => rfl) rfl (by decide) g3 dX8_begin_18 rfl ?_
  refine jr_iload_n (q := 20) C 1 dX8_begin_19 rfl rfl rfl ?_
  refine jr_iconst (q := 21) (v := (0 : Int32)) C dX8_begin_20 (by decide) rfl ?_
  obtain ⟨g4, h⟩ := h
  refine jr_iast (q := 22) C (mm_lt g3) rfl g4 dX8_begin_21 rfl ?_
  refine jn_mem (fun μ5 eμ5 => ?_)
  replace h := h μ5 eμ5
  exact jr_vret C hr hk dX8_begin_22 h
theorem nX8_takesKind_8 : ∀ w ∈ wsX80, w ∈ wsX8_takesKind := fun _ h => List.mem_cons_of_mem _ (List.mem_append_right _ h)
theorem mX8_takesKind_1 : Cond.fieldLink RX8 20 RX8 (TX8 2).2.1 (TX8 2).2.2.1 ∈ wsX8_takesKind := List.mem_of_getElem? (i := 1) (by decide +kernel)
theorem mX8_takesKind_2 : Cond.fieldLink RX8 11 RX8 (TX8 0).2.1 (TX8 0).2.2.1 ∈ wsX8_takesKind := List.mem_of_getElem? (i := 2) (by decide +kernel)
theorem mX8_takesKind_3 : Cond.fieldLink RX8 16 RX8 (TX8 1).2.1 (TX8 1).2.2.1 ∈ wsX8_takesKind := List.mem_of_getElem? (i := 3) (by decide +kernel)
theorem dsc_X8_takesKind : yX8_takesKind.cls ≠ "java/lang/invoke/MethodHandle" ∧ yX8_takesKind.cls ≠ "java/lang/invoke/VarHandle" ∧ (parseMethodDescriptor yX8_takesKind.desc).map (fun d => d.parameters.length) = some 1 := by decide +kernel
def pX8_takesKind_b47 (Po : Int32 → mm_T → Prop) (μ : mm_T) : Prop := pX8_begin (fun μ1 => Po (1 : Int32) μ1) μ (1 : Int32)
def pX8_takesKind_b39 (Po : Int32 → mm_T → Prop) (μ : mm_T) (a1 : Int32) : Prop := (a1 = (97 : Int32) → pX8_takesKind_b47 Po μ) ∧ (¬ (a1 = (97 : Int32)) → Po (0 : Int32) μ)
def pX8_takesKind (Po : Int32 → mm_T → Prop) (μ : mm_T) (p1 : Int32) : Prop := (¬ p1 = (116 : Int32) → pX8_takesKind_b39 Po μ p1) ∧ (p1 = (116 : Int32) → ((4 : Int32) ≤ (μ.1 3 0 2) → pX8_takesKind_b39 Po μ p1) ∧ (¬ ((4 : Int32) ≤ (μ.1 3 0 2)) → ∀ μ3 : mm_T, μ3 = mm_I μ 3 0 2 ((μ.1 3 0 2) + (1 : Int32)) → ((vp_in (μ3.1 3 0 1) 7) ∧ ((vp_in (0 : Int32) 5) ∧ (∀ μ6 : mm_T, μ6 = mm_I μ3 5 ((μ3.1 3 0 1).toNatClampNeg) (0 : Int32).toNatClampNeg (1 : Int32) → (pX8_takesKind_b47 Po μ6))))))
set_option maxHeartbeats 4000000 in
set_option maxRecDepth 100000 in
theorem kX8_takesKind (l : Launch) (p1 : Int32) : mm_CI l yX8_takesKind wsX8_takesKind ({ frames := 1, cells := 0, slots := 0, locals := 21 }) (fun z => [.ref (z + mm_ad 3 0), .int p1]) (fun μ Po => pX8_takesKind Po μ p1) := by
  refine je_Z (cc := cX8_takesKind) (nL := 2) (own := RX8) (plainFor_of_name (by decide)) rfl rfl (fun _ => Nat.le_of_ble_eq_true rfl) ?_
  intro p e s m args below meth c D cy z μ Po C hr hk h
  change jJ p l e ({ frames := 1, cells := 0, slots := 0, locals := 21 }) s m args below meth c D cy z (MQ below (va_Qi Po (mm_Po D cy z) (mm_A z)) args s 0 0 (mm_A z)) 2 μ 0 [(0, .ref (z + mm_ad 3 0)), (1, .int p1)] []
  replace h : pX8_takesKind Po μ p1 := h
  unfold pX8_takesKind at h
  refine jr_iload_n (q := 1) C 1 dX8_takesKind_0 rfl rfl rfl ?_
  refine jr_bipush (q := 3) (v := (116 : Int32)) C dX8_takesKind_1 (by decide) rfl ?_
  have b47 : ∀ (μ : mm_T), pX8_takesKind_b47 Po μ → jJ p l e ({ frames := 1, cells := 0, slots := 0, locals := 21 }) s m args below meth c D cy z (MQ below (va_Qi Po (mm_Po D cy z) (mm_A z)) args s 0 0 (mm_A z)) 2 μ 47 [(0, .ref (z + mm_ad 3 0))] [] := by
    intro μ h
    unfold pX8_takesKind_b47 at h
    refine jr_aload_n (q := 48) C 0 dX8_takesKind_47 rfl rfl rfl ?_
    refine jr_iconst (q := 49) (v := (1 : Int32)) C dX8_takesKind_48 (by decide) rfl ?_
    refine jr_cvV (q := 52) (As := [.int (1 : Int32)]) (rest := []) C (f := 3) (i := 0) (ci := 8) mf_3 rfl rfl rfl (kX8_begin l (1 : Int32)) rfl gX8_takesKind_X8_begin rfl dsc_X8_begin ⟨rfl, rfl⟩ ⟨by decide, by decide⟩ rfl rfl (Nat.le_of_ble_eq_true rfl) dX8_takesKind_49 rfl h (fun μ1 h => ?_)
    refine jr_iconst (q := 53) (v := (1 : Int32)) C dX8_takesKind_52 (by decide) rfl ?_
    exact jr_zret C hr hk dX8_takesKind_53 (by decide) h
  have b39 : ∀ (μ : mm_T) (a1 : Int32), pX8_takesKind_b39 Po μ a1 → jJ p l e ({ frames := 1, cells := 0, slots := 0, locals := 21 }) s m args below meth c D cy z (MQ below (va_Qi Po (mm_Po D cy z) (mm_A z)) args s 0 0 (mm_A z)) 2 μ 39 [(0, .ref (z + mm_ad 3 0)), (1, .int a1)] [] := by
    intro μ a1 h
    unfold pX8_takesKind_b39 at h
    refine jr_iload_n (q := 40) C 1 dX8_takesKind_39 rfl rfl rfl ?_
    refine jr_bipush (q := 42) (v := (97 : Int32)) C dX8_takesKind_40 (by decide) rfl ?_
    refine jr_icmp_eq (q := 45) (tgt := 47) C dX8_takesKind_42 (by decide) rfl (fun c2 => ?_) (fun c2 => ?_)
    · replace h := h.1 c2
      refine jr_sub [0] rfl ?_
      exact b47 _ h
    · replace h := h.2 c2
      refine jr_iconst (q := 46) (v := (0 : Int32)) C dX8_takesKind_45 (by decide) rfl ?_
      exact jr_zret C hr hk dX8_takesKind_46 (by decide) h
  refine jr_icmp_ne (q := 6) (tgt := 39) C dX8_takesKind_3 (by decide) rfl (fun c8 => ?_) (fun c8 => ?_)
  · replace h := h.1 c8
    refine jr_sub [0, 1] rfl ?_
    exact b39 _ _ h
  · replace h := h.2 c8
    refine jr_aload_n (q := 7) C 0 dX8_takesKind_6 rfl rfl rfl ?_
    refine jr_getI (q := 10) (ci := 8) (Cn := RX8) (T := TX8) (N := 6) (j := 2) C mf_3 rfl rfl (by decide) rfl rfl nX8_takesKind_8 mX8_takesKind_1 dX8_takesKind_7 rfl rfl ?_
    refine jr_iconst (q := 11) (v := (4 : Int32)) C dX8_takesKind_10 (by decide) rfl ?_
    refine jr_icmp_ge (q := 14) (tgt := 39) C dX8_takesKind_11 (by decide) rfl (fun c7 => ?_) (fun c7 => ?_)
    · replace h := h.1 c7
      refine jr_sub [0, 1] rfl ?_
      exact b39 _ _ h
    · replace h := h.2 c7
      refine jr_aload_n (q := 15) C 0 dX8_takesKind_14 rfl rfl rfl ?_
      refine jr_dup (q := 16) C dX8_takesKind_15 rfl rfl ?_
      refine jr_getI (q := 19) (ci := 8) (Cn := RX8) (T := TX8) (N := 6) (j := 2) C mf_3 rfl rfl (by decide) rfl rfl nX8_takesKind_8 mX8_takesKind_1 dX8_takesKind_16 rfl rfl ?_
      refine jr_iconst (q := 20) (v := (1 : Int32)) C dX8_takesKind_19 (by decide) rfl ?_
      refine jr_iadd (q := 21) C dX8_takesKind_20 rfl ?_
      refine jr_putI (q := 24) (ci := 8) (Cn := RX8) (T := TX8) (N := 6) (j := 2) C mf_3 rfl rfl (by decide) rfl rfl tyX8 tyX8_ok nmX8 rfl (by decide +kernel) nX8_takesKind_8 mX8_takesKind_1 dX8_takesKind_21 rfl rfl ?_
      refine jn_mem (fun μ3 eμ3 => ?_)
      replace h := h μ3 eμ3
      refine jr_aload_n (q := 25) C 0 dX8_takesKind_24 rfl rfl rfl ?_
      refine jr_getR (q := 28) (ci := 8) (Cn := RX8) (T := TX8) (N := 6) (j := 0) C mf_3 rfl rfl (by decide) rfl 4 0 rfl rfl rfl nX8_takesKind_8 mX8_takesKind_2 dX8_takesKind_25 rfl rfl ?_
      refine jr_aload_n (q := 29) C 0 dX8_takesKind_28 rfl rfl rfl ?_
      refine jr_getI (q := 32) (ci := 8) (Cn := RX8) (T := TX8) (N := 6) (j := 1) C mf_3 rfl rfl (by decide) rfl rfl nX8_takesKind_8 mX8_takesKind_3 dX8_takesKind_29 rfl rfl ?_
      obtain ⟨g4, h⟩ := h
      refine jr_aald (q := 33) (t := 3) C mf_4 5 (fun _ => rfl) (fun _ _ => rfl) rfl (by decide) g4 dX8_takesKind_32 rfl ?_
      refine jr_iconst (q := 34) (v := (0 : Int32)) C dX8_takesKind_33 (by decide) rfl ?_
      refine jr_iconst (q := 35) (v := (1 : Int32)) C dX8_takesKind_34 (by decide) rfl ?_
      obtain ⟨g5, h⟩ := h
      refine jr_iast (q := 36) C (mm_lt g4) rfl g5 dX8_takesKind_35 rfl ?_
      refine jn_mem (fun μ6 eμ6 => ?_)
      replace h := h μ6 eμ6
      refine jr_goto (tgt := 47) C dX8_takesKind_36 (by decide) ?_
      refine jr_sub [0] rfl ?_
      exact b47 _ h
theorem nX8_takesFigure_8 : ∀ w ∈ wsX80, w ∈ wsX8_takesFigure := fun _ h => List.mem_cons_of_mem _ (List.mem_append_right _ h)
theorem mX8_takesFigure_1 : Cond.fieldLink RX8 11 RX8 (TX8 0).2.1 (TX8 0).2.2.1 ∈ wsX8_takesFigure := List.mem_of_getElem? (i := 1) (by decide +kernel)
theorem mX8_takesFigure_2 : Cond.fieldLink RX8 16 RX8 (TX8 1).2.1 (TX8 1).2.2.1 ∈ wsX8_takesFigure := List.mem_of_getElem? (i := 2) (by decide +kernel)
theorem mX8_takesFigure_3 : Cond.fieldLink RX8 40 RX8 (TX8 3).2.1 (TX8 3).2.2.1 ∈ wsX8_takesFigure := List.mem_of_getElem? (i := 3) (by decide +kernel)
theorem mX8_takesFigure_4 : Cond.fieldLink RX8 43 RX8 (TX8 4).2.1 (TX8 4).2.2.1 ∈ wsX8_takesFigure := List.mem_of_getElem? (i := 4) (by decide +kernel)
theorem dsc_X8_takesFigure : yX8_takesFigure.cls ≠ "java/lang/invoke/MethodHandle" ∧ yX8_takesFigure.cls ≠ "java/lang/invoke/VarHandle" ∧ (parseMethodDescriptor yX8_takesFigure.desc).map (fun d => d.parameters.length) = some 1 := by decide +kernel
def pX8_takesFigure_b31 (Po : Int32 → mm_T → Prop) (μ : mm_T) (a1 : Int32) (a2 : Int32) (as0 : Int32) : Prop := ∀ x4 : Int32, x4 = ((10 : Int32) * a2) + a1 → ((¬ as0 = 0 → Po (0 : Int32) μ) ∧ (as0 = 0 → (vp_in (μ.1 3 0 3) 5) ∧ ((x4 ≤ (mm_G (μ.1 3 0 3).toNatClampNeg) → (vp_in (μ.1 3 0 1) 7) ∧ ((vp_in (μ.1 3 0 3) 5) ∧ (∀ μ9 : mm_T, μ9 = mm_I μ 5 ((μ.1 3 0 1).toNatClampNeg) (μ.1 3 0 3).toNatClampNeg x4 → (∀ μ10 : mm_T, μ10 = mm_I μ9 3 0 4 ((μ9.1 3 0 4) + (1 : Int32)) → (Po (1 : Int32) μ10))))) ∧ (¬ (x4 ≤ (mm_G (μ.1 3 0 3).toNatClampNeg)) → Po (0 : Int32) μ))))
def pX8_takesFigure_b30 (Po : Int32 → mm_T → Prop) (μ : mm_T) (a1 : Int32) (a2 : Int32) : Prop := pX8_takesFigure_b31 Po μ a1 a2 (0 : Int32)
def pX8_takesFigure (Po : Int32 → mm_T → Prop) (μ : mm_T) (p1 : Int32) : Prop := (vp_in (μ.1 3 0 1) 7) ∧ ((vp_in (μ.1 3 0 3) 5) ∧ (∀ x3 : Int32, x3 = μ.1 5 ((μ.1 3 0 1).toNatClampNeg) (μ.1 3 0 3).toNatClampNeg → (((μ.1 3 0 4) ≤ 0 → pX8_takesFigure_b30 Po μ p1 x3) ∧ (¬ ((μ.1 3 0 4) ≤ 0) → (¬ x3 = 0 → pX8_takesFigure_b30 Po μ p1 x3) ∧ (x3 = 0 → pX8_takesFigure_b31 Po μ p1 x3 (1 : Int32))))))
set_option maxHeartbeats 4000000 in
set_option maxRecDepth 100000 in
theorem kX8_takesFigure (l : Launch) (p1 : Int32) : mm_CI l yX8_takesFigure wsX8_takesFigure ({ frames := 0, cells := 0, slots := 0, locals := 0 }) (fun z => [.ref (z + mm_ad 3 0), .int p1]) (fun μ Po => pX8_takesFigure Po μ p1) := by
  refine je_Z (cc := cX8_takesFigure) (nL := 5) (own := RX8) (plainFor_of_name (by decide)) rfl rfl (fun _ => Nat.le_of_ble_eq_true rfl) ?_
  intro p e s m args below meth c D cy z μ Po C hr hk h
  change jJ p l e ({ frames := 0, cells := 0, slots := 0, locals := 0 }) s m args below meth c D cy z (MQ below (va_Qi Po (mm_Po D cy z) (mm_A z)) args s 0 0 (mm_A z)) 5 μ 0 [(0, .ref (z + mm_ad 3 0)), (1, .int p1)] []
  replace h : pX8_takesFigure Po μ p1 := h
  unfold pX8_takesFigure at h
  refine jr_aload_n (q := 1) C 0 dX8_takesFigure_0 rfl rfl rfl ?_
  refine jr_getR (q := 4) (ci := 8) (Cn := RX8) (T := TX8) (N := 6) (j := 0) C mf_3 rfl rfl (by decide) rfl 4 0 rfl rfl rfl nX8_takesFigure_8 mX8_takesFigure_1 dX8_takesFigure_1 rfl rfl ?_
  refine jr_aload_n (q := 5) C 0 dX8_takesFigure_4 rfl rfl rfl ?_
  refine jr_getI (q := 8) (ci := 8) (Cn := RX8) (T := TX8) (N := 6) (j := 1) C mf_3 rfl rfl (by decide) rfl rfl nX8_takesFigure_8 mX8_takesFigure_2 dX8_takesFigure_5 rfl rfl ?_
  obtain ⟨g1, h⟩ := h
  refine jr_aald (q := 9) (t := 3) C mf_4 5 (fun _ => rfl) (fun _ _ => rfl) rfl (by decide) g1 dX8_takesFigure_8 rfl ?_
  refine jr_aload_n (q := 10) C 0 dX8_takesFigure_9 rfl rfl rfl ?_
  refine jr_getI (q := 13) (ci := 8) (Cn := RX8) (T := TX8) (N := 6) (j := 3) C mf_3 rfl rfl (by decide) rfl rfl nX8_takesFigure_8 mX8_takesFigure_3 dX8_takesFigure_10 rfl rfl ?_
  obtain ⟨g2, h⟩ := h
  refine jr_iald (q := 14) C (mm_lt g1) rfl g2 dX8_takesFigure_13 rfl ?_
  refine jn_int (fun x3 ex3 => ?_)
  replace h := h x3 ex3
  refine jr_istore_n (q := 15) (lv' := [(2, .int x3), (0, .ref (z + mm_ad 3 0)), (1, .int p1)]) C dX8_takesFigure_14 rfl (by decide) rfl rfl ?_
  refine jr_aload_n (q := 16) C 1 dX8_takesFigure_15 rfl rfl rfl ?_
  refine jr_getI (q := 19) (ci := 8) (Cn := RX8) (T := TX8) (N := 6) (j := 4) C mf_3 rfl rfl (by decide) rfl rfl nX8_takesFigure_8 mX8_takesFigure_4 dX8_takesFigure_16 rfl rfl ?_
  have b31 : ∀ (μ : mm_T) (a1 : Int32) (a2 : Int32) (as0 : Int32), pX8_takesFigure_b31 Po μ a1 a2 as0 → jJ p l e ({ frames := 0, cells := 0, slots := 0, locals := 0 }) s m args below meth c D cy z (MQ below (va_Qi Po (mm_Po D cy z) (mm_A z)) args s 0 0 (mm_A z)) 5 μ 31 [(0, .ref (z + mm_ad 3 0)), (1, .int a1), (2, .int a2)] [.int as0] := by
    intro μ a1 a2 as0 h
    unfold pX8_takesFigure_b31 at h
    refine jr_istore_n (q := 32) (lv' := [(3, .int as0), (0, .ref (z + mm_ad 3 0)), (1, .int a1), (2, .int a2)]) C dX8_takesFigure_31 rfl (by decide) rfl rfl ?_
    refine jr_bipush (q := 34) (v := (10 : Int32)) C dX8_takesFigure_32 (by decide) rfl ?_
    refine jr_iload_n (q := 35) C 3 dX8_takesFigure_34 rfl rfl rfl ?_
    refine jr_imul (q := 36) C dX8_takesFigure_35 rfl ?_
    refine jr_iload_n (q := 37) C 2 dX8_takesFigure_36 rfl rfl rfl ?_
    refine jr_iadd (q := 38) C dX8_takesFigure_37 rfl ?_
    refine jn_int (fun x4 ex4 => ?_)
    replace h := h x4 ex4
    refine jr_istore (q := 40) (lv' := [(4, .int x4), (3, .int as0), (0, .ref (z + mm_ad 3 0)), (1, .int a1), (2, .int a2)]) C dX8_takesFigure_38 (by decide) rfl rfl ?_
    refine jr_iload_n (q := 41) C 1 dX8_takesFigure_40 rfl rfl rfl ?_
    refine jr_if_ne (q := 44) (tgt := 57) C dX8_takesFigure_41 (by decide) rfl (fun c12 => ?_) (fun c12 => ?_)
    · replace h := h.1 c12
      refine jr_iconst (q := 58) (v := (0 : Int32)) C dX8_takesFigure_57 (by decide) rfl ?_
      exact jr_zret C hr hk dX8_takesFigure_58 (by decide) h
    · replace h := h.2 c12
      refine jr_iload (q := 46) C 0 dX8_takesFigure_44 rfl rfl ?_
      refine jr_great (q := 49) C rfl dX8_takesFigure_46 rfl (fun q5 hq5 => ?_)
      refine jr_aload_n (q := 50) C 2 dX8_takesFigure_49 rfl rfl rfl ?_
      refine jr_getI (q := 53) (ci := 8) (Cn := RX8) (T := TX8) (N := 6) (j := 3) C mf_3 rfl rfl (by decide) rfl rfl nX8_takesFigure_8 mX8_takesFigure_3 dX8_takesFigure_50 rfl rfl ?_
      obtain ⟨g6, h⟩ := h
      refine jr_gald (q := 54) C hq5 g6 dX8_takesFigure_53 rfl ?_
      refine jr_icmp_le (q := 57) (tgt := 59) C dX8_takesFigure_54 (by decide) rfl (fun c11 => ?_) (fun c11 => ?_)
      · replace h := h.1 c11
        refine jr_aload_n (q := 60) C 2 dX8_takesFigure_59 rfl rfl rfl ?_
        refine jr_getR (q := 63) (ci := 8) (Cn := RX8) (T := TX8) (N := 6) (j := 0) C mf_3 rfl rfl (by decide) rfl 4 0 rfl rfl rfl nX8_takesFigure_8 mX8_takesFigure_1 dX8_takesFigure_60 rfl rfl ?_
        refine jr_aload_n (q := 64) C 2 dX8_takesFigure_63 rfl rfl rfl ?_
        refine jr_getI (q := 67) (ci := 8) (Cn := RX8) (T := TX8) (N := 6) (j := 1) C mf_3 rfl rfl (by decide) rfl rfl nX8_takesFigure_8 mX8_takesFigure_2 dX8_takesFigure_64 rfl rfl ?_
        obtain ⟨g7, h⟩ := h
        refine jr_aald (q := 68) (t := 3) C mf_4 5 (fun _ => rfl) (fun _ _ => rfl) rfl (by decide) g7 dX8_takesFigure_67 rfl ?_
        refine jr_aload_n (q := 69) C 2 dX8_takesFigure_68 rfl rfl rfl ?_
        refine jr_getI (q := 72) (ci := 8) (Cn := RX8) (T := TX8) (N := 6) (j := 3) C mf_3 rfl rfl (by decide) rfl rfl nX8_takesFigure_8 mX8_takesFigure_3 dX8_takesFigure_69 rfl rfl ?_
        refine jr_iload (q := 74) C 0 dX8_takesFigure_72 rfl rfl ?_
        obtain ⟨g8, h⟩ := h
        refine jr_iast (q := 75) C (mm_lt g7) rfl g8 dX8_takesFigure_74 rfl ?_
        refine jn_mem (fun μ9 eμ9 => ?_)
        replace h := h μ9 eμ9
        refine jr_aload_n (q := 76) C 2 dX8_takesFigure_75 rfl rfl rfl ?_
        refine jr_dup (q := 77) C dX8_takesFigure_76 rfl rfl ?_
        refine jr_getI (q := 80) (ci := 8) (Cn := RX8) (T := TX8) (N := 6) (j := 4) C mf_3 rfl rfl (by decide) rfl rfl nX8_takesFigure_8 mX8_takesFigure_4 dX8_takesFigure_77 rfl rfl ?_
        refine jr_iconst (q := 81) (v := (1 : Int32)) C dX8_takesFigure_80 (by decide) rfl ?_
        refine jr_iadd (q := 82) C dX8_takesFigure_81 rfl ?_
        refine jr_putI (q := 85) (ci := 8) (Cn := RX8) (T := TX8) (N := 6) (j := 4) C mf_3 rfl rfl (by decide) rfl rfl tyX8 tyX8_ok nmX8 rfl (by decide +kernel) nX8_takesFigure_8 mX8_takesFigure_4 dX8_takesFigure_82 rfl rfl ?_
        refine jn_mem (fun μ10 eμ10 => ?_)
        replace h := h μ10 eμ10
        refine jr_iconst (q := 86) (v := (1 : Int32)) C dX8_takesFigure_85 (by decide) rfl ?_
        exact jr_zret C hr hk dX8_takesFigure_86 (by decide) h
      · replace h := h.2 c11
        refine jr_iconst (q := 58) (v := (0 : Int32)) C dX8_takesFigure_57 (by decide) rfl ?_
        exact jr_zret C hr hk dX8_takesFigure_58 (by decide) h
  have b30 : ∀ (μ : mm_T) (a1 : Int32) (a2 : Int32), pX8_takesFigure_b30 Po μ a1 a2 → jJ p l e ({ frames := 0, cells := 0, slots := 0, locals := 0 }) s m args below meth c D cy z (MQ below (va_Qi Po (mm_Po D cy z) (mm_A z)) args s 0 0 (mm_A z)) 5 μ 30 [(0, .ref (z + mm_ad 3 0)), (1, .int a1), (2, .int a2)] [] := by
    intro μ a1 a2 h
    unfold pX8_takesFigure_b30 at h
    refine jr_iconst (q := 31) (v := (0 : Int32)) C dX8_takesFigure_30 (by decide) rfl ?_
    refine jr_sub [0, 1, 2] rfl ?_
    exact b31 _ _ _ _ h
  refine jr_if_le (q := 22) (tgt := 30) C dX8_takesFigure_19 (by decide) rfl (fun c14 => ?_) (fun c14 => ?_)
  · replace h := h.1 c14
    refine jr_sub [1, 2, 0] rfl ?_
    exact b30 _ _ _ h
  · replace h := h.2 c14
    refine jr_iload_n (q := 23) C 0 dX8_takesFigure_22 rfl rfl rfl ?_
    refine jr_if_ne (q := 26) (tgt := 30) C dX8_takesFigure_23 (by decide) rfl (fun c13 => ?_) (fun c13 => ?_)
    · replace h := h.1 c13
      refine jr_sub [1, 2, 0] rfl ?_
      exact b30 _ _ _ h
    · replace h := h.2 c13
      refine jr_iconst (q := 27) (v := (1 : Int32)) C dX8_takesFigure_26 (by decide) rfl ?_
      refine jr_goto (tgt := 31) C dX8_takesFigure_27 (by decide) ?_
      refine jr_sub [1, 2, 0] rfl ?_
      exact b31 _ _ _ _ h
theorem nX8_takesMark_8 : ∀ w ∈ wsX80, w ∈ wsX8_takesMark := fun _ h => List.mem_cons_of_mem _ (List.mem_append_right _ h)
theorem mX8_takesMark_1 : Cond.fieldLink RX8 40 RX8 (TX8 3).2.1 (TX8 3).2.2.1 ∈ wsX8_takesMark := List.mem_of_getElem? (i := 1) (by decide +kernel)
theorem mX8_takesMark_2 : Cond.fieldLink RX8 16 RX8 (TX8 1).2.1 (TX8 1).2.2.1 ∈ wsX8_takesMark := List.mem_of_getElem? (i := 4) (by decide +kernel)
theorem mX8_takesMark_3 : Cond.fieldLink RX8 62 RX8 (TX8 5).2.1 (TX8 5).2.2.1 ∈ wsX8_takesMark := List.mem_of_getElem? (i := 2) (by decide +kernel)
theorem mX8_takesMark_4 : Cond.fieldLink RX8 11 RX8 (TX8 0).2.1 (TX8 0).2.2.1 ∈ wsX8_takesMark := List.mem_of_getElem? (i := 3) (by decide +kernel)
theorem dsc_X8_takesMark : yX8_takesMark.cls ≠ "java/lang/invoke/MethodHandle" ∧ yX8_takesMark.cls ≠ "java/lang/invoke/VarHandle" ∧ (parseMethodDescriptor yX8_takesMark.desc).map (fun d => d.parameters.length) = some 1 := by decide +kernel
def pX8_takesMark_b114 (Po : Int32 → mm_T → Prop) (μ : mm_T) (a1 : Int32) : Prop := (¬ (μ.1 3 0 3) = (4 : Int32) → Po (0 : Int32) μ) ∧ ((μ.1 3 0 3) = (4 : Int32) → (¬ a1 = (59 : Int32) → Po (0 : Int32) μ) ∧ (a1 = (59 : Int32) → pX8_nodeCount (fun r2 μ1 => ((7 : Int32) ≤ r2 → Po (0 : Int32) μ1) ∧ (¬ ((7 : Int32) ≤ r2) → ∀ μ3 : mm_T, μ3 = mm_I μ1 3 0 1 ((μ1.1 3 0 1) + (1 : Int32)) → (pX8_begin (fun μ4 => Po (1 : Int32) μ4) μ3 (0 : Int32)))) μ ))
def pX8_takesMark_b107 (Po : Int32 → mm_T → Prop) (μ : mm_T) : Prop := pX8_begin (fun μ8 => Po (1 : Int32) μ8) μ (4 : Int32)
def pX8_takesMark_b63 (Po : Int32 → mm_T → Prop) (μ : mm_T) (a1 : Int32) : Prop := (¬ (μ.1 3 0 3) = (3 : Int32) → pX8_takesMark_b114 Po μ a1) ∧ ((μ.1 3 0 3) = (3 : Int32) → (¬ a1 = (64 : Int32) → pX8_takesMark_b114 Po μ a1) ∧ (a1 = (64 : Int32) → ((μ.1 3 0 5) = 0 → pX8_takesMark_b107 Po μ) ∧ (¬ ((μ.1 3 0 5) = 0) → (vp_in (μ.1 3 0 1) 7) ∧ ((vp_in (μ.1 3 0 1) 7) ∧ ((vp_in (3 : Int32) 5) ∧ ((vp_in (3 : Int32) 5) ∧ (∀ μ13 : mm_T, μ13 = mm_I μ 5 ((μ.1 3 0 1).toNatClampNeg) (3 : Int32).toNatClampNeg (-(μ.1 5 ((μ.1 3 0 1).toNatClampNeg) (3 : Int32).toNatClampNeg)) → (pX8_takesMark_b107 Po μ13))))))))
def pX8_takesMark_b53 (Po : Int32 → mm_T → Prop) (μ : mm_T) (as0 : Int32) : Prop := (as0 = 0 ∨ as0 = 1) ∧ (∀ μ18 : mm_T, μ18 = mm_I μ 3 0 5 as0 → (pX8_begin (fun μ19 => Po (1 : Int32) μ19) μ18 (3 : Int32)))
def pX8_takesMark_b41 (Po : Int32 → mm_T → Prop) (μ : mm_T) (a1 : Int32) : Prop := (¬ a1 = (45 : Int32) → pX8_takesMark_b53 Po μ (0 : Int32)) ∧ (a1 = (45 : Int32) → pX8_takesMark_b53 Po μ (1 : Int32))
def pX8_takesMark_b21 (Po : Int32 → mm_T → Prop) (μ : mm_T) (a1 : Int32) : Prop := (¬ (μ.1 3 0 3) = (2 : Int32) → pX8_takesMark_b63 Po μ a1) ∧ ((μ.1 3 0 3) = (2 : Int32) → (a1 = (43 : Int32) → pX8_takesMark_b41 Po μ a1) ∧ (¬ (a1 = (43 : Int32)) → (¬ a1 = (45 : Int32) → pX8_takesMark_b63 Po μ a1) ∧ (a1 = (45 : Int32) → pX8_takesMark_b41 Po μ a1)))
def pX8_takesMark (Po : Int32 → mm_T → Prop) (μ : mm_T) (p1 : Int32) : Prop := (¬ (μ.1 3 0 3) = (1 : Int32) → pX8_takesMark_b21 Po μ p1) ∧ ((μ.1 3 0 3) = (1 : Int32) → (¬ p1 = (44 : Int32) → pX8_takesMark_b21 Po μ p1) ∧ (p1 = (44 : Int32) → pX8_begin (fun μ24 => Po (1 : Int32) μ24) μ (2 : Int32)))
set_option maxHeartbeats 4000000 in
set_option maxRecDepth 100000 in
theorem kX8_takesMark (l : Launch) (p1 : Int32) : mm_CI l yX8_takesMark wsX8_takesMark ({ frames := 1, cells := 0, slots := 0, locals := 21 }) (fun z => [.ref (z + mm_ad 3 0), .int p1]) (fun μ Po => pX8_takesMark Po μ p1) := by
  refine je_Z (cc := cX8_takesMark) (nL := 2) (own := RX8) (plainFor_of_name (by decide)) rfl rfl (fun _ => Nat.le_of_ble_eq_true rfl) ?_
  intro p e s m args below meth c D cy z μ Po C hr hk h
  change jJ p l e ({ frames := 1, cells := 0, slots := 0, locals := 21 }) s m args below meth c D cy z (MQ below (va_Qi Po (mm_Po D cy z) (mm_A z)) args s 0 0 (mm_A z)) 2 μ 0 [(0, .ref (z + mm_ad 3 0)), (1, .int p1)] []
  replace h : pX8_takesMark Po μ p1 := h
  unfold pX8_takesMark at h
  refine jr_aload_n (q := 1) C 0 dX8_takesMark_0 rfl rfl rfl ?_
  refine jr_getI (q := 4) (ci := 8) (Cn := RX8) (T := TX8) (N := 6) (j := 3) C mf_3 rfl rfl (by decide) rfl rfl nX8_takesMark_8 mX8_takesMark_1 dX8_takesMark_1 rfl rfl ?_
  refine jr_iconst (q := 5) (v := (1 : Int32)) C dX8_takesMark_4 (by decide) rfl ?_
  have b21 : ∀ (μ : mm_T) (a1 : Int32), pX8_takesMark_b21 Po μ a1 → jJ p l e ({ frames := 1, cells := 0, slots := 0, locals := 21 }) s m args below meth c D cy z (MQ below (va_Qi Po (mm_Po D cy z) (mm_A z)) args s 0 0 (mm_A z)) 2 μ 21 [(0, .ref (z + mm_ad 3 0)), (1, .int a1)] [] := by
    intro μ a1 h
    unfold pX8_takesMark_b21 at h
    refine jr_aload_n (q := 22) C 0 dX8_takesMark_21 rfl rfl rfl ?_
    refine jr_getI (q := 25) (ci := 8) (Cn := RX8) (T := TX8) (N := 6) (j := 3) C mf_3 rfl rfl (by decide) rfl rfl nX8_takesMark_8 mX8_takesMark_1 dX8_takesMark_22 rfl rfl ?_
    refine jr_iconst (q := 26) (v := (2 : Int32)) C dX8_takesMark_25 (by decide) rfl ?_
    have b63 : ∀ (μ : mm_T) (a1 : Int32), pX8_takesMark_b63 Po μ a1 → jJ p l e ({ frames := 1, cells := 0, slots := 0, locals := 21 }) s m args below meth c D cy z (MQ below (va_Qi Po (mm_Po D cy z) (mm_A z)) args s 0 0 (mm_A z)) 2 μ 63 [(0, .ref (z + mm_ad 3 0)), (1, .int a1)] [] := by
      intro μ a1 h
      unfold pX8_takesMark_b63 at h
      refine jr_aload_n (q := 64) C 0 dX8_takesMark_63 rfl rfl rfl ?_
      refine jr_getI (q := 67) (ci := 8) (Cn := RX8) (T := TX8) (N := 6) (j := 3) C mf_3 rfl rfl (by decide) rfl rfl nX8_takesMark_8 mX8_takesMark_1 dX8_takesMark_64 rfl rfl ?_
      refine jr_iconst (q := 68) (v := (3 : Int32)) C dX8_takesMark_67 (by decide) rfl ?_
      have b114 : ∀ (μ : mm_T) (a1 : Int32), pX8_takesMark_b114 Po μ a1 → jJ p l e ({ frames := 1, cells := 0, slots := 0, locals := 21 }) s m args below meth c D cy z (MQ below (va_Qi Po (mm_Po D cy z) (mm_A z)) args s 0 0 (mm_A z)) 2 μ 114 [(0, .ref (z + mm_ad 3 0)), (1, .int a1)] [] := by
        intro μ a1 h
        unfold pX8_takesMark_b114 at h
        refine jr_aload_n (q := 115) C 0 dX8_takesMark_114 rfl rfl rfl ?_
        refine jr_getI (q := 118) (ci := 8) (Cn := RX8) (T := TX8) (N := 6) (j := 3) C mf_3 rfl rfl (by decide) rfl rfl nX8_takesMark_8 mX8_takesMark_1 dX8_takesMark_115 rfl rfl ?_
        refine jr_iconst (q := 119) (v := (4 : Int32)) C dX8_takesMark_118 (by decide) rfl ?_
        refine jr_icmp_ne (q := 122) (tgt := 154) C dX8_takesMark_119 (by decide) rfl (fun c7 => ?_) (fun c7 => ?_)
        · replace h := h.1 c7
          refine jr_iconst (q := 155) (v := (0 : Int32)) C dX8_takesMark_154 (by decide) rfl ?_
          exact jr_zret C hr hk dX8_takesMark_155 (by decide) h
        · replace h := h.2 c7
          refine jr_iload_n (q := 123) C 1 dX8_takesMark_122 rfl rfl rfl ?_
          refine jr_bipush (q := 125) (v := (59 : Int32)) C dX8_takesMark_123 (by decide) rfl ?_
          refine jr_icmp_ne (q := 128) (tgt := 154) C dX8_takesMark_125 (by decide) rfl (fun c6 => ?_) (fun c6 => ?_)
          · replace h := h.1 c6
            refine jr_iconst (q := 155) (v := (0 : Int32)) C dX8_takesMark_154 (by decide) rfl ?_
            exact jr_zret C hr hk dX8_takesMark_155 (by decide) h
          · replace h := h.2 c6
            refine jr_aload_n (q := 129) C 0 dX8_takesMark_128 rfl rfl rfl ?_
            refine jr_cvI (q := 132) (As := []) (rest := []) C (f := 3) (i := 0) (ci := 8) mf_3 rfl rfl rfl (kX8_nodeCount l) rfl gX8_takesMark_X8_nodeCount rfl dsc_X8_nodeCount ⟨rfl, rfl⟩ ⟨by decide, by decide⟩ rfl rfl (Nat.le_of_ble_eq_true rfl) dX8_takesMark_129 rfl h (fun r2 μ1 h => ?_)
            refine jr_bipush (q := 134) (v := (7 : Int32)) C dX8_takesMark_132 (by decide) rfl ?_
            refine jr_icmp_ge (q := 137) (tgt := 154) C dX8_takesMark_134 (by decide) rfl (fun c5 => ?_) (fun c5 => ?_)
            · replace h := h.1 c5
              refine jr_iconst (q := 155) (v := (0 : Int32)) C dX8_takesMark_154 (by decide) rfl ?_
              exact jr_zret C hr hk dX8_takesMark_155 (by decide) h
            · replace h := h.2 c5
              refine jr_aload_n (q := 138) C 0 dX8_takesMark_137 rfl rfl rfl ?_
              refine jr_dup (q := 139) C dX8_takesMark_138 rfl rfl ?_
              refine jr_getI (q := 142) (ci := 8) (Cn := RX8) (T := TX8) (N := 6) (j := 1) C mf_3 rfl rfl (by decide) rfl rfl nX8_takesMark_8 mX8_takesMark_2 dX8_takesMark_139 rfl rfl ?_
              refine jr_iconst (q := 143) (v := (1 : Int32)) C dX8_takesMark_142 (by decide) rfl ?_
              refine jr_iadd (q := 144) C dX8_takesMark_143 rfl ?_
              refine jr_putI (q := 147) (ci := 8) (Cn := RX8) (T := TX8) (N := 6) (j := 1) C mf_3 rfl rfl (by decide) rfl rfl tyX8 tyX8_ok nmX8 rfl (by decide +kernel) nX8_takesMark_8 mX8_takesMark_2 dX8_takesMark_144 rfl rfl ?_
              refine jn_mem (fun μ3 eμ3 => ?_)
              replace h := h μ3 eμ3
              refine jr_aload_n (q := 148) C 0 dX8_takesMark_147 rfl rfl rfl ?_
              refine jr_iconst (q := 149) (v := (0 : Int32)) C dX8_takesMark_148 (by decide) rfl ?_
              refine jr_cvV (q := 152) (As := [.int (0 : Int32)]) (rest := []) C (f := 3) (i := 0) (ci := 8) mf_3 rfl rfl rfl (kX8_begin l (0 : Int32)) rfl gX8_takesMark_X8_begin rfl dsc_X8_begin ⟨rfl, rfl⟩ ⟨by decide, by decide⟩ rfl rfl (Nat.le_of_ble_eq_true rfl) dX8_takesMark_149 rfl h (fun μ4 h => ?_)
              refine jr_iconst (q := 153) (v := (1 : Int32)) C dX8_takesMark_152 (by decide) rfl ?_
              exact jr_zret C hr hk dX8_takesMark_153 (by decide) h
      refine jr_icmp_ne (q := 71) (tgt := 114) C dX8_takesMark_68 (by decide) rfl (fun c16 => ?_) (fun c16 => ?_)
      · replace h := h.1 c16
        refine jr_sub [0, 1] rfl ?_
        exact b114 _ _ h
      · replace h := h.2 c16
        refine jr_iload_n (q := 72) C 1 dX8_takesMark_71 rfl rfl rfl ?_
        refine jr_bipush (q := 74) (v := (64 : Int32)) C dX8_takesMark_72 (by decide) rfl ?_
        refine jr_icmp_ne (q := 77) (tgt := 114) C dX8_takesMark_74 (by decide) rfl (fun c15 => ?_) (fun c15 => ?_)
        · replace h := h.1 c15
          refine jr_sub [0, 1] rfl ?_
          exact b114 _ _ h
        · replace h := h.2 c15
          refine jr_aload_n (q := 78) C 0 dX8_takesMark_77 rfl rfl rfl ?_
          refine jr_getI (q := 81) (ci := 8) (Cn := RX8) (T := TX8) (N := 6) (j := 5) C mf_3 rfl rfl (by decide) rfl rfl nX8_takesMark_8 mX8_takesMark_3 dX8_takesMark_78 rfl rfl ?_
          have b107 : ∀ (μ : mm_T), pX8_takesMark_b107 Po μ → jJ p l e ({ frames := 1, cells := 0, slots := 0, locals := 21 }) s m args below meth c D cy z (MQ below (va_Qi Po (mm_Po D cy z) (mm_A z)) args s 0 0 (mm_A z)) 2 μ 107 [(0, .ref (z + mm_ad 3 0))] [] := by
            intro μ h
            unfold pX8_takesMark_b107 at h
            refine jr_aload_n (q := 108) C 0 dX8_takesMark_107 rfl rfl rfl ?_
            refine jr_iconst (q := 109) (v := (4 : Int32)) C dX8_takesMark_108 (by decide) rfl ?_
            refine jr_cvV (q := 112) (As := [.int (4 : Int32)]) (rest := []) C (f := 3) (i := 0) (ci := 8) mf_3 rfl rfl rfl (kX8_begin l (4 : Int32)) rfl gX8_takesMark_X8_begin rfl dsc_X8_begin ⟨rfl, rfl⟩ ⟨by decide, by decide⟩ rfl rfl (Nat.le_of_ble_eq_true rfl) dX8_takesMark_109 rfl h (fun μ8 h => ?_)
            refine jr_iconst (q := 113) (v := (1 : Int32)) C dX8_takesMark_112 (by decide) rfl ?_
            exact jr_zret C hr hk dX8_takesMark_113 (by decide) h
          refine jr_if_eq (q := 84) (tgt := 107) C dX8_takesMark_81 (by decide) rfl (fun c14 => ?_) (fun c14 => ?_)
          · replace h := h.1 c14
            refine jr_sub [0] rfl ?_
            exact b107 _ h
          · replace h := h.2 c14
            refine jr_aload_n (q := 85) C 0 dX8_takesMark_84 rfl rfl rfl ?_
            refine jr_getR (q := 88) (ci := 8) (Cn := RX8) (T := TX8) (N := 6) (j := 0) C mf_3 rfl rfl (by decide) rfl 4 0 rfl rfl rfl nX8_takesMark_8 mX8_takesMark_4 dX8_takesMark_85 rfl rfl ?_
            refine jr_aload_n (q := 89) C 0 dX8_takesMark_88 rfl rfl rfl ?_
            refine jr_getI (q := 92) (ci := 8) (Cn := RX8) (T := TX8) (N := 6) (j := 1) C mf_3 rfl rfl (by decide) rfl rfl nX8_takesMark_8 mX8_takesMark_2 dX8_takesMark_89 rfl rfl ?_
            obtain ⟨g9, h⟩ := h
            refine jr_aald (q := 93) (t := 3) C mf_4 5 (fun _ => rfl) (fun _ _ => rfl) rfl (by decide) g9 dX8_takesMark_92 rfl ?_
            refine jr_iconst (q := 94) (v := (3 : Int32)) C dX8_takesMark_93 (by decide) rfl ?_
            refine jr_aload_n (q := 95) C 0 dX8_takesMark_94 rfl rfl rfl ?_
            refine jr_getR (q := 98) (ci := 8) (Cn := RX8) (T := TX8) (N := 6) (j := 0) C mf_3 rfl rfl (by decide) rfl 4 0 rfl rfl rfl nX8_takesMark_8 mX8_takesMark_4 dX8_takesMark_95 rfl rfl ?_
            refine jr_aload_n (q := 99) C 0 dX8_takesMark_98 rfl rfl rfl ?_
            refine jr_getI (q := 102) (ci := 8) (Cn := RX8) (T := TX8) (N := 6) (j := 1) C mf_3 rfl rfl (by decide) rfl rfl nX8_takesMark_8 mX8_takesMark_2 dX8_takesMark_99 rfl rfl ?_
            obtain ⟨g10, h⟩ := h
            refine jr_aald (q := 103) (t := 3) C mf_4 5 (fun _ => rfl) (fun _ _ => rfl) rfl (by decide) g10 dX8_takesMark_102 rfl ?_
            refine jr_iconst (q := 104) (v := (3 : Int32)) C dX8_takesMark_103 (by decide) rfl ?_
            obtain ⟨g11, h⟩ := h
            refine jr_iald (q := 105) C (mm_lt g10) rfl g11 dX8_takesMark_104 rfl ?_
            refine jr_ineg (q := 106) C dX8_takesMark_105 rfl ?_
            obtain ⟨g12, h⟩ := h
            refine jr_iast (q := 107) C (mm_lt g10) rfl g12 dX8_takesMark_106 rfl ?_
            refine jn_mem (fun μ13 eμ13 => ?_)
            replace h := h μ13 eμ13
            refine jr_sub [0] rfl ?_
            exact b107 _ h
    refine jr_icmp_ne (q := 29) (tgt := 63) C dX8_takesMark_26 (by decide) rfl (fun c23 => ?_) (fun c23 => ?_)
    · replace h := h.1 c23
      refine jr_sub [0, 1] rfl ?_
      exact b63 _ _ h
    · replace h := h.2 c23
      refine jr_iload_n (q := 30) C 1 dX8_takesMark_29 rfl rfl rfl ?_
      refine jr_bipush (q := 32) (v := (43 : Int32)) C dX8_takesMark_30 (by decide) rfl ?_
      have b41 : ∀ (μ : mm_T) (a1 : Int32), pX8_takesMark_b41 Po μ a1 → jJ p l e ({ frames := 1, cells := 0, slots := 0, locals := 21 }) s m args below meth c D cy z (MQ below (va_Qi Po (mm_Po D cy z) (mm_A z)) args s 0 0 (mm_A z)) 2 μ 41 [(0, .ref (z + mm_ad 3 0)), (1, .int a1)] [] := by
        intro μ a1 h
        unfold pX8_takesMark_b41 at h
        refine jr_aload_n (q := 42) C 0 dX8_takesMark_41 rfl rfl rfl ?_
        refine jr_iload_n (q := 43) C 1 dX8_takesMark_42 rfl rfl rfl ?_
        refine jr_bipush (q := 45) (v := (45 : Int32)) C dX8_takesMark_43 (by decide) rfl ?_
        have b53 : ∀ (μ : mm_T) (as0 : Int32), pX8_takesMark_b53 Po μ as0 → jJ p l e ({ frames := 1, cells := 0, slots := 0, locals := 21 }) s m args below meth c D cy z (MQ below (va_Qi Po (mm_Po D cy z) (mm_A z)) args s 0 0 (mm_A z)) 2 μ 53 [(0, .ref (z + mm_ad 3 0))] [.int as0, .ref (z + mm_ad 3 0)] := by
          intro μ as0 h
          unfold pX8_takesMark_b53 at h
          obtain ⟨g17, h⟩ := h
          refine jr_putZ (q := 56) (ci := 8) (Cn := RX8) (T := TX8) (N := 6) (j := 5) C mf_3 rfl rfl (by decide) rfl g17 rfl tyX8 tyX8_ok nmX8 rfl (by decide +kernel) nX8_takesMark_8 mX8_takesMark_3 dX8_takesMark_53 rfl rfl ?_
          refine jn_mem (fun μ18 eμ18 => ?_)
          replace h := h μ18 eμ18
          refine jr_aload_n (q := 57) C 0 dX8_takesMark_56 rfl rfl rfl ?_
          refine jr_iconst (q := 58) (v := (3 : Int32)) C dX8_takesMark_57 (by decide) rfl ?_
          refine jr_cvV (q := 61) (As := [.int (3 : Int32)]) (rest := []) C (f := 3) (i := 0) (ci := 8) mf_3 rfl rfl rfl (kX8_begin l (3 : Int32)) rfl gX8_takesMark_X8_begin rfl dsc_X8_begin ⟨rfl, rfl⟩ ⟨by decide, by decide⟩ rfl rfl (Nat.le_of_ble_eq_true rfl) dX8_takesMark_58 rfl h (fun μ19 h => ?_)
          refine jr_iconst (q := 62) (v := (1 : Int32)) C dX8_takesMark_61 (by decide) rfl ?_
          exact jr_zret C hr hk dX8_takesMark_62 (by decide) h
        refine jr_icmp_ne (q := 48) (tgt := 52) C dX8_takesMark_45 (by decide) rfl (fun c20 => ?_) (fun c20 => ?_)
        · replace h := h.1 c20
          refine jr_iconst (q := 53) (v := (0 : Int32)) C dX8_takesMark_52 (by decide) rfl ?_
          refine jr_sub [0] rfl ?_
          exact b53 _ _ h
        · replace h := h.2 c20
          refine jr_iconst (q := 49) (v := (1 : Int32)) C dX8_takesMark_48 (by decide) rfl ?_
          refine jr_goto (tgt := 53) C dX8_takesMark_49 (by decide) ?_
          refine jr_sub [0] rfl ?_
          exact b53 _ _ h
      refine jr_icmp_eq (q := 35) (tgt := 41) C dX8_takesMark_32 (by decide) rfl (fun c22 => ?_) (fun c22 => ?_)
      · replace h := h.1 c22
        refine jr_sub [0, 1] rfl ?_
        exact b41 _ _ h
      · replace h := h.2 c22
        refine jr_iload_n (q := 36) C 1 dX8_takesMark_35 rfl rfl rfl ?_
        refine jr_bipush (q := 38) (v := (45 : Int32)) C dX8_takesMark_36 (by decide) rfl ?_
        refine jr_icmp_ne (q := 41) (tgt := 63) C dX8_takesMark_38 (by decide) rfl (fun c21 => ?_) (fun c21 => ?_)
        · replace h := h.1 c21
          refine jr_sub [0, 1] rfl ?_
          exact b63 _ _ h
        · replace h := h.2 c21
          refine jr_sub [0, 1] rfl ?_
          exact b41 _ _ h
  refine jr_icmp_ne (q := 8) (tgt := 21) C dX8_takesMark_5 (by decide) rfl (fun c26 => ?_) (fun c26 => ?_)
  · replace h := h.1 c26
    refine jr_sub [0, 1] rfl ?_
    exact b21 _ _ h
  · replace h := h.2 c26
    refine jr_iload_n (q := 9) C 1 dX8_takesMark_8 rfl rfl rfl ?_
    refine jr_bipush (q := 11) (v := (44 : Int32)) C dX8_takesMark_9 (by decide) rfl ?_
    refine jr_icmp_ne (q := 14) (tgt := 21) C dX8_takesMark_11 (by decide) rfl (fun c25 => ?_) (fun c25 => ?_)
    · replace h := h.1 c25
      refine jr_sub [0, 1] rfl ?_
      exact b21 _ _ h
    · replace h := h.2 c25
      refine jr_aload_n (q := 15) C 0 dX8_takesMark_14 rfl rfl rfl ?_
      refine jr_iconst (q := 16) (v := (2 : Int32)) C dX8_takesMark_15 (by decide) rfl ?_
      refine jr_cvV (q := 19) (As := [.int (2 : Int32)]) (rest := []) C (f := 3) (i := 0) (ci := 8) mf_3 rfl rfl rfl (kX8_begin l (2 : Int32)) rfl gX8_takesMark_X8_begin rfl dsc_X8_begin ⟨rfl, rfl⟩ ⟨by decide, by decide⟩ rfl rfl (Nat.le_of_ble_eq_true rfl) dX8_takesMark_16 rfl h (fun μ24 h => ?_)
      refine jr_iconst (q := 20) (v := (1 : Int32)) C dX8_takesMark_19 (by decide) rfl ?_
      exact jr_zret C hr hk dX8_takesMark_20 (by decide) h
theorem nX8_takes_8 : ∀ w ∈ wsX80, w ∈ wsX8_takes := fun _ h => List.mem_cons_of_mem _ (List.mem_append_right _ h)
theorem mX8_takes_1 : Cond.fieldLink RX8 40 RX8 (TX8 3).2.1 (TX8 3).2.2.1 ∈ wsX8_takes := List.mem_of_getElem? (i := 1) (by decide +kernel)
theorem mX8_takes_2 : Cond.fieldLink RX8 43 RX8 (TX8 4).2.1 (TX8 4).2.2.1 ∈ wsX8_takes := List.mem_of_getElem? (i := 2) (by decide +kernel)
theorem dsc_X8_takes : yX8_takes.cls ≠ "java/lang/invoke/MethodHandle" ∧ yX8_takes.cls ≠ "java/lang/invoke/VarHandle" ∧ (parseMethodDescriptor yX8_takes.desc).map (fun d => d.parameters.length) = some 1 := by decide +kernel
def pX8_takes_b34 (Po : Int32 → mm_T → Prop) (μ : mm_T) (a1 : Int32) : Prop := ((μ.1 3 0 4) ≤ 0 → Po (0 : Int32) μ) ∧ (¬ ((μ.1 3 0 4) ≤ 0) → pX8_takesMark (fun r2 μ1 => (r2 = 0 → Po (0 : Int32) μ1) ∧ (¬ (r2 = 0) → Po (1 : Int32) μ1)) μ a1)
def pX8_takes (Po : Int32 → mm_T → Prop) (μ : mm_T) (p1 : Int32) : Prop := (¬ (μ.1 3 0 3) = 0 → (p1 < (48 : Int32) → pX8_takes_b34 Po μ p1) ∧ (¬ (p1 < (48 : Int32)) → ((57 : Int32) < p1 → pX8_takes_b34 Po μ p1) ∧ (¬ ((57 : Int32) < p1) → pX8_takesFigure (fun r6 μ5 => (r6 = 0 ∨ r6 = 1) ∧ Po r6 μ5) μ (p1 - (48 : Int32))))) ∧ ((μ.1 3 0 3) = 0 → pX8_takesKind (fun r10 μ9 => (r10 = 0 ∨ r10 = 1) ∧ Po r10 μ9) μ p1)
set_option maxHeartbeats 4000000 in
set_option maxRecDepth 100000 in
theorem kX8_takes (l : Launch) (p1 : Int32) : mm_CI l yX8_takes wsX8_takes ({ frames := 2, cells := 0, slots := 0, locals := 42 }) (fun z => [.ref (z + mm_ad 3 0), .int p1]) (fun μ Po => pX8_takes Po μ p1) := by
  refine je_Z (cc := cX8_takes) (nL := 2) (own := RX8) (plainFor_of_name (by decide)) rfl rfl (fun _ => Nat.le_of_ble_eq_true rfl) ?_
  intro p e s m args below meth c D cy z μ Po C hr hk h
  change jJ p l e ({ frames := 2, cells := 0, slots := 0, locals := 42 }) s m args below meth c D cy z (MQ below (va_Qi Po (mm_Po D cy z) (mm_A z)) args s 0 0 (mm_A z)) 2 μ 0 [(0, .ref (z + mm_ad 3 0)), (1, .int p1)] []
  replace h : pX8_takes Po μ p1 := h
  unfold pX8_takes at h
  refine jr_aload_n (q := 1) C 0 dX8_takes_0 rfl rfl rfl ?_
  refine jr_getI (q := 4) (ci := 8) (Cn := RX8) (T := TX8) (N := 6) (j := 3) C mf_3 rfl rfl (by decide) rfl rfl nX8_takes_8 mX8_takes_1 dX8_takes_1 rfl rfl ?_
  refine jr_if_ne (q := 7) (tgt := 13) C dX8_takes_4 (by decide) rfl (fun c11 => ?_) (fun c11 => ?_)
  · replace h := h.1 c11
    refine jr_iload_n (q := 14) C 1 dX8_takes_13 rfl rfl rfl ?_
    refine jr_bipush (q := 16) (v := (48 : Int32)) C dX8_takes_14 (by decide) rfl ?_
    have b34 : ∀ (μ : mm_T) (a1 : Int32), pX8_takes_b34 Po μ a1 → jJ p l e ({ frames := 2, cells := 0, slots := 0, locals := 42 }) s m args below meth c D cy z (MQ below (va_Qi Po (mm_Po D cy z) (mm_A z)) args s 0 0 (mm_A z)) 2 μ 34 [(0, .ref (z + mm_ad 3 0)), (1, .int a1)] [] := by
      intro μ a1 h
      unfold pX8_takes_b34 at h
      refine jr_aload_n (q := 35) C 0 dX8_takes_34 rfl rfl rfl ?_
      refine jr_getI (q := 38) (ci := 8) (Cn := RX8) (T := TX8) (N := 6) (j := 4) C mf_3 rfl rfl (by decide) rfl rfl nX8_takes_8 mX8_takes_2 dX8_takes_35 rfl rfl ?_
      refine jr_if_le (q := 41) (tgt := 53) C dX8_takes_38 (by decide) rfl (fun c4 => ?_) (fun c4 => ?_)
      · replace h := h.1 c4
        refine jr_iconst (q := 54) (v := (0 : Int32)) C dX8_takes_53 (by decide) rfl ?_
        exact jr_zret C hr hk dX8_takes_54 (by decide) h
      · replace h := h.2 c4
        refine jr_aload_n (q := 42) C 0 dX8_takes_41 rfl rfl rfl ?_
        refine jr_iload_n (q := 43) C 1 dX8_takes_42 rfl rfl rfl ?_
        refine jr_cvI (q := 46) (As := [.int a1]) (rest := []) C (f := 3) (i := 0) (ci := 8) mf_3 rfl rfl rfl (kX8_takesMark l a1) rfl gX8_takes_X8_takesMark rfl dsc_X8_takesMark ⟨rfl, rfl⟩ ⟨by decide, by decide⟩ rfl rfl (Nat.le_of_ble_eq_true rfl) dX8_takes_43 rfl h (fun r2 μ1 h => ?_)
        refine jr_if_eq (q := 49) (tgt := 53) C dX8_takes_46 (by decide) rfl (fun c3 => ?_) (fun c3 => ?_)
        · replace h := h.1 c3
          refine jr_iconst (q := 54) (v := (0 : Int32)) C dX8_takes_53 (by decide) rfl ?_
          exact jr_zret C hr hk dX8_takes_54 (by decide) h
        · replace h := h.2 c3
          refine jr_iconst (q := 50) (v := (1 : Int32)) C dX8_takes_49 (by decide) rfl ?_
          refine jr_goto (tgt := 54) C dX8_takes_50 (by decide) ?_
          exact jr_zret C hr hk dX8_takes_54 (by decide) h
    refine jr_icmp_lt (q := 19) (tgt := 34) C dX8_takes_16 (by decide) rfl (fun c8 => ?_) (fun c8 => ?_)
    · replace h := h.1 c8
      refine jr_sub [0, 1] rfl ?_
      exact b34 _ _ h
    · replace h := h.2 c8
      refine jr_iload_n (q := 20) C 1 dX8_takes_19 rfl rfl rfl ?_
      refine jr_bipush (q := 22) (v := (57 : Int32)) C dX8_takes_20 (by decide) rfl ?_
      refine jr_icmp_gt (q := 25) (tgt := 34) C dX8_takes_22 (by decide) rfl (fun c7 => ?_) (fun c7 => ?_)
      · replace h := h.1 c7
        refine jr_sub [0, 1] rfl ?_
        exact b34 _ _ h
      · replace h := h.2 c7
        refine jr_aload_n (q := 26) C 0 dX8_takes_25 rfl rfl rfl ?_
        refine jr_iload_n (q := 27) C 1 dX8_takes_26 rfl rfl rfl ?_
        refine jr_bipush (q := 29) (v := (48 : Int32)) C dX8_takes_27 (by decide) rfl ?_
        refine jr_isub (q := 30) C dX8_takes_29 rfl ?_
        refine jr_cvI (q := 33) (As := [.int (p1 - (48 : Int32))]) (rest := []) C (f := 3) (i := 0) (ci := 8) mf_3 rfl rfl rfl (kX8_takesFigure l (p1 - (48 : Int32))) rfl gX8_takes_X8_takesFigure rfl dsc_X8_takesFigure ⟨rfl, rfl⟩ ⟨by decide, by decide⟩ rfl rfl (Nat.le_of_ble_eq_true rfl) dX8_takes_30 rfl h (fun r6 μ5 h => ?_)
        exact jr_zret C hr hk dX8_takes_33 h.1 h.2
  · replace h := h.2 c11
    refine jr_aload_n (q := 8) C 0 dX8_takes_7 rfl rfl rfl ?_
    refine jr_iload_n (q := 9) C 1 dX8_takes_8 rfl rfl rfl ?_
    refine jr_cvI (q := 12) (As := [.int p1]) (rest := []) C (f := 3) (i := 0) (ci := 8) mf_3 rfl rfl rfl (kX8_takesKind l p1) rfl gX8_takes_X8_takesKind rfl dsc_X8_takesKind ⟨rfl, rfl⟩ ⟨by decide, by decide⟩ rfl rfl (Nat.le_of_ble_eq_true rfl) dX8_takes_9 rfl h (fun r10 μ9 h => ?_)
    exact jr_zret C hr hk dX8_takes_12 h.1 h.2
theorem nX8_read_8 : ∀ w ∈ wsX80, w ∈ wsX8_read := fun _ h => List.mem_cons_of_mem _ (List.mem_append_left _ (List.mem_append_right _ h))
theorem mX8_read_1 : Cond.fieldLink RX8 16 RX8 (TX8 1).2.1 (TX8 1).2.2.1 ∈ wsX8_read := List.mem_of_getElem? (i := 1) (by decide +kernel)
theorem mX8_read_2 : Cond.fieldLink RX8 20 RX8 (TX8 2).2.1 (TX8 2).2.2.1 ∈ wsX8_read := List.mem_of_getElem? (i := 2) (by decide +kernel)
theorem nX8_read_6 : ∀ w ∈ wsX60, w ∈ wsX8_read := fun _ h => List.mem_cons_of_mem _ (List.mem_append_right _ h)
theorem mX8_read_4 : Cond.fieldLink RX8 27 RX6 (TX6 1).2.1 (TX6 1).2.2.1 ∈ wsX8_read := List.mem_of_getElem? (i := 3) (by decide +kernel)
theorem mX8_read_5 : Cond.fieldLink RX8 32 RX6 (TX6 0).2.1 (TX6 0).2.2.1 ∈ wsX8_read := List.mem_of_getElem? (i := 4) (by decide +kernel)
theorem dsc_X8_read : yX8_read.cls ≠ "java/lang/invoke/MethodHandle" ∧ yX8_read.cls ≠ "java/lang/invoke/VarHandle" ∧ (parseMethodDescriptor yX8_read.desc).map (fun d => d.parameters.length) = some 1 := by decide +kernel
def pX8_read_l17 (Po : Int32 → mm_T → Prop) (E17_38 : mm_T → Int32 → Prop) (E17_46 : mm_T → Prop) (K17 : mm_T → Int32 → Prop) (μ : mm_T) (a2 : Int32) : Prop := ((μ.1 1 0 1) ≤ a2 → E17_46 μ) ∧ (¬ ((μ.1 1 0 1) ≤ a2) → (vp_in a2 110) ∧ (pX8_takes (fun r6 μ5 => (¬ r6 = 0 → K17 μ5 (a2 + (1 : Int32))) ∧ (r6 = 0 → E17_38 μ5 a2)) μ (μ.1 2 0 a2.toNatClampNeg)))
def pX8_read (Po : Int32 → mm_T → Prop) (μ : mm_T) : Prop := ∀ μ1 : mm_T, μ1 = mm_I μ 3 0 1 (0 : Int32) → (∀ μ2 : mm_T, μ2 = mm_I μ1 3 0 2 (0 : Int32) → (pX8_begin (fun μ3 => lp_ (fun (K9 : mm_T × Int32 → Prop) (t9 : mm_T × Int32) => pX8_read_l17 Po (fun μ c2 => Po c2 μ) (fun μ => Po (μ.1 1 0 1) μ) (fun μ a2 => K9 (μ, a2)) t9.1 t9.2) (μ3, (0 : Int32))) μ2 (0 : Int32)))
set_option maxHeartbeats 4000000 in
set_option maxRecDepth 100000 in
theorem kX8_read (l : Launch) : mm_CI l yX8_read wsX8_read ({ frames := 3, cells := 0, slots := 0, locals := 63 }) (fun z => [.ref (z + mm_ad 3 0), .ref (z + mm_ad 1 0)]) (fun μ Po => pX8_read Po μ) := by
  refine je_I (cc := cX8_read) (nL := 3) (own := RX8) (plainFor_of_name (by decide)) rfl rfl (fun _ => Nat.le_of_ble_eq_true rfl) ?_
  intro p e s m args below meth c D cy z μ Po C hr hk h
  change jJ p l e ({ frames := 3, cells := 0, slots := 0, locals := 63 }) s m args below meth c D cy z (MQ below (va_Qi Po (mm_Po D cy z) (mm_A z)) args s 0 0 (mm_A z)) 3 μ 0 [(0, .ref (z + mm_ad 3 0)), (1, .ref (z + mm_ad 1 0))] []
  replace h : pX8_read Po μ := h
  unfold pX8_read at h
  refine jr_aload_n (q := 1) C 0 dX8_read_0 rfl rfl rfl ?_
  refine jr_iconst (q := 2) (v := (0 : Int32)) C dX8_read_1 (by decide) rfl ?_
  refine jr_putI (q := 5) (ci := 8) (Cn := RX8) (T := TX8) (N := 6) (j := 1) C mf_3 rfl rfl (by decide) rfl rfl tyX8 tyX8_ok nmX8 rfl (by decide +kernel) nX8_read_8 mX8_read_1 dX8_read_2 rfl rfl ?_
  refine jn_mem (fun μ1 eμ1 => ?_)
  replace h := h μ1 eμ1
  refine jr_aload_n (q := 6) C 0 dX8_read_5 rfl rfl rfl ?_
  refine jr_iconst (q := 7) (v := (0 : Int32)) C dX8_read_6 (by decide) rfl ?_
  refine jr_putI (q := 10) (ci := 8) (Cn := RX8) (T := TX8) (N := 6) (j := 2) C mf_3 rfl rfl (by decide) rfl rfl tyX8 tyX8_ok nmX8 rfl (by decide +kernel) nX8_read_8 mX8_read_2 dX8_read_7 rfl rfl ?_
  refine jn_mem (fun μ2 eμ2 => ?_)
  replace h := h μ2 eμ2
  refine jr_aload_n (q := 11) C 0 dX8_read_10 rfl rfl rfl ?_
  refine jr_iconst (q := 12) (v := (0 : Int32)) C dX8_read_11 (by decide) rfl ?_
  refine jr_cvV (q := 15) (As := [.int (0 : Int32)]) (rest := []) C (f := 3) (i := 0) (ci := 8) mf_3 rfl rfl rfl (kX8_begin l (0 : Int32)) rfl gX8_read_X8_begin rfl dsc_X8_begin ⟨rfl, rfl⟩ ⟨by decide, by decide⟩ rfl rfl (Nat.le_of_ble_eq_true rfl) dX8_read_12 rfl h (fun μ3 h => ?_)
  refine jr_iconst (q := 16) (v := (0 : Int32)) C dX8_read_15 (by decide) rfl ?_
  refine jr_istore_n (q := 17) (lv' := [(2, .int (0 : Int32)), (0, .ref (z + mm_ad 3 0)), (1, .ref (z + mm_ad 1 0))]) C dX8_read_16 rfl (by decide) rfl rfl ?_
  have l17 : ∀ (E17_38 : mm_T → Int32 → Prop) (hE17_38 : ∀ (μ : mm_T) (c2 : Int32), E17_38 μ c2 → jJ p l e ({ frames := 3, cells := 0, slots := 0, locals := 63 }) s m args below meth c D cy z (MQ below (va_Qi Po (mm_Po D cy z) (mm_A z)) args s 0 0 (mm_A z)) 3 μ 38 [(2, .int c2)] []), ∀ (E17_46 : mm_T → Prop) (hE17_46 : ∀ (μ : mm_T), E17_46 μ → jJ p l e ({ frames := 3, cells := 0, slots := 0, locals := 63 }) s m args below meth c D cy z (MQ below (va_Qi Po (mm_Po D cy z) (mm_A z)) args s 0 0 (mm_A z)) 3 μ 46 [(1, .ref (z + mm_ad 1 0))] []), ∀ t9 : mm_T × Int32, lp_ (fun (K9 : mm_T × Int32 → Prop) (t9 : mm_T × Int32) => pX8_read_l17 Po E17_38 E17_46 (fun μ a2 => K9 (μ, a2)) t9.1 t9.2) t9 → jJ p l e ({ frames := 3, cells := 0, slots := 0, locals := 63 }) s m args below meth c D cy z (MQ below (va_Qi Po (mm_Po D cy z) (mm_A z)) args s 0 0 (mm_A z)) 3 t9.1 17 [(0, .ref (z + mm_ad 3 0)), (1, .ref (z + mm_ad 1 0)), (2, .int t9.2)] [] := by
    intro E17_38 hE17_38 E17_46 hE17_46 t9 h
    refine lp_go (P := fun t9 : mm_T × Int32 => jJ p l e ({ frames := 3, cells := 0, slots := 0, locals := 63 }) s m args below meth c D cy z (MQ below (va_Qi Po (mm_Po D cy z) (mm_A z)) args s 0 0 (mm_A z)) 3 t9.1 17 [(0, .ref (z + mm_ad 3 0)), (1, .ref (z + mm_ad 1 0)), (2, .int t9.2)] []) (fun K9 t9 hK h => ?_) t9 h
    obtain ⟨μ, a2⟩ := t9
    obtain ⟨K17, eK17⟩ : ∃ K : mm_T → Int32 → Prop, K = (fun μ a2 => K9 (μ, a2)) := ⟨_, rfl⟩
    have hK17 : ∀ (μ : mm_T) (a2 : Int32), K17 μ a2 → jJ p l e ({ frames := 3, cells := 0, slots := 0, locals := 63 }) s m args below meth c D cy z (MQ below (va_Qi Po (mm_Po D cy z) (mm_A z)) args s 0 0 (mm_A z)) 3 μ 17 [(0, .ref (z + mm_ad 3 0)), (1, .ref (z + mm_ad 1 0)), (2, .int a2)] [] := fun μ a2 h9 => hK (μ, a2) (by rw [eK17] at h9; exact h9)
    replace h : pX8_read_l17 Po E17_38 E17_46 K17 μ a2 := by rw [eK17]; exact h
    unfold pX8_read_l17 at h
    refine jr_iload_n (q := 18) C 2 dX8_read_17 rfl rfl rfl ?_
    refine jr_aload_n (q := 19) C 1 dX8_read_18 rfl rfl rfl ?_
    refine jr_getI (q := 22) (ci := 6) (Cn := RX6) (T := TX6) (N := 2) (j := 1) C mf_1 rfl rfl (by decide) rfl rfl nX8_read_6 mX8_read_4 dX8_read_19 rfl rfl ?_
    refine jr_icmp_ge (q := 25) (tgt := 46) C dX8_read_22 (by decide) rfl (fun c8 => ?_) (fun c8 => ?_)
    · replace h := h.1 c8
      refine jr_sub [1] rfl ?_
      exact hE17_46 _ h
    · replace h := h.2 c8
      refine jr_aload_n (q := 26) C 0 dX8_read_25 rfl rfl rfl ?_
      refine jr_aload_n (q := 27) C 1 dX8_read_26 rfl rfl rfl ?_
      refine jr_getR (q := 30) (ci := 6) (Cn := RX6) (T := TX6) (N := 2) (j := 0) C mf_1 rfl rfl (by decide) rfl 2 0 rfl rfl rfl nX8_read_6 mX8_read_5 dX8_read_27 rfl rfl ?_
      refine jr_iload_n (q := 31) C 2 dX8_read_30 rfl rfl rfl ?_
      obtain ⟨g4, h⟩ := h
      refine jr_iald (q := 32) C mf_2 rfl g4 dX8_read_31 rfl ?_
      refine jr_cvI (q := 35) (As := [.int (μ.1 2 0 a2.toNatClampNeg)]) (rest := []) C (f := 3) (i := 0) (ci := 8) mf_3 rfl rfl rfl (kX8_takes l (μ.1 2 0 a2.toNatClampNeg)) rfl gX8_read_X8_takes rfl dsc_X8_takes ⟨rfl, rfl⟩ ⟨by decide, by decide⟩ rfl rfl (Nat.le_of_ble_eq_true rfl) dX8_read_32 rfl h (fun r6 μ5 h => ?_)
      refine jr_if_ne (q := 38) (tgt := 40) C dX8_read_35 (by decide) rfl (fun c7 => ?_) (fun c7 => ?_)
      · replace h := h.1 c7
        refine jr_iinc (q := 43) (lv' := [(2, .int (a2 + (1 : Int32))), (0, .ref (z + mm_ad 3 0)), (1, .ref (z + mm_ad 1 0))]) C 2 dX8_read_40 rfl (by rfl) (by decide) rfl rfl ?_
        refine jr_goto (tgt := 17) C dX8_read_43 (by decide) ?_
        refine jr_sub [1, 2, 0] rfl ?_
        exact hK17 _ _ h
      · replace h := h.2 c7
        refine jr_sub [2] rfl ?_
        exact hE17_38 _ _ h
  have x17_38 : ∀ (μ : mm_T) (c2 : Int32), (Po c2 μ) → jJ p l e ({ frames := 3, cells := 0, slots := 0, locals := 63 }) s m args below meth c D cy z (MQ below (va_Qi Po (mm_Po D cy z) (mm_A z)) args s 0 0 (mm_A z)) 3 μ 38 [(2, .int c2)] [] := by
    intro μ c2 h
    refine jr_iload_n (q := 39) C 0 dX8_read_38 rfl rfl rfl ?_
    exact jr_iret C hr hk dX8_read_39 h
  have x17_46 : ∀ (μ : mm_T), (Po (μ.1 1 0 1) μ) → jJ p l e ({ frames := 3, cells := 0, slots := 0, locals := 63 }) s m args below meth c D cy z (MQ below (va_Qi Po (mm_Po D cy z) (mm_A z)) args s 0 0 (mm_A z)) 3 μ 46 [(1, .ref (z + mm_ad 1 0))] [] := by
    intro μ h
    refine jr_aload_n (q := 47) C 0 dX8_read_46 rfl rfl rfl ?_
    refine jr_getI (q := 50) (ci := 6) (Cn := RX6) (T := TX6) (N := 2) (j := 1) C mf_1 rfl rfl (by decide) rfl rfl nX8_read_6 mX8_read_4 dX8_read_47 rfl rfl ?_
    exact jr_iret C hr hk dX8_read_50 h
  refine jr_sub [1, 2, 0] rfl ?_
  exact l17 _ x17_38 _ x17_46 _ h
theorem nX8_hasWholeField_8 : ∀ w ∈ wsX80, w ∈ wsX8_hasWholeField := fun _ h => List.mem_cons_of_mem _ (List.mem_append_right _ h)
theorem mX8_hasWholeField_1 : Cond.fieldLink RX8 40 RX8 (TX8 3).2.1 (TX8 3).2.2.1 ∈ wsX8_hasWholeField := List.mem_of_getElem? (i := 1) (by decide +kernel)
theorem mX8_hasWholeField_2 : Cond.fieldLink RX8 43 RX8 (TX8 4).2.1 (TX8 4).2.2.1 ∈ wsX8_hasWholeField := List.mem_of_getElem? (i := 2) (by decide +kernel)
theorem mX8_hasWholeField_3 : Cond.fieldLink RX8 20 RX8 (TX8 2).2.1 (TX8 2).2.2.1 ∈ wsX8_hasWholeField := List.mem_of_getElem? (i := 3) (by decide +kernel)
theorem dsc_X8_hasWholeField : yX8_hasWholeField.cls ≠ "java/lang/invoke/MethodHandle" ∧ yX8_hasWholeField.cls ≠ "java/lang/invoke/VarHandle" ∧ (parseMethodDescriptor yX8_hasWholeField.desc).map (fun d => d.parameters.length) = some 0 := by decide +kernel
def pX8_hasWholeField (Po : Int32 → mm_T → Prop) (μ : mm_T) : Prop := (¬ (μ.1 3 0 3) = (4 : Int32) → Po (0 : Int32) μ) ∧ ((μ.1 3 0 3) = (4 : Int32) → ((μ.1 3 0 4) ≤ 0 → Po (0 : Int32) μ) ∧ (¬ ((μ.1 3 0 4) ≤ 0) → ((μ.1 3 0 2) ≤ 0 → Po (0 : Int32) μ) ∧ (¬ ((μ.1 3 0 2) ≤ 0) → pX8_nodeCount (fun r2 μ1 => (r2 ≤ (μ.1 3 0 2) → Po (0 : Int32) μ1) ∧ (¬ (r2 ≤ (μ.1 3 0 2)) → Po (1 : Int32) μ1)) μ )))
set_option maxHeartbeats 4000000 in
set_option maxRecDepth 100000 in
theorem kX8_hasWholeField (l : Launch) : mm_CI l yX8_hasWholeField wsX8_hasWholeField ({ frames := 1, cells := 0, slots := 0, locals := 20 }) (fun z => [.ref (z + mm_ad 3 0)]) (fun μ Po => pX8_hasWholeField Po μ) := by
  refine je_Z (cc := cX8_hasWholeField) (nL := 1) (own := RX8) (plainFor_of_name (by decide)) rfl rfl (fun _ => Nat.le_of_ble_eq_true rfl) ?_
  intro p e s m args below meth c D cy z μ Po C hr hk h
  change jJ p l e ({ frames := 1, cells := 0, slots := 0, locals := 20 }) s m args below meth c D cy z (MQ below (va_Qi Po (mm_Po D cy z) (mm_A z)) args s 0 0 (mm_A z)) 1 μ 0 [(0, .ref (z + mm_ad 3 0))] []
  replace h : pX8_hasWholeField Po μ := h
  unfold pX8_hasWholeField at h
  refine jr_aload_n (q := 1) C 0 dX8_hasWholeField_0 rfl rfl rfl ?_
  refine jr_getI (q := 4) (ci := 8) (Cn := RX8) (T := TX8) (N := 6) (j := 3) C mf_3 rfl rfl (by decide) rfl rfl nX8_hasWholeField_8 mX8_hasWholeField_1 dX8_hasWholeField_1 rfl rfl ?_
  refine jr_iconst (q := 5) (v := (4 : Int32)) C dX8_hasWholeField_4 (by decide) rfl ?_
  refine jr_icmp_ne (q := 8) (tgt := 37) C dX8_hasWholeField_5 (by decide) rfl (fun c6 => ?_) (fun c6 => ?_)
  · replace h := h.1 c6
    refine jr_iconst (q := 38) (v := (0 : Int32)) C dX8_hasWholeField_37 (by decide) rfl ?_
    exact jr_zret C hr hk dX8_hasWholeField_38 (by decide) h
  · replace h := h.2 c6
    refine jr_aload_n (q := 9) C 0 dX8_hasWholeField_8 rfl rfl rfl ?_
    refine jr_getI (q := 12) (ci := 8) (Cn := RX8) (T := TX8) (N := 6) (j := 4) C mf_3 rfl rfl (by decide) rfl rfl nX8_hasWholeField_8 mX8_hasWholeField_2 dX8_hasWholeField_9 rfl rfl ?_
    refine jr_if_le (q := 15) (tgt := 37) C dX8_hasWholeField_12 (by decide) rfl (fun c5 => ?_) (fun c5 => ?_)
    · replace h := h.1 c5
      refine jr_iconst (q := 38) (v := (0 : Int32)) C dX8_hasWholeField_37 (by decide) rfl ?_
      exact jr_zret C hr hk dX8_hasWholeField_38 (by decide) h
    · replace h := h.2 c5
      refine jr_aload_n (q := 16) C 0 dX8_hasWholeField_15 rfl rfl rfl ?_
      refine jr_getI (q := 19) (ci := 8) (Cn := RX8) (T := TX8) (N := 6) (j := 2) C mf_3 rfl rfl (by decide) rfl rfl nX8_hasWholeField_8 mX8_hasWholeField_3 dX8_hasWholeField_16 rfl rfl ?_
      refine jr_if_le (q := 22) (tgt := 37) C dX8_hasWholeField_19 (by decide) rfl (fun c4 => ?_) (fun c4 => ?_)
      · replace h := h.1 c4
        refine jr_iconst (q := 38) (v := (0 : Int32)) C dX8_hasWholeField_37 (by decide) rfl ?_
        exact jr_zret C hr hk dX8_hasWholeField_38 (by decide) h
      · replace h := h.2 c4
        refine jr_aload_n (q := 23) C 0 dX8_hasWholeField_22 rfl rfl rfl ?_
        refine jr_getI (q := 26) (ci := 8) (Cn := RX8) (T := TX8) (N := 6) (j := 2) C mf_3 rfl rfl (by decide) rfl rfl nX8_hasWholeField_8 mX8_hasWholeField_3 dX8_hasWholeField_23 rfl rfl ?_
        refine jr_aload_n (q := 27) C 0 dX8_hasWholeField_26 rfl rfl rfl ?_
        refine jr_cvI (q := 30) (As := []) (rest := [.int (μ.1 3 0 2)]) C (f := 3) (i := 0) (ci := 8) mf_3 rfl rfl rfl (kX8_nodeCount l) rfl gX8_hasWholeField_X8_nodeCount rfl dsc_X8_nodeCount ⟨rfl, rfl⟩ ⟨by decide, by decide⟩ rfl rfl (Nat.le_of_ble_eq_true rfl) dX8_hasWholeField_27 rfl h (fun r2 μ1 h => ?_)
        refine jr_icmp_ge (q := 33) (tgt := 37) C dX8_hasWholeField_30 (by decide) rfl (fun c3 => ?_) (fun c3 => ?_)
        · replace h := h.1 c3
          refine jr_iconst (q := 38) (v := (0 : Int32)) C dX8_hasWholeField_37 (by decide) rfl ?_
          exact jr_zret C hr hk dX8_hasWholeField_38 (by decide) h
        · replace h := h.2 c3
          refine jr_iconst (q := 34) (v := (1 : Int32)) C dX8_hasWholeField_33 (by decide) rfl ?_
          refine jr_goto (tgt := 38) C dX8_hasWholeField_34 (by decide) ?_
          exact jr_zret C hr hk dX8_hasWholeField_38 (by decide) h
theorem nX9_takenCount_9 : ∀ w ∈ wsX90, w ∈ wsX9_takenCount := fun _ h => List.mem_cons_of_mem _ (List.mem_append_right _ h)
theorem mX9_takenCount_1 : Cond.fieldLink RX9 9 RX9 (TX9 0).2.1 (TX9 0).2.2.1 ∈ wsX9_takenCount := List.mem_of_getElem? (i := 1) (by decide +kernel)
theorem dsc_X9_takenCount : yX9_takenCount.cls ≠ "java/lang/invoke/MethodHandle" ∧ yX9_takenCount.cls ≠ "java/lang/invoke/VarHandle" ∧ (parseMethodDescriptor yX9_takenCount.desc).map (fun d => d.parameters.length) = some 0 := by decide +kernel
def pX9_takenCount_l4 (Po : Int32 → mm_T → Prop) (E4_29 : mm_T → Int32 → Prop) (K4 : mm_T → Int32 → Int32 → Prop) (μ : mm_T) (a1 : Int32) (a2 : Int32) : Prop := ((16 : Int32) ≤ a2 → E4_29 μ a1) ∧ (¬ ((16 : Int32) ≤ a2) → (vp_in a2 16) ∧ (((μ.1 18 0 a2.toNatClampNeg) = (-1 : Int32) → K4 μ a1 (a2 + (1 : Int32))) ∧ (¬ ((μ.1 18 0 a2.toNatClampNeg) = (-1 : Int32)) → K4 μ (a1 + (1 : Int32)) (a2 + (1 : Int32)))))
def pX9_takenCount (Po : Int32 → mm_T → Prop) (μ : mm_T) : Prop := lp_ (fun (K9 : mm_T × Int32 × Int32 → Prop) (t9 : mm_T × Int32 × Int32) => pX9_takenCount_l4 Po (fun μ c1 => Po c1 μ) (fun μ a1 a2 => K9 (μ, a1, a2)) t9.1 t9.2.1 t9.2.2) (μ, (0 : Int32), (0 : Int32))
set_option maxHeartbeats 4000000 in
set_option maxRecDepth 100000 in
theorem kX9_takenCount (l : Launch) : mm_CI l yX9_takenCount wsX9_takenCount ({ frames := 0, cells := 0, slots := 0, locals := 0 }) (fun z => [.ref (z + mm_ad 17 0)]) (fun μ Po => pX9_takenCount Po μ) := by
  refine je_I (cc := cX9_takenCount) (nL := 3) (own := RX9) (plainFor_of_name (by decide)) rfl rfl (fun _ => Nat.le_of_ble_eq_true rfl) ?_
  intro p e s m args below meth c D cy z μ Po C hr hk h
  change jJ p l e ({ frames := 0, cells := 0, slots := 0, locals := 0 }) s m args below meth c D cy z (MQ below (va_Qi Po (mm_Po D cy z) (mm_A z)) args s 0 0 (mm_A z)) 3 μ 0 [(0, .ref (z + mm_ad 17 0))] []
  replace h : pX9_takenCount Po μ := h
  unfold pX9_takenCount at h
  refine jr_iconst (q := 1) (v := (0 : Int32)) C dX9_takenCount_0 (by decide) rfl ?_
  refine jr_istore_n (q := 2) (lv' := [(1, .int (0 : Int32)), (0, .ref (z + mm_ad 17 0))]) C dX9_takenCount_1 rfl (by decide) rfl rfl ?_
  refine jr_iconst (q := 3) (v := (0 : Int32)) C dX9_takenCount_2 (by decide) rfl ?_
  refine jr_istore_n (q := 4) (lv' := [(2, .int (0 : Int32)), (1, .int (0 : Int32)), (0, .ref (z + mm_ad 17 0))]) C dX9_takenCount_3 rfl (by decide) rfl rfl ?_
  have l4 : ∀ (E4_29 : mm_T → Int32 → Prop) (hE4_29 : ∀ (μ : mm_T) (c1 : Int32), E4_29 μ c1 → jJ p l e ({ frames := 0, cells := 0, slots := 0, locals := 0 }) s m args below meth c D cy z (MQ below (va_Qi Po (mm_Po D cy z) (mm_A z)) args s 0 0 (mm_A z)) 3 μ 29 [(1, .int c1)] []), ∀ t9 : mm_T × Int32 × Int32, lp_ (fun (K9 : mm_T × Int32 × Int32 → Prop) (t9 : mm_T × Int32 × Int32) => pX9_takenCount_l4 Po E4_29 (fun μ a1 a2 => K9 (μ, a1, a2)) t9.1 t9.2.1 t9.2.2) t9 → jJ p l e ({ frames := 0, cells := 0, slots := 0, locals := 0 }) s m args below meth c D cy z (MQ below (va_Qi Po (mm_Po D cy z) (mm_A z)) args s 0 0 (mm_A z)) 3 t9.1 4 [(0, .ref (z + mm_ad 17 0)), (1, .int t9.2.1), (2, .int t9.2.2)] [] := by
    intro E4_29 hE4_29 t9 h
    refine lp_go (P := fun t9 : mm_T × Int32 × Int32 => jJ p l e ({ frames := 0, cells := 0, slots := 0, locals := 0 }) s m args below meth c D cy z (MQ below (va_Qi Po (mm_Po D cy z) (mm_A z)) args s 0 0 (mm_A z)) 3 t9.1 4 [(0, .ref (z + mm_ad 17 0)), (1, .int t9.2.1), (2, .int t9.2.2)] []) (fun K9 t9 hK h => ?_) t9 h
    obtain ⟨μ, a1, a2⟩ := t9
    obtain ⟨K4, eK4⟩ : ∃ K : mm_T → Int32 → Int32 → Prop, K = (fun μ a1 a2 => K9 (μ, a1, a2)) := ⟨_, rfl⟩
    have hK4 : ∀ (μ : mm_T) (a1 : Int32) (a2 : Int32), K4 μ a1 a2 → jJ p l e ({ frames := 0, cells := 0, slots := 0, locals := 0 }) s m args below meth c D cy z (MQ below (va_Qi Po (mm_Po D cy z) (mm_A z)) args s 0 0 (mm_A z)) 3 μ 4 [(0, .ref (z + mm_ad 17 0)), (1, .int a1), (2, .int a2)] [] := fun μ a1 a2 h9 => hK (μ, a1, a2) (by rw [eK4] at h9; exact h9)
    replace h : pX9_takenCount_l4 Po E4_29 K4 μ a1 a2 := by rw [eK4]; exact h
    unfold pX9_takenCount_l4 at h
    refine jr_iload_n (q := 5) C 2 dX9_takenCount_4 rfl rfl rfl ?_
    refine jr_bipush (q := 7) (v := (16 : Int32)) C dX9_takenCount_5 (by decide) rfl ?_
    refine jr_icmp_ge (q := 10) (tgt := 29) C dX9_takenCount_7 (by decide) rfl (fun c3 => ?_) (fun c3 => ?_)
    · replace h := h.1 c3
      refine jr_sub [1] rfl ?_
      exact hE4_29 _ _ h
    · replace h := h.2 c3
      refine jr_aload_n (q := 11) C 0 dX9_takenCount_10 rfl rfl rfl ?_
      refine jr_getR (q := 14) (ci := 9) (Cn := RX9) (T := TX9) (N := 1) (j := 0) C mf_17 rfl rfl (by decide) rfl 18 0 rfl rfl rfl nX9_takenCount_9 mX9_takenCount_1 dX9_takenCount_11 rfl rfl ?_
      refine jr_iload_n (q := 15) C 2 dX9_takenCount_14 rfl rfl rfl ?_
      obtain ⟨g1, h⟩ := h
      refine jr_iald (q := 16) C mf_18 rfl g1 dX9_takenCount_15 rfl ?_
      refine jr_iconst (q := 17) (v := (-1 : Int32)) C dX9_takenCount_16 (by decide) rfl ?_
      refine jr_icmp_eq (q := 20) (tgt := 23) C dX9_takenCount_17 (by decide) rfl (fun c2 => ?_) (fun c2 => ?_)
      · replace h := h.1 c2
        refine jr_iinc (q := 26) (lv' := [(2, .int (a2 + (1 : Int32))), (0, .ref (z + mm_ad 17 0)), (1, .int a1)]) C 2 dX9_takenCount_23 rfl (by rfl) (by decide) rfl rfl ?_
        refine jr_goto (tgt := 4) C dX9_takenCount_26 (by decide) ?_
        refine jr_sub [1, 2, 0] rfl ?_
        exact hK4 _ _ _ h
      · replace h := h.2 c2
        refine jr_iinc (q := 23) (lv' := [(1, .int (a1 + (1 : Int32))), (0, .ref (z + mm_ad 17 0)), (2, .int a2)]) C 1 dX9_takenCount_20 rfl (by rfl) (by decide) rfl rfl ?_
        refine jr_iinc (q := 26) (lv' := [(2, .int (a2 + (1 : Int32))), (1, .int (a1 + (1 : Int32))), (0, .ref (z + mm_ad 17 0))]) C 2 dX9_takenCount_23 rfl (by rfl) (by decide) rfl rfl ?_
        refine jr_goto (tgt := 4) C dX9_takenCount_26 (by decide) ?_
        refine jr_sub [2, 1, 0] rfl ?_
        exact hK4 _ _ _ h
  have x4_29 : ∀ (μ : mm_T) (c1 : Int32), (Po c1 μ) → jJ p l e ({ frames := 0, cells := 0, slots := 0, locals := 0 }) s m args below meth c D cy z (MQ below (va_Qi Po (mm_Po D cy z) (mm_A z)) args s 0 0 (mm_A z)) 3 μ 29 [(1, .int c1)] [] := by
    intro μ c1 h
    refine jr_iload_n (q := 30) C 0 dX9_takenCount_29 rfl rfl rfl ?_
    exact jr_iret C hr hk dX9_takenCount_30 h
  refine jr_sub [2, 1, 0] rfl ?_
  exact l4 _ x4_29 _ h
