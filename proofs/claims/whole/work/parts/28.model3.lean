theorem nX11_limit_11 : ∀ w ∈ wsX110, w ∈ wsX11_limit := fun _ h => List.mem_cons_of_mem _ (List.mem_append_right _ h)
theorem mX11_limit_1 : Cond.fieldLink RX11 146 RX11 (TX11 19).2.1 (TX11 19).2.2.1 ∈ wsX11_limit := List.mem_of_getElem? (i := 3) (by decide +kernel)
theorem mX11_limit_2 : Cond.constant RX11 81 (-1000002) ∈ wsX11_limit := List.mem_of_getElem? (i := 2) (by decide +kernel)
theorem mX11_limit_3 : Cond.constant RX11 152 (-1000003) ∈ wsX11_limit := List.mem_of_getElem? (i := 1) (by decide +kernel)
theorem dsc_X11_limit : yX11_limit.cls ≠ "java/lang/invoke/MethodHandle" ∧ yX11_limit.cls ≠ "java/lang/invoke/VarHandle" ∧ (parseMethodDescriptor yX11_limit.desc).map (fun d => d.parameters.length) = some 1 := by decide +kernel
def pX11_limit (Po : Int32 → mm_T → Prop) (μ : mm_T) (p1 : Int32) : Prop := pX11_isField (fun r2 μ1 => (¬ r2 = 0 → pX11_within (fun r4 μ3 => (¬ r4 = 0 → ∀ x5 : Int32, x5 = μ3.1 26 0 19 → (∀ μ6 : mm_T, μ6 = mm_I μ3 26 0 19 p1 → (Po x5 μ6))) ∧ (r4 = 0 → Po (-1000002 : Int32) μ3)) μ1 p1 (0 : Int32) (9999 : Int32)) ∧ (r2 = 0 → Po (-1000003 : Int32) μ1)) μ 
set_option maxHeartbeats 4000000 in
set_option maxRecDepth 100000 in
theorem kX11_limit (l : Launch) (p1 : Int32) : mm_CI l yX11_limit wsX11_limit ({ frames := 1, cells := 0, slots := 0, locals := 22 }) (fun z => [.ref (z + mm_ad 26 0), .int p1]) (fun μ Po => pX11_limit Po μ p1) := by
  refine je_I (cc := cX11_limit) (nL := 3) (own := RX11) (plainFor_of_name (by decide)) rfl rfl (fun _ => Nat.le_of_ble_eq_true rfl) ?_
  intro p e s m args below meth c D cy z μ Po C hr hk h
  change jJ p l e ({ frames := 1, cells := 0, slots := 0, locals := 22 }) s m args below meth c D cy z (MQ below (va_Qi Po (mm_Po D cy z) (mm_A z)) args s 0 0 (mm_A z)) 3 μ 0 [(0, .ref (z + mm_ad 26 0)), (1, .int p1)] []
  replace h : pX11_limit Po μ p1 := h
  unfold pX11_limit at h
  refine jr_aload_n (q := 1) C 0 dX11_limit_0 rfl rfl rfl ?_
  refine jr_cvI (q := 4) (As := []) (rest := []) C (f := 26) (i := 0) (ci := 11) mf_26 rfl rfl rfl (kX11_isField l) rfl gX11_limit_X11_isField rfl dsc_X11_isField ⟨rfl, rfl⟩ ⟨by decide, by decide⟩ rfl rfl (Nat.le_of_ble_eq_true rfl) dX11_limit_1 rfl h (fun r2 μ1 h => ?_)
  refine jr_if_ne (q := 7) (tgt := 10) C dX11_limit_4 (by decide) rfl (fun c8 => ?_) (fun c8 => ?_)
  · replace h := h.1 c8
    refine jr_iload_n (q := 11) C 1 dX11_limit_10 rfl rfl rfl ?_
    refine jr_iconst (q := 12) (v := (0 : Int32)) C dX11_limit_11 (by decide) rfl ?_
    refine jr_sipush (q := 15) (v := (9999 : Int32)) C dX11_limit_12 (by decide) rfl ?_
    refine jr_csI (q := 18) (As := [.int p1, .int (0 : Int32), .int (9999 : Int32)]) (rest := []) C  (kX11_within l p1 (0 : Int32) (9999 : Int32)) rfl gX11_limit_X11_within rfl dsc_X11_within ⟨rfl, rfl⟩ ⟨by decide, by decide⟩ rfl rfl (Nat.le_of_ble_eq_true rfl) dX11_limit_15 rfl h (fun r4 μ3 h => ?_)
    refine jr_if_ne (q := 21) (tgt := 24) C dX11_limit_18 (by decide) rfl (fun c7 => ?_) (fun c7 => ?_)
    · replace h := h.1 c7
      refine jr_aload_n (q := 25) C 0 dX11_limit_24 rfl rfl rfl ?_
      refine jr_getI (q := 28) (ci := 11) (Cn := RX11) (T := TX11) (N := 42) (j := 19) C mf_26 rfl rfl (by decide) rfl rfl nX11_limit_11 mX11_limit_1 dX11_limit_25 rfl rfl ?_
      refine jn_int (fun x5 ex5 => ?_)
      replace h := h x5 ex5
      refine jr_istore_n (q := 29) (lv' := [(2, .int x5), (0, .ref (z + mm_ad 26 0)), (1, .int p1)]) C dX11_limit_28 rfl (by decide) rfl rfl ?_
      refine jr_aload_n (q := 30) C 1 dX11_limit_29 rfl rfl rfl ?_
      refine jr_iload_n (q := 31) C 2 dX11_limit_30 rfl rfl rfl ?_
      refine jr_putI (q := 34) (ci := 11) (Cn := RX11) (T := TX11) (N := 42) (j := 19) C mf_26 rfl rfl (by decide) rfl rfl tyX11 tyX11_ok nmX11 rfl (by decide +kernel) nX11_limit_11 mX11_limit_1 dX11_limit_31 rfl rfl ?_
      refine jn_mem (fun μ6 eμ6 => ?_)
      replace h := h μ6 eμ6
      refine jr_iload_n (q := 35) C 0 dX11_limit_34 rfl rfl rfl ?_
      exact jr_iret C hr hk dX11_limit_35 h
    · replace h := h.2 c7
      refine jr_ldc (q := 23) (v := (-1000002 : Int32)) C dX11_limit_21 mX11_limit_2 rfl ?_
      exact jr_iret C hr hk dX11_limit_23 h
  · replace h := h.2 c8
    refine jr_ldc (q := 9) (v := (-1000003 : Int32)) C dX11_limit_7 mX11_limit_3 rfl ?_
    exact jr_iret C hr hk dX11_limit_9 h
theorem mX11_want_0 : Cond.constant RX11 178 (-1000001) ∈ wsX11_want := List.mem_of_getElem? (i := 2) (by decide +kernel)
theorem nX11_want_11 : ∀ w ∈ wsX110, w ∈ wsX11_want := fun _ h => List.mem_cons_of_mem _ (List.mem_append_right _ h)
theorem mX11_want_2 : Cond.fieldLink RX11 13 RX11 (TX11 3).2.1 (TX11 3).2.2.1 ∈ wsX11_want := List.mem_of_getElem? (i := 1) (by decide +kernel)
theorem mX11_want_3 : Cond.fieldLink RX11 32 RX11 (TX11 9).2.1 (TX11 9).2.2.1 ∈ wsX11_want := List.mem_of_getElem? (i := 4) (by decide +kernel)
theorem mX11_want_4 : Cond.constant RX11 81 (-1000002) ∈ wsX11_want := List.mem_of_getElem? (i := 3) (by decide +kernel)
theorem dsc_X11_want : yX11_want.cls ≠ "java/lang/invoke/MethodHandle" ∧ yX11_want.cls ≠ "java/lang/invoke/VarHandle" ∧ (parseMethodDescriptor yX11_want.desc).map (fun d => d.parameters.length) = some 2 := by decide +kernel
def pX11_want_b56 (Po : Int32 → mm_T → Prop) (μ : mm_T) (a1 : Int32) (a2 : Int32) (as0 : Int32) : Prop := (¬ as0 = 0 → (vp_in a1 7) ∧ (∀ x5 : Int32, x5 = μ.1 34 0 a1.toNatClampNeg → ((vp_in a1 7) ∧ (∀ μ7 : mm_T, μ7 = mm_I μ 34 0 a1.toNatClampNeg a2 → (Po x5 μ7))))) ∧ (as0 = 0 → Po (-1000002 : Int32) μ)
def pX11_want_b51 (Po : Int32 → mm_T → Prop) (μ : mm_T) (a1 : Int32) (a2 : Int32) : Prop := pX11_want_b56 Po μ a1 a2 (1 : Int32)
def pX11_want (Po : Int32 → mm_T → Prop) (μ : mm_T) (p1 : Int32) (p2 : Int32) : Prop := pX11_isNode (fun r2 μ1 => (r2 = 0 → Po (-1000001 : Int32) μ1) ∧ (¬ (r2 = 0) → (vp_in p1 7) ∧ ((¬ (μ1.1 28 0 p1.toNatClampNeg) = 0 → (p2 = 0 → pX11_want_b51 Po μ1 p1 p2) ∧ (¬ (p2 = 0) → (p2 = (1 : Int32) → pX11_want_b51 Po μ1 p1 p2) ∧ (¬ (p2 = (1 : Int32)) → (p2 = (2 : Int32) → pX11_want_b51 Po μ1 p1 p2) ∧ (¬ (p2 = (2 : Int32)) → (p2 = (4 : Int32) → pX11_want_b51 Po μ1 p1 p2) ∧ (¬ (p2 = (4 : Int32)) → (p2 = (8 : Int32) → pX11_want_b51 Po μ1 p1 p2) ∧ (¬ (p2 = (8 : Int32)) → (¬ p2 = (16 : Int32) → pX11_want_b56 Po μ1 p1 p2 (0 : Int32)) ∧ (p2 = (16 : Int32) → pX11_want_b51 Po μ1 p1 p2))))))) ∧ ((μ1.1 28 0 p1.toNatClampNeg) = 0 → Po (-1000001 : Int32) μ1)))) μ p1
set_option maxHeartbeats 4000000 in
set_option maxRecDepth 100000 in
theorem kX11_want (l : Launch) (p1 : Int32) (p2 : Int32) : mm_CI l yX11_want wsX11_want ({ frames := 2, cells := 0, slots := 0, locals := 43 }) (fun z => [.ref (z + mm_ad 26 0), .int p1, .int p2]) (fun μ Po => pX11_want Po μ p1 p2) := by
  refine je_I (cc := cX11_want) (nL := 5) (own := RX11) (plainFor_of_name (by decide)) rfl rfl (fun _ => Nat.le_of_ble_eq_true rfl) ?_
  intro p e s m args below meth c D cy z μ Po C hr hk h
  change jJ p l e ({ frames := 2, cells := 0, slots := 0, locals := 43 }) s m args below meth c D cy z (MQ below (va_Qi Po (mm_Po D cy z) (mm_A z)) args s 0 0 (mm_A z)) 5 μ 0 [(0, .ref (z + mm_ad 26 0)), (1, .int p1), (2, .int p2)] []
  replace h : pX11_want Po μ p1 p2 := h
  unfold pX11_want at h
  refine jr_aload_n (q := 1) C 0 dX11_want_0 rfl rfl rfl ?_
  refine jr_iload_n (q := 2) C 1 dX11_want_1 rfl rfl rfl ?_
  refine jr_cvI (q := 5) (As := [.int p1]) (rest := []) C (f := 26) (i := 0) (ci := 11) mf_26 rfl rfl rfl (kX11_isNode l p1) rfl gX11_want_X11_isNode rfl dsc_X11_isNode ⟨rfl, rfl⟩ ⟨by decide, by decide⟩ rfl rfl (Nat.le_of_ble_eq_true rfl) dX11_want_2 rfl h (fun r2 μ1 h => ?_)
  refine jr_if_eq (q := 8) (tgt := 17) C dX11_want_5 (by decide) rfl (fun c16 => ?_) (fun c16 => ?_)
  · replace h := h.1 c16
    refine jr_ldc (q := 19) (v := (-1000001 : Int32)) C dX11_want_17 mX11_want_0 rfl ?_
    exact jr_iret C hr hk dX11_want_19 h
  · replace h := h.2 c16
    refine jr_aload_n (q := 9) C 0 dX11_want_8 rfl rfl rfl ?_
    refine jr_getR (q := 12) (ci := 11) (Cn := RX11) (T := TX11) (N := 42) (j := 3) C mf_26 rfl rfl (by decide) rfl 28 0 rfl rfl rfl nX11_want_11 mX11_want_2 dX11_want_9 rfl rfl ?_
    refine jr_iload_n (q := 13) C 1 dX11_want_12 rfl rfl rfl ?_
    obtain ⟨g3, h⟩ := h
    refine jr_zald (q := 14) C mf_28 rfl g3 dX11_want_13 rfl ?_
    refine jr_if_ne (q := 17) (tgt := 20) C dX11_want_14 (by decide) rfl (fun c15 => ?_) (fun c15 => ?_)
    · replace h := h.1 c15
      refine jr_iload_n (q := 21) C 2 dX11_want_20 rfl rfl rfl ?_
      have b56 : ∀ (μ : mm_T) (a1 : Int32) (a2 : Int32) (as0 : Int32), pX11_want_b56 Po μ a1 a2 as0 → jJ p l e ({ frames := 2, cells := 0, slots := 0, locals := 43 }) s m args below meth c D cy z (MQ below (va_Qi Po (mm_Po D cy z) (mm_A z)) args s 0 0 (mm_A z)) 5 μ 56 [(0, .ref (z + mm_ad 26 0)), (1, .int a1), (2, .int a2)] [.int as0] := by
        intro μ a1 a2 as0 h
        unfold pX11_want_b56 at h
        refine jr_istore_n (q := 57) (lv' := [(3, .int as0), (0, .ref (z + mm_ad 26 0)), (1, .int a1), (2, .int a2)]) C dX11_want_56 rfl (by decide) rfl rfl ?_
        refine jr_iload_n (q := 58) C 0 dX11_want_57 rfl rfl rfl ?_
        refine jr_if_ne (q := 61) (tgt := 64) C dX11_want_58 (by decide) rfl (fun c8 => ?_) (fun c8 => ?_)
        · replace h := h.1 c8
          refine jr_aload_n (q := 65) C 1 dX11_want_64 rfl rfl rfl ?_
          refine jr_getR (q := 68) (ci := 11) (Cn := RX11) (T := TX11) (N := 42) (j := 9) C mf_26 rfl rfl (by decide) rfl 34 0 rfl rfl rfl nX11_want_11 mX11_want_3 dX11_want_65 rfl rfl ?_
          refine jr_iload_n (q := 69) C 2 dX11_want_68 rfl rfl rfl ?_
          obtain ⟨g4, h⟩ := h
          refine jr_iald (q := 70) C mf_34 rfl g4 dX11_want_69 rfl ?_
          refine jn_int (fun x5 ex5 => ?_)
          replace h := h x5 ex5
          refine jr_istore (q := 72) (lv' := [(4, .int x5), (3, .int as0), (0, .ref (z + mm_ad 26 0)), (1, .int a1), (2, .int a2)]) C dX11_want_70 (by decide) rfl rfl ?_
          refine jr_aload_n (q := 73) C 2 dX11_want_72 rfl rfl rfl ?_
          refine jr_getR (q := 76) (ci := 11) (Cn := RX11) (T := TX11) (N := 42) (j := 9) C mf_26 rfl rfl (by decide) rfl 34 0 rfl rfl rfl nX11_want_11 mX11_want_3 dX11_want_73 rfl rfl ?_
          refine jr_iload_n (q := 77) C 3 dX11_want_76 rfl rfl rfl ?_
          refine jr_iload_n (q := 78) C 4 dX11_want_77 rfl rfl rfl ?_
          obtain ⟨g6, h⟩ := h
          refine jr_iast (q := 79) C mf_34 rfl g6 dX11_want_78 rfl ?_
          refine jn_mem (fun μ7 eμ7 => ?_)
          replace h := h μ7 eμ7
          refine jr_iload (q := 81) C 0 dX11_want_79 rfl rfl ?_
          exact jr_iret C hr hk dX11_want_81 h
        · replace h := h.2 c8
          refine jr_ldc (q := 63) (v := (-1000002 : Int32)) C dX11_want_61 mX11_want_4 rfl ?_
          exact jr_iret C hr hk dX11_want_63 h
      have b51 : ∀ (μ : mm_T) (a1 : Int32) (a2 : Int32), pX11_want_b51 Po μ a1 a2 → jJ p l e ({ frames := 2, cells := 0, slots := 0, locals := 43 }) s m args below meth c D cy z (MQ below (va_Qi Po (mm_Po D cy z) (mm_A z)) args s 0 0 (mm_A z)) 5 μ 51 [(0, .ref (z + mm_ad 26 0)), (1, .int a1), (2, .int a2)] [] := by
        intro μ a1 a2 h
        unfold pX11_want_b51 at h
        refine jr_iconst (q := 52) (v := (1 : Int32)) C dX11_want_51 (by decide) rfl ?_
        refine jr_goto (tgt := 56) C dX11_want_52 (by decide) ?_
        refine jr_sub [0, 1, 2] rfl ?_
        exact b56 _ _ _ _ h
      refine jr_if_eq (q := 24) (tgt := 51) C dX11_want_21 (by decide) rfl (fun c14 => ?_) (fun c14 => ?_)
      · replace h := h.1 c14
        refine jr_sub [0, 1, 2] rfl ?_
        exact b51 _ _ _ h
      · replace h := h.2 c14
        refine jr_iload_n (q := 25) C 2 dX11_want_24 rfl rfl rfl ?_
        refine jr_iconst (q := 26) (v := (1 : Int32)) C dX11_want_25 (by decide) rfl ?_
        refine jr_icmp_eq (q := 29) (tgt := 51) C dX11_want_26 (by decide) rfl (fun c13 => ?_) (fun c13 => ?_)
        · replace h := h.1 c13
          refine jr_sub [0, 1, 2] rfl ?_
          exact b51 _ _ _ h
        · replace h := h.2 c13
          refine jr_iload_n (q := 30) C 2 dX11_want_29 rfl rfl rfl ?_
          refine jr_iconst (q := 31) (v := (2 : Int32)) C dX11_want_30 (by decide) rfl ?_
          refine jr_icmp_eq (q := 34) (tgt := 51) C dX11_want_31 (by decide) rfl (fun c12 => ?_) (fun c12 => ?_)
          · replace h := h.1 c12
            refine jr_sub [0, 1, 2] rfl ?_
            exact b51 _ _ _ h
          · replace h := h.2 c12
            refine jr_iload_n (q := 35) C 2 dX11_want_34 rfl rfl rfl ?_
            refine jr_iconst (q := 36) (v := (4 : Int32)) C dX11_want_35 (by decide) rfl ?_
            refine jr_icmp_eq (q := 39) (tgt := 51) C dX11_want_36 (by decide) rfl (fun c11 => ?_) (fun c11 => ?_)
            · replace h := h.1 c11
              refine jr_sub [0, 1, 2] rfl ?_
              exact b51 _ _ _ h
            · replace h := h.2 c11
              refine jr_iload_n (q := 40) C 2 dX11_want_39 rfl rfl rfl ?_
              refine jr_bipush (q := 42) (v := (8 : Int32)) C dX11_want_40 (by decide) rfl ?_
              refine jr_icmp_eq (q := 45) (tgt := 51) C dX11_want_42 (by decide) rfl (fun c10 => ?_) (fun c10 => ?_)
              · replace h := h.1 c10
                refine jr_sub [0, 1, 2] rfl ?_
                exact b51 _ _ _ h
              · replace h := h.2 c10
                refine jr_iload_n (q := 46) C 2 dX11_want_45 rfl rfl rfl ?_
                refine jr_bipush (q := 48) (v := (16 : Int32)) C dX11_want_46 (by decide) rfl ?_
                refine jr_icmp_ne (q := 51) (tgt := 55) C dX11_want_48 (by decide) rfl (fun c9 => ?_) (fun c9 => ?_)
                · replace h := h.1 c9
                  refine jr_iconst (q := 56) (v := (0 : Int32)) C dX11_want_55 (by decide) rfl ?_
                  refine jr_sub [0, 1, 2] rfl ?_
                  exact b56 _ _ _ _ h
                · replace h := h.2 c9
                  refine jr_sub [0, 1, 2] rfl ?_
                  exact b51 _ _ _ h
    · replace h := h.2 c15
      refine jr_ldc (q := 19) (v := (-1000001 : Int32)) C dX11_want_17 mX11_want_0 rfl ?_
      exact jr_iret C hr hk dX11_want_19 h
theorem nX11_isFree_11 : ∀ w ∈ wsX110, w ∈ wsX11_isFree := fun _ h => List.mem_cons_of_mem _ (List.mem_append_right _ h)
theorem mX11_isFree_1 : Cond.fieldLink RX11 53 RX11 (TX11 16).2.1 (TX11 16).2.2.1 ∈ wsX11_isFree := List.mem_of_getElem? (i := 1) (by decide +kernel)
theorem dsc_X11_isFree : yX11_isFree.cls ≠ "java/lang/invoke/MethodHandle" ∧ yX11_isFree.cls ≠ "java/lang/invoke/VarHandle" ∧ (parseMethodDescriptor yX11_isFree.desc).map (fun d => d.parameters.length) = some 2 := by decide +kernel
def pX11_isFree_b32 (K5 : mm_T → Int32 → Int32 → Int32 → Prop) (μ : mm_T) (a2 : Int32) (a4 : Int32) (as0 : Int32) : Prop := ∀ x1 : Int32, x1 = a4 + a2 → (K5 μ a2 as0 x1)
def pX11_isFree_b31 (K5 : mm_T → Int32 → Int32 → Int32 → Prop) (μ : mm_T) (a2 : Int32) (a4 : Int32) : Prop := pX11_isFree_b32 K5 μ a2 a4 (0 : Int32)
def pX11_isFree_l5 (Po : Int32 → mm_T → Prop) (E5_42 : mm_T → Int32 → Prop) (K5 : mm_T → Int32 → Int32 → Int32 → Prop) (μ : mm_T) (a2 : Int32) (a3 : Int32) (a4 : Int32) : Prop := ((16 : Int32) ≤ a4 → E5_42 μ a3) ∧ (¬ ((16 : Int32) ≤ a4) → (a3 = 0 → pX11_isFree_b31 K5 μ a2 a4) ∧ (¬ (a3 = 0) → (vp_in a4 16) ∧ ((¬ (μ.1 41 0 a4.toNatClampNeg) = (-1 : Int32) → pX11_isFree_b31 K5 μ a2 a4) ∧ ((μ.1 41 0 a4.toNatClampNeg) = (-1 : Int32) → pX11_isFree_b32 K5 μ a2 a4 (1 : Int32)))))
def pX11_isFree (Po : Int32 → mm_T → Prop) (μ : mm_T) (p1 : Int32) (p2 : Int32) : Prop := lp_ (fun (K9 : mm_T × Int32 × Int32 × Int32 → Prop) (t9 : mm_T × Int32 × Int32 × Int32) => pX11_isFree_l5 Po (fun μ c3 => (c3 = 0 ∨ c3 = 1) ∧ Po c3 μ) (fun μ a2 a3 a4 => K9 (μ, a2, a3, a4)) t9.1 t9.2.1 t9.2.2.1 t9.2.2.2) (μ, p2, (1 : Int32), p1)
set_option maxHeartbeats 4000000 in
set_option maxRecDepth 100000 in
theorem kX11_isFree (l : Launch) (p1 : Int32) (p2 : Int32) : mm_CI l yX11_isFree wsX11_isFree ({ frames := 0, cells := 0, slots := 0, locals := 0 }) (fun z => [.ref (z + mm_ad 26 0), .int p1, .int p2]) (fun μ Po => pX11_isFree Po μ p1 p2) := by
  refine je_Z (cc := cX11_isFree) (nL := 5) (own := RX11) (plainFor_of_name (by decide)) rfl rfl (fun _ => Nat.le_of_ble_eq_true rfl) ?_
  intro p e s m args below meth c D cy z μ Po C hr hk h
  change jJ p l e ({ frames := 0, cells := 0, slots := 0, locals := 0 }) s m args below meth c D cy z (MQ below (va_Qi Po (mm_Po D cy z) (mm_A z)) args s 0 0 (mm_A z)) 5 μ 0 [(0, .ref (z + mm_ad 26 0)), (1, .int p1), (2, .int p2)] []
  replace h : pX11_isFree Po μ p1 p2 := h
  unfold pX11_isFree at h
  refine jr_iconst (q := 1) (v := (1 : Int32)) C dX11_isFree_0 (by decide) rfl ?_
  refine jr_istore_n (q := 2) (lv' := [(3, .int (1 : Int32)), (0, .ref (z + mm_ad 26 0)), (1, .int p1), (2, .int p2)]) C dX11_isFree_1 rfl (by decide) rfl rfl ?_
  refine jr_iload_n (q := 3) C 2 dX11_isFree_2 rfl rfl rfl ?_
  refine jr_istore (q := 5) (lv' := [(4, .int p1), (3, .int (1 : Int32)), (0, .ref (z + mm_ad 26 0)), (1, .int p1), (2, .int p2)]) C dX11_isFree_3 (by decide) rfl rfl ?_
  have l5 : ∀ (E5_42 : mm_T → Int32 → Prop) (hE5_42 : ∀ (μ : mm_T) (c3 : Int32), E5_42 μ c3 → jJ p l e ({ frames := 0, cells := 0, slots := 0, locals := 0 }) s m args below meth c D cy z (MQ below (va_Qi Po (mm_Po D cy z) (mm_A z)) args s 0 0 (mm_A z)) 5 μ 42 [(3, .int c3)] []), ∀ t9 : mm_T × Int32 × Int32 × Int32, lp_ (fun (K9 : mm_T × Int32 × Int32 × Int32 → Prop) (t9 : mm_T × Int32 × Int32 × Int32) => pX11_isFree_l5 Po E5_42 (fun μ a2 a3 a4 => K9 (μ, a2, a3, a4)) t9.1 t9.2.1 t9.2.2.1 t9.2.2.2) t9 → jJ p l e ({ frames := 0, cells := 0, slots := 0, locals := 0 }) s m args below meth c D cy z (MQ below (va_Qi Po (mm_Po D cy z) (mm_A z)) args s 0 0 (mm_A z)) 5 t9.1 5 [(0, .ref (z + mm_ad 26 0)), (2, .int t9.2.1), (3, .int t9.2.2.1), (4, .int t9.2.2.2)] [] := by
    intro E5_42 hE5_42 t9 h
    refine lp_go (P := fun t9 : mm_T × Int32 × Int32 × Int32 => jJ p l e ({ frames := 0, cells := 0, slots := 0, locals := 0 }) s m args below meth c D cy z (MQ below (va_Qi Po (mm_Po D cy z) (mm_A z)) args s 0 0 (mm_A z)) 5 t9.1 5 [(0, .ref (z + mm_ad 26 0)), (2, .int t9.2.1), (3, .int t9.2.2.1), (4, .int t9.2.2.2)] []) (fun K9 t9 hK h => ?_) t9 h
    obtain ⟨μ, a2, a3, a4⟩ := t9
    obtain ⟨K5, eK5⟩ : ∃ K : mm_T → Int32 → Int32 → Int32 → Prop, K = (fun μ a2 a3 a4 => K9 (μ, a2, a3, a4)) := ⟨_, rfl⟩
    have hK5 : ∀ (μ : mm_T) (a2 : Int32) (a3 : Int32) (a4 : Int32), K5 μ a2 a3 a4 → jJ p l e ({ frames := 0, cells := 0, slots := 0, locals := 0 }) s m args below meth c D cy z (MQ below (va_Qi Po (mm_Po D cy z) (mm_A z)) args s 0 0 (mm_A z)) 5 μ 5 [(0, .ref (z + mm_ad 26 0)), (2, .int a2), (3, .int a3), (4, .int a4)] [] := fun μ a2 a3 a4 h9 => hK (μ, a2, a3, a4) (by rw [eK5] at h9; exact h9)
    replace h : pX11_isFree_l5 Po E5_42 K5 μ a2 a3 a4 := by rw [eK5]; exact h
    unfold pX11_isFree_l5 at h
    refine jr_iload (q := 7) C 3 dX11_isFree_5 rfl rfl ?_
    refine jr_bipush (q := 9) (v := (16 : Int32)) C dX11_isFree_7 (by decide) rfl ?_
    refine jr_icmp_ge (q := 12) (tgt := 42) C dX11_isFree_9 (by decide) rfl (fun c5 => ?_) (fun c5 => ?_)
    · replace h := h.1 c5
      refine jr_sub [2] rfl ?_
      exact hE5_42 _ _ h
    · replace h := h.2 c5
      refine jr_iload_n (q := 13) C 2 dX11_isFree_12 rfl rfl rfl ?_
      have b32 : ∀ (μ : mm_T) (a2 : Int32) (a4 : Int32) (as0 : Int32), pX11_isFree_b32 K5 μ a2 a4 as0 → jJ p l e ({ frames := 0, cells := 0, slots := 0, locals := 0 }) s m args below meth c D cy z (MQ below (va_Qi Po (mm_Po D cy z) (mm_A z)) args s 0 0 (mm_A z)) 5 μ 32 [(0, .ref (z + mm_ad 26 0)), (2, .int a2), (4, .int a4)] [.int as0] := by
        intro μ a2 a4 as0 h
        unfold pX11_isFree_b32 at h
        refine jr_istore_n (q := 33) (lv' := [(3, .int as0), (0, .ref (z + mm_ad 26 0)), (2, .int a2), (4, .int a4)]) C dX11_isFree_32 rfl (by decide) rfl rfl ?_
        refine jr_iload (q := 35) C 3 dX11_isFree_33 rfl rfl ?_
        refine jr_iload_n (q := 36) C 2 dX11_isFree_35 rfl rfl rfl ?_
        refine jr_iadd (q := 37) C dX11_isFree_36 rfl ?_
        refine jn_int (fun x1 ex1 => ?_)
        replace h := h x1 ex1
        refine jr_istore (q := 39) (lv' := [(4, .int x1), (3, .int as0), (0, .ref (z + mm_ad 26 0)), (2, .int a2)]) C dX11_isFree_37 (by decide) rfl rfl ?_
        refine jr_goto (tgt := 5) C dX11_isFree_39 (by decide) ?_
        refine jr_sub [2, 3, 1, 0] rfl ?_
        exact hK5 _ _ _ _ h
      have b31 : ∀ (μ : mm_T) (a2 : Int32) (a4 : Int32), pX11_isFree_b31 K5 μ a2 a4 → jJ p l e ({ frames := 0, cells := 0, slots := 0, locals := 0 }) s m args below meth c D cy z (MQ below (va_Qi Po (mm_Po D cy z) (mm_A z)) args s 0 0 (mm_A z)) 5 μ 31 [(0, .ref (z + mm_ad 26 0)), (2, .int a2), (4, .int a4)] [] := by
        intro μ a2 a4 h
        unfold pX11_isFree_b31 at h
        refine jr_iconst (q := 32) (v := (0 : Int32)) C dX11_isFree_31 (by decide) rfl ?_
        refine jr_sub [0, 1, 2] rfl ?_
        exact b32 _ _ _ _ h
      refine jr_if_eq (q := 16) (tgt := 31) C dX11_isFree_13 (by decide) rfl (fun c4 => ?_) (fun c4 => ?_)
      · replace h := h.1 c4
        refine jr_sub [0, 1, 3] rfl ?_
        exact b31 _ _ _ h
      · replace h := h.2 c4
        refine jr_aload_n (q := 17) C 0 dX11_isFree_16 rfl rfl rfl ?_
        refine jr_getR (q := 20) (ci := 11) (Cn := RX11) (T := TX11) (N := 42) (j := 16) C mf_26 rfl rfl (by decide) rfl 41 0 rfl rfl rfl nX11_isFree_11 mX11_isFree_1 dX11_isFree_17 rfl rfl ?_
        refine jr_iload (q := 22) C 3 dX11_isFree_20 rfl rfl ?_
        obtain ⟨g2, h⟩ := h
        refine jr_iald (q := 23) C mf_41 rfl g2 dX11_isFree_22 rfl ?_
        refine jr_iconst (q := 24) (v := (-1 : Int32)) C dX11_isFree_23 (by decide) rfl ?_
        refine jr_icmp_ne (q := 27) (tgt := 31) C dX11_isFree_24 (by decide) rfl (fun c3 => ?_) (fun c3 => ?_)
        · replace h := h.1 c3
          refine jr_sub [0, 1, 3] rfl ?_
          exact b31 _ _ _ h
        · replace h := h.2 c3
          refine jr_iconst (q := 28) (v := (1 : Int32)) C dX11_isFree_27 (by decide) rfl ?_
          refine jr_goto (tgt := 32) C dX11_isFree_28 (by decide) ?_
          refine jr_sub [0, 1, 3] rfl ?_
          exact b32 _ _ _ _ h
  have x5_42 : ∀ (μ : mm_T) (c3 : Int32), ((c3 = 0 ∨ c3 = 1) ∧ Po c3 μ) → jJ p l e ({ frames := 0, cells := 0, slots := 0, locals := 0 }) s m args below meth c D cy z (MQ below (va_Qi Po (mm_Po D cy z) (mm_A z)) args s 0 0 (mm_A z)) 5 μ 42 [(3, .int c3)] [] := by
    intro μ c3 h
    refine jr_iload_n (q := 43) C 0 dX11_isFree_42 rfl rfl rfl ?_
    exact jr_zret C hr hk dX11_isFree_43 h.1 h.2
  refine jr_sub [2, 4, 1, 0] rfl ?_
  exact l5 _ x5_42 _ h
theorem nX11_dealTo_11 : ∀ w ∈ wsX110, w ∈ wsX11_dealTo := fun _ h => List.mem_cons_of_mem _ (List.mem_append_right _ h)
theorem mX11_dealTo_1 : Cond.fieldLink RX11 32 RX11 (TX11 9).2.1 (TX11 9).2.2.1 ∈ wsX11_dealTo := List.mem_of_getElem? (i := 1) (by decide +kernel)
theorem mX11_dealTo_2 : Cond.fieldLink RX11 53 RX11 (TX11 16).2.1 (TX11 16).2.2.1 ∈ wsX11_dealTo := List.mem_of_getElem? (i := 2) (by decide +kernel)
theorem dsc_X11_dealTo : yX11_dealTo.cls ≠ "java/lang/invoke/MethodHandle" ∧ yX11_dealTo.cls ≠ "java/lang/invoke/VarHandle" ∧ (parseMethodDescriptor yX11_dealTo.desc).map (fun d => d.parameters.length) = some 1 := by decide +kernel
def pX11_dealTo_l32 (Po : Int32 → mm_T → Prop) (E32_61 : mm_T → Int32 → Int32 → Prop) (K32 : mm_T → Int32 → Int32 → Int32 → Int32 → Prop) (μ : mm_T) (a1 : Int32) (a2 : Int32) (a3 : Int32) (a4 : Int32) : Prop := ((16 : Int32) ≤ a4 → E32_61 μ a2 a3) ∧ (¬ ((16 : Int32) ≤ a4) → (a2 ≤ a3 → E32_61 μ a2 a3) ∧ (¬ (a2 ≤ a3) → (vp_in a4 16) ∧ (∀ μ5 : mm_T, μ5 = mm_I μ 41 0 a4.toNatClampNeg a1 → (∀ x6 : Int32, x6 = a4 + a2 → (K32 μ5 a1 a2 a3 x6)))))
def pX11_dealTo_l9 (Po : Int32 → mm_T → Prop) (E9_29 : mm_T → Int32 → Int32 → Int32 → Prop) (K9 : mm_T → Int32 → Int32 → Int32 → Prop) (μ : mm_T) (a1 : Int32) (a2 : Int32) (a3 : Int32) : Prop := (a2 ≤ a3 → E9_29 μ a1 a2 a3) ∧ (¬ (a2 ≤ a3) → pX11_isFree (fun r10 μ9 => (¬ r10 = 0 → E9_29 μ9 a1 a2 a3) ∧ (r10 = 0 → K9 μ9 a1 a2 (a3 + (1 : Int32)))) μ a3 a2)
def pX11_dealTo (Po : Int32 → mm_T → Prop) (μ : mm_T) (p1 : Int32) : Prop := (vp_in p1 7) ∧ (∀ x2 : Int32, x2 = μ.1 34 0 p1.toNatClampNeg → (lp_ (fun (K9 : mm_T × Int32 × Int32 × Int32 → Prop) (t9 : mm_T × Int32 × Int32 × Int32) => pX11_dealTo_l9 Po (fun μ c1 c2 c3 => lp_ (fun (K9 : mm_T × Int32 × Int32 × Int32 × Int32 → Prop) (t9 : mm_T × Int32 × Int32 × Int32 × Int32) => pX11_dealTo_l32 Po (fun μ c2 c3 => (c2 ≤ c3 → Po (0 : Int32) μ) ∧ (¬ (c2 ≤ c3) → Po (1 : Int32) μ)) (fun μ a1 a2 a3 a4 => K9 (μ, a1, a2, a3, a4)) t9.1 t9.2.1 t9.2.2.1 t9.2.2.2.1 t9.2.2.2.2) (μ, c1, c2, c3, c3)) (fun μ a1 a2 a3 => K9 (μ, a1, a2, a3)) t9.1 t9.2.1 t9.2.2.1 t9.2.2.2) (μ, p1, x2, (0 : Int32))))
set_option maxHeartbeats 4000000 in
set_option maxRecDepth 100000 in
theorem kX11_dealTo (l : Launch) (p1 : Int32) : mm_CI l yX11_dealTo wsX11_dealTo ({ frames := 1, cells := 0, slots := 0, locals := 24 }) (fun z => [.ref (z + mm_ad 26 0), .int p1]) (fun μ Po => pX11_dealTo Po μ p1) := by
  refine je_Z (cc := cX11_dealTo) (nL := 5) (own := RX11) (plainFor_of_name (by decide)) rfl rfl (fun _ => Nat.le_of_ble_eq_true rfl) ?_
  intro p e s m args below meth c D cy z μ Po C hr hk h
  change jJ p l e ({ frames := 1, cells := 0, slots := 0, locals := 24 }) s m args below meth c D cy z (MQ below (va_Qi Po (mm_Po D cy z) (mm_A z)) args s 0 0 (mm_A z)) 5 μ 0 [(0, .ref (z + mm_ad 26 0)), (1, .int p1)] []
  replace h : pX11_dealTo Po μ p1 := h
  unfold pX11_dealTo at h
  refine jr_aload_n (q := 1) C 0 dX11_dealTo_0 rfl rfl rfl ?_
  refine jr_getR (q := 4) (ci := 11) (Cn := RX11) (T := TX11) (N := 42) (j := 9) C mf_26 rfl rfl (by decide) rfl 34 0 rfl rfl rfl nX11_dealTo_11 mX11_dealTo_1 dX11_dealTo_1 rfl rfl ?_
  refine jr_iload_n (q := 5) C 1 dX11_dealTo_4 rfl rfl rfl ?_
  obtain ⟨g1, h⟩ := h
  refine jr_iald (q := 6) C mf_34 rfl g1 dX11_dealTo_5 rfl ?_
  refine jn_int (fun x2 ex2 => ?_)
  replace h := h x2 ex2
  refine jr_istore_n (q := 7) (lv' := [(2, .int x2), (0, .ref (z + mm_ad 26 0)), (1, .int p1)]) C dX11_dealTo_6 rfl (by decide) rfl rfl ?_
  refine jr_iconst (q := 8) (v := (0 : Int32)) C dX11_dealTo_7 (by decide) rfl ?_
  refine jr_istore_n (q := 9) (lv' := [(3, .int (0 : Int32)), (2, .int x2), (0, .ref (z + mm_ad 26 0)), (1, .int p1)]) C dX11_dealTo_8 rfl (by decide) rfl rfl ?_
  have l9 : ∀ (E9_29 : mm_T → Int32 → Int32 → Int32 → Prop) (hE9_29 : ∀ (μ : mm_T) (c1 : Int32) (c2 : Int32) (c3 : Int32), E9_29 μ c1 c2 c3 → jJ p l e ({ frames := 1, cells := 0, slots := 0, locals := 24 }) s m args below meth c D cy z (MQ below (va_Qi Po (mm_Po D cy z) (mm_A z)) args s 0 0 (mm_A z)) 5 μ 29 [(0, .ref (z + mm_ad 26 0)), (1, .int c1), (2, .int c2), (3, .int c3)] []), ∀ t9 : mm_T × Int32 × Int32 × Int32, lp_ (fun (K9 : mm_T × Int32 × Int32 × Int32 → Prop) (t9 : mm_T × Int32 × Int32 × Int32) => pX11_dealTo_l9 Po E9_29 (fun μ a1 a2 a3 => K9 (μ, a1, a2, a3)) t9.1 t9.2.1 t9.2.2.1 t9.2.2.2) t9 → jJ p l e ({ frames := 1, cells := 0, slots := 0, locals := 24 }) s m args below meth c D cy z (MQ below (va_Qi Po (mm_Po D cy z) (mm_A z)) args s 0 0 (mm_A z)) 5 t9.1 9 [(0, .ref (z + mm_ad 26 0)), (1, .int t9.2.1), (2, .int t9.2.2.1), (3, .int t9.2.2.2)] [] := by
    intro E9_29 hE9_29 t9 h
    refine lp_go (P := fun t9 : mm_T × Int32 × Int32 × Int32 => jJ p l e ({ frames := 1, cells := 0, slots := 0, locals := 24 }) s m args below meth c D cy z (MQ below (va_Qi Po (mm_Po D cy z) (mm_A z)) args s 0 0 (mm_A z)) 5 t9.1 9 [(0, .ref (z + mm_ad 26 0)), (1, .int t9.2.1), (2, .int t9.2.2.1), (3, .int t9.2.2.2)] []) (fun K9 t9 hK h => ?_) t9 h
    obtain ⟨μ, a1, a2, a3⟩ := t9
    obtain ⟨K9, eK9⟩ : ∃ K : mm_T → Int32 → Int32 → Int32 → Prop, K = (fun μ a1 a2 a3 => K9 (μ, a1, a2, a3)) := ⟨_, rfl⟩
    have hK9 : ∀ (μ : mm_T) (a1 : Int32) (a2 : Int32) (a3 : Int32), K9 μ a1 a2 a3 → jJ p l e ({ frames := 1, cells := 0, slots := 0, locals := 24 }) s m args below meth c D cy z (MQ below (va_Qi Po (mm_Po D cy z) (mm_A z)) args s 0 0 (mm_A z)) 5 μ 9 [(0, .ref (z + mm_ad 26 0)), (1, .int a1), (2, .int a2), (3, .int a3)] [] := fun μ a1 a2 a3 h9 => hK (μ, a1, a2, a3) (by rw [eK9] at h9; exact h9)
    replace h : pX11_dealTo_l9 Po E9_29 K9 μ a1 a2 a3 := by rw [eK9]; exact h
    unfold pX11_dealTo_l9 at h
    refine jr_iload_n (q := 10) C 3 dX11_dealTo_9 rfl rfl rfl ?_
    refine jr_iload_n (q := 11) C 2 dX11_dealTo_10 rfl rfl rfl ?_
    refine jr_icmp_ge (q := 14) (tgt := 29) C dX11_dealTo_11 (by decide) rfl (fun c12 => ?_) (fun c12 => ?_)
    · replace h := h.1 c12
      refine jr_sub [0, 1, 2, 3] rfl ?_
      exact hE9_29 _ _ _ _ h
    · replace h := h.2 c12
      refine jr_aload_n (q := 15) C 0 dX11_dealTo_14 rfl rfl rfl ?_
      refine jr_iload_n (q := 16) C 3 dX11_dealTo_15 rfl rfl rfl ?_
      refine jr_iload_n (q := 17) C 2 dX11_dealTo_16 rfl rfl rfl ?_
      refine jr_cvI (q := 20) (As := [.int a3, .int a2]) (rest := []) C (f := 26) (i := 0) (ci := 11) mf_26 rfl rfl rfl (kX11_isFree l a3 a2) rfl gX11_dealTo_X11_isFree rfl dsc_X11_isFree ⟨rfl, rfl⟩ ⟨by decide, by decide⟩ rfl rfl (Nat.le_of_ble_eq_true rfl) dX11_dealTo_17 rfl h (fun r10 μ9 h => ?_)
      refine jr_if_ne (q := 23) (tgt := 29) C dX11_dealTo_20 (by decide) rfl (fun c11 => ?_) (fun c11 => ?_)
      · replace h := h.1 c11
        refine jr_sub [0, 1, 2, 3] rfl ?_
        exact hE9_29 _ _ _ _ h
      · replace h := h.2 c11
        refine jr_iinc (q := 26) (lv' := [(3, .int (a3 + (1 : Int32))), (0, .ref (z + mm_ad 26 0)), (1, .int a1), (2, .int a2)]) C 3 dX11_dealTo_23 rfl (by rfl) (by decide) rfl rfl ?_
        refine jr_goto (tgt := 9) C dX11_dealTo_26 (by decide) ?_
        refine jr_sub [1, 2, 3, 0] rfl ?_
        exact hK9 _ _ _ _ h
  have x9_29 : ∀ (μ : mm_T) (c1 : Int32) (c2 : Int32) (c3 : Int32), (lp_ (fun (K9 : mm_T × Int32 × Int32 × Int32 × Int32 → Prop) (t9 : mm_T × Int32 × Int32 × Int32 × Int32) => pX11_dealTo_l32 Po (fun μ c2 c3 => (c2 ≤ c3 → Po (0 : Int32) μ) ∧ (¬ (c2 ≤ c3) → Po (1 : Int32) μ)) (fun μ a1 a2 a3 a4 => K9 (μ, a1, a2, a3, a4)) t9.1 t9.2.1 t9.2.2.1 t9.2.2.2.1 t9.2.2.2.2) (μ, c1, c2, c3, c3)) → jJ p l e ({ frames := 1, cells := 0, slots := 0, locals := 24 }) s m args below meth c D cy z (MQ below (va_Qi Po (mm_Po D cy z) (mm_A z)) args s 0 0 (mm_A z)) 5 μ 29 [(0, .ref (z + mm_ad 26 0)), (1, .int c1), (2, .int c2), (3, .int c3)] [] := by
    intro μ c1 c2 c3 h
    refine jr_iload_n (q := 30) C 3 dX11_dealTo_29 rfl rfl rfl ?_
    refine jr_istore (q := 32) (lv' := [(4, .int c3), (0, .ref (z + mm_ad 26 0)), (1, .int c1), (2, .int c2), (3, .int c3)]) C dX11_dealTo_30 (by decide) rfl rfl ?_
    have l32 : ∀ (E32_61 : mm_T → Int32 → Int32 → Prop) (hE32_61 : ∀ (μ : mm_T) (c2 : Int32) (c3 : Int32), E32_61 μ c2 c3 → jJ p l e ({ frames := 1, cells := 0, slots := 0, locals := 24 }) s m args below meth c D cy z (MQ below (va_Qi Po (mm_Po D cy z) (mm_A z)) args s 0 0 (mm_A z)) 5 μ 61 [(2, .int c2), (3, .int c3)] []), ∀ t9 : mm_T × Int32 × Int32 × Int32 × Int32, lp_ (fun (K9 : mm_T × Int32 × Int32 × Int32 × Int32 → Prop) (t9 : mm_T × Int32 × Int32 × Int32 × Int32) => pX11_dealTo_l32 Po E32_61 (fun μ a1 a2 a3 a4 => K9 (μ, a1, a2, a3, a4)) t9.1 t9.2.1 t9.2.2.1 t9.2.2.2.1 t9.2.2.2.2) t9 → jJ p l e ({ frames := 1, cells := 0, slots := 0, locals := 24 }) s m args below meth c D cy z (MQ below (va_Qi Po (mm_Po D cy z) (mm_A z)) args s 0 0 (mm_A z)) 5 t9.1 32 [(0, .ref (z + mm_ad 26 0)), (1, .int t9.2.1), (2, .int t9.2.2.1), (3, .int t9.2.2.2.1), (4, .int t9.2.2.2.2)] [] := by
      intro E32_61 hE32_61 t9 h
      refine lp_go (P := fun t9 : mm_T × Int32 × Int32 × Int32 × Int32 => jJ p l e ({ frames := 1, cells := 0, slots := 0, locals := 24 }) s m args below meth c D cy z (MQ below (va_Qi Po (mm_Po D cy z) (mm_A z)) args s 0 0 (mm_A z)) 5 t9.1 32 [(0, .ref (z + mm_ad 26 0)), (1, .int t9.2.1), (2, .int t9.2.2.1), (3, .int t9.2.2.2.1), (4, .int t9.2.2.2.2)] []) (fun K9 t9 hK h => ?_) t9 h
      obtain ⟨μ, a1, a2, a3, a4⟩ := t9
      obtain ⟨K32, eK32⟩ : ∃ K : mm_T → Int32 → Int32 → Int32 → Int32 → Prop, K = (fun μ a1 a2 a3 a4 => K9 (μ, a1, a2, a3, a4)) := ⟨_, rfl⟩
      have hK32 : ∀ (μ : mm_T) (a1 : Int32) (a2 : Int32) (a3 : Int32) (a4 : Int32), K32 μ a1 a2 a3 a4 → jJ p l e ({ frames := 1, cells := 0, slots := 0, locals := 24 }) s m args below meth c D cy z (MQ below (va_Qi Po (mm_Po D cy z) (mm_A z)) args s 0 0 (mm_A z)) 5 μ 32 [(0, .ref (z + mm_ad 26 0)), (1, .int a1), (2, .int a2), (3, .int a3), (4, .int a4)] [] := fun μ a1 a2 a3 a4 h9 => hK (μ, a1, a2, a3, a4) (by rw [eK32] at h9; exact h9)
      replace h : pX11_dealTo_l32 Po E32_61 K32 μ a1 a2 a3 a4 := by rw [eK32]; exact h
      unfold pX11_dealTo_l32 at h
      refine jr_iload (q := 34) C 4 dX11_dealTo_32 rfl rfl ?_
      refine jr_bipush (q := 36) (v := (16 : Int32)) C dX11_dealTo_34 (by decide) rfl ?_
      refine jr_icmp_ge (q := 39) (tgt := 61) C dX11_dealTo_36 (by decide) rfl (fun c8 => ?_) (fun c8 => ?_)
      · replace h := h.1 c8
        refine jr_sub [2, 3] rfl ?_
        exact hE32_61 _ _ _ h
      · replace h := h.2 c8
        refine jr_iload_n (q := 40) C 3 dX11_dealTo_39 rfl rfl rfl ?_
        refine jr_iload_n (q := 41) C 2 dX11_dealTo_40 rfl rfl rfl ?_
        refine jr_icmp_ge (q := 44) (tgt := 61) C dX11_dealTo_41 (by decide) rfl (fun c7 => ?_) (fun c7 => ?_)
        · replace h := h.1 c7
          refine jr_sub [2, 3] rfl ?_
          exact hE32_61 _ _ _ h
        · replace h := h.2 c7
          refine jr_aload_n (q := 45) C 0 dX11_dealTo_44 rfl rfl rfl ?_
          refine jr_getR (q := 48) (ci := 11) (Cn := RX11) (T := TX11) (N := 42) (j := 16) C mf_26 rfl rfl (by decide) rfl 41 0 rfl rfl rfl nX11_dealTo_11 mX11_dealTo_2 dX11_dealTo_45 rfl rfl ?_
          refine jr_iload (q := 50) C 4 dX11_dealTo_48 rfl rfl ?_
          refine jr_iload_n (q := 51) C 1 dX11_dealTo_50 rfl rfl rfl ?_
          obtain ⟨g4, h⟩ := h
          refine jr_iast (q := 52) C mf_41 rfl g4 dX11_dealTo_51 rfl ?_
          refine jn_mem (fun μ5 eμ5 => ?_)
          replace h := h μ5 eμ5
          refine jr_iload (q := 54) C 4 dX11_dealTo_52 rfl rfl ?_
          refine jr_iload_n (q := 55) C 2 dX11_dealTo_54 rfl rfl rfl ?_
          refine jr_iadd (q := 56) C dX11_dealTo_55 rfl ?_
          refine jn_int (fun x6 ex6 => ?_)
          replace h := h x6 ex6
          refine jr_istore (q := 58) (lv' := [(4, .int x6), (0, .ref (z + mm_ad 26 0)), (1, .int a1), (2, .int a2), (3, .int a3)]) C dX11_dealTo_56 (by decide) rfl rfl ?_
          refine jr_goto (tgt := 32) C dX11_dealTo_58 (by decide) ?_
          refine jr_sub [1, 2, 3, 4, 0] rfl ?_
          exact hK32 _ _ _ _ _ h
    have x32_61 : ∀ (μ : mm_T) (c2 : Int32) (c3 : Int32), ((c2 ≤ c3 → Po (0 : Int32) μ) ∧ (¬ (c2 ≤ c3) → Po (1 : Int32) μ)) → jJ p l e ({ frames := 1, cells := 0, slots := 0, locals := 24 }) s m args below meth c D cy z (MQ below (va_Qi Po (mm_Po D cy z) (mm_A z)) args s 0 0 (mm_A z)) 5 μ 61 [(2, .int c2), (3, .int c3)] [] := by
      intro μ c2 c3 h
      refine jr_iload_n (q := 62) C 1 dX11_dealTo_61 rfl rfl rfl ?_
      refine jr_iload_n (q := 63) C 0 dX11_dealTo_62 rfl rfl rfl ?_
      refine jr_icmp_ge (q := 66) (tgt := 70) C dX11_dealTo_63 (by decide) rfl (fun c3 => ?_) (fun c3 => ?_)
      · replace h := h.1 c3
        refine jr_iconst (q := 71) (v := (0 : Int32)) C dX11_dealTo_70 (by decide) rfl ?_
        exact jr_zret C hr hk dX11_dealTo_71 (by decide) h
      · replace h := h.2 c3
        refine jr_iconst (q := 67) (v := (1 : Int32)) C dX11_dealTo_66 (by decide) rfl ?_
        refine jr_goto (tgt := 71) C dX11_dealTo_67 (by decide) ?_
        exact jr_zret C hr hk dX11_dealTo_71 (by decide) h
    refine jr_sub [1, 2, 3, 4, 0] rfl ?_
    exact l32 _ x32_61 _ h
  refine jr_sub [2, 3, 1, 0] rfl ?_
  exact l9 _ x9_29 _ h
theorem nX11_dealNow_11 : ∀ w ∈ wsX110, w ∈ wsX11_dealNow := fun _ h => List.mem_cons_of_mem _ (List.mem_append_right _ h)
theorem mX11_dealNow_1 : Cond.fieldLink RX11 129 RX11 (TX11 2).2.1 (TX11 2).2.2.1 ∈ wsX11_dealNow := List.mem_of_getElem? (i := 2) (by decide +kernel)
theorem mX11_dealNow_2 : Cond.fieldLink RX11 13 RX11 (TX11 3).2.1 (TX11 3).2.2.1 ∈ wsX11_dealNow := List.mem_of_getElem? (i := 3) (by decide +kernel)
theorem mX11_dealNow_3 : Cond.fieldLink RX11 32 RX11 (TX11 9).2.1 (TX11 9).2.2.1 ∈ wsX11_dealNow := List.mem_of_getElem? (i := 4) (by decide +kernel)
theorem mX11_dealNow_4 : Cond.fieldLink RX11 53 RX11 (TX11 16).2.1 (TX11 16).2.2.1 ∈ wsX11_dealNow := List.mem_of_getElem? (i := 1) (by decide +kernel)
theorem dsc_X11_dealNow : yX11_dealNow.cls ≠ "java/lang/invoke/MethodHandle" ∧ yX11_dealNow.cls ≠ "java/lang/invoke/VarHandle" ∧ (parseMethodDescriptor yX11_dealNow.desc).map (fun d => d.parameters.length) = some 0 := by decide +kernel
def pX11_dealNow_b73 (K33 : mm_T → Int32 → Int32 → Int32 → Prop) (μ : mm_T) (a2 : Int32) (a3 : Int32) (as0 : Int32) : Prop := ∀ x3 : Int32, x3 = as0 + (0 : Int32) → (K33 μ x3 a2 (a3 + (1 : Int32)))
def pX11_dealNow_l33 (Po : Int32 → mm_T → Prop) (E33_82 : mm_T → Int32 → Int32 → Prop) (K33 : mm_T → Int32 → Int32 → Int32 → Prop) (μ : mm_T) (a1 : Int32) (a2 : Int32) (a3 : Int32) : Prop := ((μ.1 26 0 2) ≤ a3 → E33_82 μ a1 a2) ∧ (¬ ((μ.1 26 0 2) ≤ a3) → (vp_in a3 7) ∧ (((μ.1 28 0 a3.toNatClampNeg) = 0 → pX11_dealNow_b73 K33 μ a2 a3 a1) ∧ (¬ ((μ.1 28 0 a3.toNatClampNeg) = 0) → (vp_in a3 7) ∧ ((¬ (μ.1 34 0 a3.toNatClampNeg) = a2 → pX11_dealNow_b73 K33 μ a2 a3 a1) ∧ ((μ.1 34 0 a3.toNatClampNeg) = a2 → pX11_dealTo (fun r6 μ5 => (r6 = 0 → pX11_dealNow_b73 K33 μ5 a2 a3 a1) ∧ (¬ (r6 = 0) → ∀ x7 : Int32, x7 = a1 + (1 : Int32) → (K33 μ5 x7 a2 (a3 + (1 : Int32))))) μ a3)))))
def pX11_dealNow_l25 (Po : Int32 → mm_T → Prop) (E25_89 : mm_T → Int32 → Prop) (K25 : mm_T → Int32 → Int32 → Prop) (μ : mm_T) (a1 : Int32) (a2 : Int32) : Prop := ((16 : Int32) < a2 → E25_89 μ a1) ∧ (¬ ((16 : Int32) < a2) → lp_ (fun (K9 : mm_T × Int32 × Int32 × Int32 → Prop) (t9 : mm_T × Int32 × Int32 × Int32) => pX11_dealNow_l33 Po (fun μ c1 c2 => ∀ x1 : Int32, x1 = c2 * (2 : Int32) → (K25 μ c1 x1)) (fun μ a1 a2 a3 => K9 (μ, a1, a2, a3)) t9.1 t9.2.1 t9.2.2.1 t9.2.2.2) (μ, a1, a2, (0 : Int32)))
def pX11_dealNow_l2 (Po : Int32 → mm_T → Prop) (E2_21 : mm_T → Prop) (K2 : mm_T → Int32 → Prop) (μ : mm_T) (a1 : Int32) : Prop := ((16 : Int32) ≤ a1 → E2_21 μ) ∧ (¬ ((16 : Int32) ≤ a1) → (vp_in a1 16) ∧ (∀ μ14 : mm_T, μ14 = mm_I μ 41 0 a1.toNatClampNeg (-1 : Int32) → (K2 μ14 (a1 + (1 : Int32)))))
def pX11_dealNow (Po : Int32 → mm_T → Prop) (μ : mm_T) : Prop := lp_ (fun (K9 : mm_T × Int32 → Prop) (t9 : mm_T × Int32) => pX11_dealNow_l2 Po (fun μ => lp_ (fun (K9 : mm_T × Int32 × Int32 → Prop) (t9 : mm_T × Int32 × Int32) => pX11_dealNow_l25 Po (fun μ c1 => Po c1 μ) (fun μ a1 a2 => K9 (μ, a1, a2)) t9.1 t9.2.1 t9.2.2) (μ, (0 : Int32), (1 : Int32))) (fun μ a1 => K9 (μ, a1)) t9.1 t9.2) (μ, (0 : Int32))
set_option maxHeartbeats 4000000 in
set_option maxRecDepth 100000 in
theorem kX11_dealNow (l : Launch) : mm_CI l yX11_dealNow wsX11_dealNow ({ frames := 2, cells := 0, slots := 0, locals := 48 }) (fun z => [.ref (z + mm_ad 26 0)]) (fun μ Po => pX11_dealNow Po μ) := by
  refine je_I (cc := cX11_dealNow) (nL := 4) (own := RX11) (plainFor_of_name (by decide)) rfl rfl (fun _ => Nat.le_of_ble_eq_true rfl) ?_
  intro p e s m args below meth c D cy z μ Po C hr hk h
  change jJ p l e ({ frames := 2, cells := 0, slots := 0, locals := 48 }) s m args below meth c D cy z (MQ below (va_Qi Po (mm_Po D cy z) (mm_A z)) args s 0 0 (mm_A z)) 4 μ 0 [(0, .ref (z + mm_ad 26 0))] []
  replace h : pX11_dealNow Po μ := h
  unfold pX11_dealNow at h
  refine jr_iconst (q := 1) (v := (0 : Int32)) C dX11_dealNow_0 (by decide) rfl ?_
  refine jr_istore_n (q := 2) (lv' := [(1, .int (0 : Int32)), (0, .ref (z + mm_ad 26 0))]) C dX11_dealNow_1 rfl (by decide) rfl rfl ?_
  have l2 : ∀ (E2_21 : mm_T → Prop) (hE2_21 : ∀ (μ : mm_T), E2_21 μ → jJ p l e ({ frames := 2, cells := 0, slots := 0, locals := 48 }) s m args below meth c D cy z (MQ below (va_Qi Po (mm_Po D cy z) (mm_A z)) args s 0 0 (mm_A z)) 4 μ 21 [(0, .ref (z + mm_ad 26 0))] []), ∀ t9 : mm_T × Int32, lp_ (fun (K9 : mm_T × Int32 → Prop) (t9 : mm_T × Int32) => pX11_dealNow_l2 Po E2_21 (fun μ a1 => K9 (μ, a1)) t9.1 t9.2) t9 → jJ p l e ({ frames := 2, cells := 0, slots := 0, locals := 48 }) s m args below meth c D cy z (MQ below (va_Qi Po (mm_Po D cy z) (mm_A z)) args s 0 0 (mm_A z)) 4 t9.1 2 [(0, .ref (z + mm_ad 26 0)), (1, .int t9.2)] [] := by
    intro E2_21 hE2_21 t9 h
    refine lp_go (P := fun t9 : mm_T × Int32 => jJ p l e ({ frames := 2, cells := 0, slots := 0, locals := 48 }) s m args below meth c D cy z (MQ below (va_Qi Po (mm_Po D cy z) (mm_A z)) args s 0 0 (mm_A z)) 4 t9.1 2 [(0, .ref (z + mm_ad 26 0)), (1, .int t9.2)] []) (fun K9 t9 hK h => ?_) t9 h
    obtain ⟨μ, a1⟩ := t9
    obtain ⟨K2, eK2⟩ : ∃ K : mm_T → Int32 → Prop, K = (fun μ a1 => K9 (μ, a1)) := ⟨_, rfl⟩
    have hK2 : ∀ (μ : mm_T) (a1 : Int32), K2 μ a1 → jJ p l e ({ frames := 2, cells := 0, slots := 0, locals := 48 }) s m args below meth c D cy z (MQ below (va_Qi Po (mm_Po D cy z) (mm_A z)) args s 0 0 (mm_A z)) 4 μ 2 [(0, .ref (z + mm_ad 26 0)), (1, .int a1)] [] := fun μ a1 h9 => hK (μ, a1) (by rw [eK2] at h9; exact h9)
    replace h : pX11_dealNow_l2 Po E2_21 K2 μ a1 := by rw [eK2]; exact h
    unfold pX11_dealNow_l2 at h
    refine jr_iload_n (q := 3) C 1 dX11_dealNow_2 rfl rfl rfl ?_
    refine jr_bipush (q := 5) (v := (16 : Int32)) C dX11_dealNow_3 (by decide) rfl ?_
    refine jr_icmp_ge (q := 8) (tgt := 21) C dX11_dealNow_5 (by decide) rfl (fun c15 => ?_) (fun c15 => ?_)
    · replace h := h.1 c15
      refine jr_sub [0] rfl ?_
      exact hE2_21 _ h
    · replace h := h.2 c15
      refine jr_aload_n (q := 9) C 0 dX11_dealNow_8 rfl rfl rfl ?_
      refine jr_getR (q := 12) (ci := 11) (Cn := RX11) (T := TX11) (N := 42) (j := 16) C mf_26 rfl rfl (by decide) rfl 41 0 rfl rfl rfl nX11_dealNow_11 mX11_dealNow_4 dX11_dealNow_9 rfl rfl ?_
      refine jr_iload_n (q := 13) C 1 dX11_dealNow_12 rfl rfl rfl ?_
      refine jr_iconst (q := 14) (v := (-1 : Int32)) C dX11_dealNow_13 (by decide) rfl ?_
      obtain ⟨g13, h⟩ := h
      refine jr_iast (q := 15) C mf_41 rfl g13 dX11_dealNow_14 rfl ?_
      refine jn_mem (fun μ14 eμ14 => ?_)
      replace h := h μ14 eμ14
      refine jr_iinc (q := 18) (lv' := [(1, .int (a1 + (1 : Int32))), (0, .ref (z + mm_ad 26 0))]) C 1 dX11_dealNow_15 rfl (by rfl) (by decide) rfl rfl ?_
      refine jr_goto (tgt := 2) C dX11_dealNow_18 (by decide) ?_
      refine jr_sub [1, 0] rfl ?_
      exact hK2 _ _ h
  have x2_21 : ∀ (μ : mm_T), (lp_ (fun (K9 : mm_T × Int32 × Int32 → Prop) (t9 : mm_T × Int32 × Int32) => pX11_dealNow_l25 Po (fun μ c1 => Po c1 μ) (fun μ a1 a2 => K9 (μ, a1, a2)) t9.1 t9.2.1 t9.2.2) (μ, (0 : Int32), (1 : Int32))) → jJ p l e ({ frames := 2, cells := 0, slots := 0, locals := 48 }) s m args below meth c D cy z (MQ below (va_Qi Po (mm_Po D cy z) (mm_A z)) args s 0 0 (mm_A z)) 4 μ 21 [(0, .ref (z + mm_ad 26 0))] [] := by
    intro μ h
    refine jr_iconst (q := 22) (v := (0 : Int32)) C dX11_dealNow_21 (by decide) rfl ?_
    refine jr_istore_n (q := 23) (lv' := [(1, .int (0 : Int32)), (0, .ref (z + mm_ad 26 0))]) C dX11_dealNow_22 rfl (by decide) rfl rfl ?_
    refine jr_iconst (q := 24) (v := (1 : Int32)) C dX11_dealNow_23 (by decide) rfl ?_
    refine jr_istore_n (q := 25) (lv' := [(2, .int (1 : Int32)), (1, .int (0 : Int32)), (0, .ref (z + mm_ad 26 0))]) C dX11_dealNow_24 rfl (by decide) rfl rfl ?_
    have l25 : ∀ (E25_89 : mm_T → Int32 → Prop) (hE25_89 : ∀ (μ : mm_T) (c1 : Int32), E25_89 μ c1 → jJ p l e ({ frames := 2, cells := 0, slots := 0, locals := 48 }) s m args below meth c D cy z (MQ below (va_Qi Po (mm_Po D cy z) (mm_A z)) args s 0 0 (mm_A z)) 4 μ 89 [(1, .int c1)] []), ∀ t9 : mm_T × Int32 × Int32, lp_ (fun (K9 : mm_T × Int32 × Int32 → Prop) (t9 : mm_T × Int32 × Int32) => pX11_dealNow_l25 Po E25_89 (fun μ a1 a2 => K9 (μ, a1, a2)) t9.1 t9.2.1 t9.2.2) t9 → jJ p l e ({ frames := 2, cells := 0, slots := 0, locals := 48 }) s m args below meth c D cy z (MQ below (va_Qi Po (mm_Po D cy z) (mm_A z)) args s 0 0 (mm_A z)) 4 t9.1 25 [(0, .ref (z + mm_ad 26 0)), (1, .int t9.2.1), (2, .int t9.2.2)] [] := by
      intro E25_89 hE25_89 t9 h
      refine lp_go (P := fun t9 : mm_T × Int32 × Int32 => jJ p l e ({ frames := 2, cells := 0, slots := 0, locals := 48 }) s m args below meth c D cy z (MQ below (va_Qi Po (mm_Po D cy z) (mm_A z)) args s 0 0 (mm_A z)) 4 t9.1 25 [(0, .ref (z + mm_ad 26 0)), (1, .int t9.2.1), (2, .int t9.2.2)] []) (fun K9 t9 hK h => ?_) t9 h
      obtain ⟨μ, a1, a2⟩ := t9
      obtain ⟨K25, eK25⟩ : ∃ K : mm_T → Int32 → Int32 → Prop, K = (fun μ a1 a2 => K9 (μ, a1, a2)) := ⟨_, rfl⟩
      have hK25 : ∀ (μ : mm_T) (a1 : Int32) (a2 : Int32), K25 μ a1 a2 → jJ p l e ({ frames := 2, cells := 0, slots := 0, locals := 48 }) s m args below meth c D cy z (MQ below (va_Qi Po (mm_Po D cy z) (mm_A z)) args s 0 0 (mm_A z)) 4 μ 25 [(0, .ref (z + mm_ad 26 0)), (1, .int a1), (2, .int a2)] [] := fun μ a1 a2 h9 => hK (μ, a1, a2) (by rw [eK25] at h9; exact h9)
      replace h : pX11_dealNow_l25 Po E25_89 K25 μ a1 a2 := by rw [eK25]; exact h
      unfold pX11_dealNow_l25 at h
      refine jr_iload_n (q := 26) C 2 dX11_dealNow_25 rfl rfl rfl ?_
      refine jr_bipush (q := 28) (v := (16 : Int32)) C dX11_dealNow_26 (by decide) rfl ?_
      refine jr_icmp_gt (q := 31) (tgt := 89) C dX11_dealNow_28 (by decide) rfl (fun c12 => ?_) (fun c12 => ?_)
      · replace h := h.1 c12
        refine jr_sub [1] rfl ?_
        exact hE25_89 _ _ h
      · replace h := h.2 c12
        refine jr_iconst (q := 32) (v := (0 : Int32)) C dX11_dealNow_31 (by decide) rfl ?_
        refine jr_istore_n (q := 33) (lv' := [(3, .int (0 : Int32)), (0, .ref (z + mm_ad 26 0)), (1, .int a1), (2, .int a2)]) C dX11_dealNow_32 rfl (by decide) rfl rfl ?_
        have l33 : ∀ (E33_82 : mm_T → Int32 → Int32 → Prop) (hE33_82 : ∀ (μ : mm_T) (c1 : Int32) (c2 : Int32), E33_82 μ c1 c2 → jJ p l e ({ frames := 2, cells := 0, slots := 0, locals := 48 }) s m args below meth c D cy z (MQ below (va_Qi Po (mm_Po D cy z) (mm_A z)) args s 0 0 (mm_A z)) 4 μ 82 [(0, .ref (z + mm_ad 26 0)), (1, .int c1), (2, .int c2)] []), ∀ t9 : mm_T × Int32 × Int32 × Int32, lp_ (fun (K9 : mm_T × Int32 × Int32 × Int32 → Prop) (t9 : mm_T × Int32 × Int32 × Int32) => pX11_dealNow_l33 Po E33_82 (fun μ a1 a2 a3 => K9 (μ, a1, a2, a3)) t9.1 t9.2.1 t9.2.2.1 t9.2.2.2) t9 → jJ p l e ({ frames := 2, cells := 0, slots := 0, locals := 48 }) s m args below meth c D cy z (MQ below (va_Qi Po (mm_Po D cy z) (mm_A z)) args s 0 0 (mm_A z)) 4 t9.1 33 [(0, .ref (z + mm_ad 26 0)), (1, .int t9.2.1), (2, .int t9.2.2.1), (3, .int t9.2.2.2)] [] := by
          intro E33_82 hE33_82 t9 h
          refine lp_go (P := fun t9 : mm_T × Int32 × Int32 × Int32 => jJ p l e ({ frames := 2, cells := 0, slots := 0, locals := 48 }) s m args below meth c D cy z (MQ below (va_Qi Po (mm_Po D cy z) (mm_A z)) args s 0 0 (mm_A z)) 4 t9.1 33 [(0, .ref (z + mm_ad 26 0)), (1, .int t9.2.1), (2, .int t9.2.2.1), (3, .int t9.2.2.2)] []) (fun K9 t9 hK h => ?_) t9 h
          obtain ⟨μ, a1, a2, a3⟩ := t9
          obtain ⟨K33, eK33⟩ : ∃ K : mm_T → Int32 → Int32 → Int32 → Prop, K = (fun μ a1 a2 a3 => K9 (μ, a1, a2, a3)) := ⟨_, rfl⟩
          have hK33 : ∀ (μ : mm_T) (a1 : Int32) (a2 : Int32) (a3 : Int32), K33 μ a1 a2 a3 → jJ p l e ({ frames := 2, cells := 0, slots := 0, locals := 48 }) s m args below meth c D cy z (MQ below (va_Qi Po (mm_Po D cy z) (mm_A z)) args s 0 0 (mm_A z)) 4 μ 33 [(0, .ref (z + mm_ad 26 0)), (1, .int a1), (2, .int a2), (3, .int a3)] [] := fun μ a1 a2 a3 h9 => hK (μ, a1, a2, a3) (by rw [eK33] at h9; exact h9)
          replace h : pX11_dealNow_l33 Po E33_82 K33 μ a1 a2 a3 := by rw [eK33]; exact h
          unfold pX11_dealNow_l33 at h
          refine jr_iload_n (q := 34) C 3 dX11_dealNow_33 rfl rfl rfl ?_
          refine jr_aload_n (q := 35) C 0 dX11_dealNow_34 rfl rfl rfl ?_
          refine jr_getI (q := 38) (ci := 11) (Cn := RX11) (T := TX11) (N := 42) (j := 2) C mf_26 rfl rfl (by decide) rfl rfl nX11_dealNow_11 mX11_dealNow_1 dX11_dealNow_35 rfl rfl ?_
          refine jr_icmp_ge (q := 41) (tgt := 82) C dX11_dealNow_38 (by decide) rfl (fun c11 => ?_) (fun c11 => ?_)
          · replace h := h.1 c11
            refine jr_sub [0, 1, 2] rfl ?_
            exact hE33_82 _ _ _ h
          · replace h := h.2 c11
            refine jr_iload_n (q := 42) C 1 dX11_dealNow_41 rfl rfl rfl ?_
            refine jr_aload_n (q := 43) C 0 dX11_dealNow_42 rfl rfl rfl ?_
            refine jr_getR (q := 46) (ci := 11) (Cn := RX11) (T := TX11) (N := 42) (j := 3) C mf_26 rfl rfl (by decide) rfl 28 0 rfl rfl rfl nX11_dealNow_11 mX11_dealNow_2 dX11_dealNow_43 rfl rfl ?_
            refine jr_iload_n (q := 47) C 3 dX11_dealNow_46 rfl rfl rfl ?_
            obtain ⟨g2, h⟩ := h
            refine jr_zald (q := 48) C mf_28 rfl g2 dX11_dealNow_47 rfl ?_
            have b73 : ∀ (μ : mm_T) (a2 : Int32) (a3 : Int32) (as0 : Int32), pX11_dealNow_b73 K33 μ a2 a3 as0 → jJ p l e ({ frames := 2, cells := 0, slots := 0, locals := 48 }) s m args below meth c D cy z (MQ below (va_Qi Po (mm_Po D cy z) (mm_A z)) args s 0 0 (mm_A z)) 4 μ 73 [(0, .ref (z + mm_ad 26 0)), (2, .int a2), (3, .int a3)] [.int as0] := by
              intro μ a2 a3 as0 h
              unfold pX11_dealNow_b73 at h
              refine jr_iconst (q := 74) (v := (0 : Int32)) C dX11_dealNow_73 (by decide) rfl ?_
              refine jr_iadd (q := 75) C dX11_dealNow_74 rfl ?_
              refine jn_int (fun x3 ex3 => ?_)
              replace h := h x3 ex3
              refine jr_istore_n (q := 76) (lv' := [(1, .int x3), (0, .ref (z + mm_ad 26 0)), (2, .int a2), (3, .int a3)]) C dX11_dealNow_75 rfl (by decide) rfl rfl ?_
              refine jr_iinc (q := 79) (lv' := [(3, .int (a3 + (1 : Int32))), (1, .int x3), (0, .ref (z + mm_ad 26 0)), (2, .int a2)]) C 3 dX11_dealNow_76 rfl (by rfl) (by decide) rfl rfl ?_
              refine jr_goto (tgt := 33) C dX11_dealNow_79 (by decide) ?_
              refine jr_sub [2, 1, 3, 0] rfl ?_
              exact hK33 _ _ _ _ h
            refine jr_if_eq (q := 51) (tgt := 73) C dX11_dealNow_48 (by decide) rfl (fun c10 => ?_) (fun c10 => ?_)
            · replace h := h.1 c10
              refine jr_sub [0, 2, 3] rfl ?_
              exact b73 _ _ _ _ h
            · replace h := h.2 c10
              refine jr_aload_n (q := 52) C 0 dX11_dealNow_51 rfl rfl rfl ?_
              refine jr_getR (q := 55) (ci := 11) (Cn := RX11) (T := TX11) (N := 42) (j := 9) C mf_26 rfl rfl (by decide) rfl 34 0 rfl rfl rfl nX11_dealNow_11 mX11_dealNow_3 dX11_dealNow_52 rfl rfl ?_
              refine jr_iload_n (q := 56) C 3 dX11_dealNow_55 rfl rfl rfl ?_
              obtain ⟨g4, h⟩ := h
              refine jr_iald (q := 57) C mf_34 rfl g4 dX11_dealNow_56 rfl ?_
              refine jr_iload_n (q := 58) C 2 dX11_dealNow_57 rfl rfl rfl ?_
              refine jr_icmp_ne (q := 61) (tgt := 73) C dX11_dealNow_58 (by decide) rfl (fun c9 => ?_) (fun c9 => ?_)
              · replace h := h.1 c9
                refine jr_sub [0, 2, 3] rfl ?_
                exact b73 _ _ _ _ h
              · replace h := h.2 c9
                refine jr_aload_n (q := 62) C 0 dX11_dealNow_61 rfl rfl rfl ?_
                refine jr_iload_n (q := 63) C 3 dX11_dealNow_62 rfl rfl rfl ?_
                refine jr_cvI (q := 66) (As := [.int a3]) (rest := [.int a1]) C (f := 26) (i := 0) (ci := 11) mf_26 rfl rfl rfl (kX11_dealTo l a3) rfl gX11_dealNow_X11_dealTo rfl dsc_X11_dealTo ⟨rfl, rfl⟩ ⟨by decide, by decide⟩ rfl rfl (Nat.le_of_ble_eq_true rfl) dX11_dealNow_63 rfl h (fun r6 μ5 h => ?_)
                refine jr_if_eq (q := 69) (tgt := 73) C dX11_dealNow_66 (by decide) rfl (fun c8 => ?_) (fun c8 => ?_)
                · replace h := h.1 c8
                  refine jr_sub [0, 2, 3] rfl ?_
                  exact b73 _ _ _ _ h
                · replace h := h.2 c8
                  refine jr_iconst (q := 70) (v := (1 : Int32)) C dX11_dealNow_69 (by decide) rfl ?_
                  refine jr_goto (tgt := 74) C dX11_dealNow_70 (by decide) ?_
                  refine jr_iadd (q := 75) C dX11_dealNow_74 rfl ?_
                  refine jn_int (fun x7 ex7 => ?_)
                  replace h := h x7 ex7
                  refine jr_istore_n (q := 76) (lv' := [(1, .int x7), (0, .ref (z + mm_ad 26 0)), (2, .int a2), (3, .int a3)]) C dX11_dealNow_75 rfl (by decide) rfl rfl ?_
                  refine jr_iinc (q := 79) (lv' := [(3, .int (a3 + (1 : Int32))), (1, .int x7), (0, .ref (z + mm_ad 26 0)), (2, .int a2)]) C 3 dX11_dealNow_76 rfl (by rfl) (by decide) rfl rfl ?_
                  refine jr_goto (tgt := 33) C dX11_dealNow_79 (by decide) ?_
                  refine jr_sub [2, 1, 3, 0] rfl ?_
                  exact hK33 _ _ _ _ h
        have x33_82 : ∀ (μ : mm_T) (c1 : Int32) (c2 : Int32), (∀ x1 : Int32, x1 = c2 * (2 : Int32) → (K25 μ c1 x1)) → jJ p l e ({ frames := 2, cells := 0, slots := 0, locals := 48 }) s m args below meth c D cy z (MQ below (va_Qi Po (mm_Po D cy z) (mm_A z)) args s 0 0 (mm_A z)) 4 μ 82 [(0, .ref (z + mm_ad 26 0)), (1, .int c1), (2, .int c2)] [] := by
          intro μ c1 c2 h
          refine jr_iload_n (q := 83) C 2 dX11_dealNow_82 rfl rfl rfl ?_
          refine jr_iconst (q := 84) (v := (2 : Int32)) C dX11_dealNow_83 (by decide) rfl ?_
          refine jr_imul (q := 85) C dX11_dealNow_84 rfl ?_
          refine jn_int (fun x1 ex1 => ?_)
          replace h := h x1 ex1
          refine jr_istore_n (q := 86) (lv' := [(2, .int x1), (0, .ref (z + mm_ad 26 0)), (1, .int c1)]) C dX11_dealNow_85 rfl (by decide) rfl rfl ?_
          refine jr_goto (tgt := 25) C dX11_dealNow_86 (by decide) ?_
          refine jr_sub [1, 2, 0] rfl ?_
          exact hK25 _ _ _ h
        refine jr_sub [1, 2, 3, 0] rfl ?_
        exact l33 _ x33_82 _ h
    have x25_89 : ∀ (μ : mm_T) (c1 : Int32), (Po c1 μ) → jJ p l e ({ frames := 2, cells := 0, slots := 0, locals := 48 }) s m args below meth c D cy z (MQ below (va_Qi Po (mm_Po D cy z) (mm_A z)) args s 0 0 (mm_A z)) 4 μ 89 [(1, .int c1)] [] := by
      intro μ c1 h
      refine jr_iload_n (q := 90) C 0 dX11_dealNow_89 rfl rfl rfl ?_
      exact jr_iret C hr hk dX11_dealNow_90 h
    refine jr_sub [2, 1, 0] rfl ?_
    exact l25 _ x25_89 _ h
  refine jr_sub [1, 0] rfl ?_
  exact l2 _ x2_21 _ h
theorem mX11_deal_0 : Cond.constant RX11 152 (-1000003) ∈ wsX11_deal := List.mem_of_getElem? (i := 1) (by decide +kernel)
theorem dsc_X11_deal : yX11_deal.cls ≠ "java/lang/invoke/MethodHandle" ∧ yX11_deal.cls ≠ "java/lang/invoke/VarHandle" ∧ (parseMethodDescriptor yX11_deal.desc).map (fun d => d.parameters.length) = some 0 := by decide +kernel
def pX11_deal (Po : Int32 → mm_T → Prop) (μ : mm_T) : Prop := pX11_isField (fun r2 μ1 => (r2 = 0 → Po (-1000003 : Int32) μ1) ∧ (¬ (r2 = 0) → pX11_dealNow (fun r4 μ3 => Po r4 μ3) μ1 )) μ 
set_option maxHeartbeats 4000000 in
set_option maxRecDepth 100000 in
theorem kX11_deal (l : Launch) : mm_CI l yX11_deal wsX11_deal ({ frames := 3, cells := 0, slots := 0, locals := 71 }) (fun z => [.ref (z + mm_ad 26 0)]) (fun μ Po => pX11_deal Po μ) := by
  refine je_I (cc := cX11_deal) (nL := 1) (own := RX11) (plainFor_of_name (by decide)) rfl rfl (fun _ => Nat.le_of_ble_eq_true rfl) ?_
  intro p e s m args below meth c D cy z μ Po C hr hk h
  change jJ p l e ({ frames := 3, cells := 0, slots := 0, locals := 71 }) s m args below meth c D cy z (MQ below (va_Qi Po (mm_Po D cy z) (mm_A z)) args s 0 0 (mm_A z)) 1 μ 0 [(0, .ref (z + mm_ad 26 0))] []
  replace h : pX11_deal Po μ := h
  unfold pX11_deal at h
  refine jr_aload_n (q := 1) C 0 dX11_deal_0 rfl rfl rfl ?_
  refine jr_cvI (q := 4) (As := []) (rest := []) C (f := 26) (i := 0) (ci := 11) mf_26 rfl rfl rfl (kX11_isField l) rfl gX11_deal_X11_isField rfl dsc_X11_isField ⟨rfl, rfl⟩ ⟨by decide, by decide⟩ rfl rfl (Nat.le_of_ble_eq_true rfl) dX11_deal_1 rfl h (fun r2 μ1 h => ?_)
  refine jr_if_eq (q := 7) (tgt := 14) C dX11_deal_4 (by decide) rfl (fun c5 => ?_) (fun c5 => ?_)
  · replace h := h.1 c5
    refine jr_ldc (q := 16) (v := (-1000003 : Int32)) C dX11_deal_14 mX11_deal_0 rfl ?_
    exact jr_iret C hr hk dX11_deal_16 h
  · replace h := h.2 c5
    refine jr_aload_n (q := 8) C 0 dX11_deal_7 rfl rfl rfl ?_
    refine jr_cvI (q := 11) (As := []) (rest := []) C (f := 26) (i := 0) (ci := 11) mf_26 rfl rfl rfl (kX11_dealNow l) rfl gX11_deal_X11_dealNow rfl dsc_X11_dealNow ⟨rfl, rfl⟩ ⟨by decide, by decide⟩ rfl rfl (Nat.le_of_ble_eq_true rfl) dX11_deal_8 rfl h (fun r4 μ3 h => ?_)
    refine jr_goto (tgt := 16) C dX11_deal_11 (by decide) ?_
    exact jr_iret C hr hk dX11_deal_16 h
theorem mX11_slot_0 : Cond.constant RX11 178 (-1000001) ∈ wsX11_slot := List.mem_of_getElem? (i := 3) (by decide +kernel)
theorem nX11_slot_11 : ∀ w ∈ wsX110, w ∈ wsX11_slot := fun _ h => List.mem_cons_of_mem _ (List.mem_append_right _ h)
theorem mX11_slot_2 : Cond.fieldLink RX11 53 RX11 (TX11 16).2.1 (TX11 16).2.2.1 ∈ wsX11_slot := List.mem_of_getElem? (i := 2) (by decide +kernel)
theorem mX11_slot_3 : Cond.constant RX11 152 (-1000003) ∈ wsX11_slot := List.mem_of_getElem? (i := 1) (by decide +kernel)
theorem dsc_X11_slot : yX11_slot.cls ≠ "java/lang/invoke/MethodHandle" ∧ yX11_slot.cls ≠ "java/lang/invoke/VarHandle" ∧ (parseMethodDescriptor yX11_slot.desc).map (fun d => d.parameters.length) = some 1 := by decide +kernel
def pX11_slot (Po : Int32 → mm_T → Prop) (μ : mm_T) (p1 : Int32) : Prop := pX11_isField (fun r2 μ1 => (¬ r2 = 0 → pX11_within (fun r4 μ3 => (r4 = 0 → Po (-1000001 : Int32) μ3) ∧ (¬ (r4 = 0) → (vp_in p1 16) ∧ (Po (μ3.1 41 0 p1.toNatClampNeg) μ3))) μ1 p1 (0 : Int32) (15 : Int32)) ∧ (r2 = 0 → Po (-1000003 : Int32) μ1)) μ 
set_option maxHeartbeats 4000000 in
set_option maxRecDepth 100000 in
theorem kX11_slot (l : Launch) (p1 : Int32) : mm_CI l yX11_slot wsX11_slot ({ frames := 1, cells := 0, slots := 0, locals := 22 }) (fun z => [.ref (z + mm_ad 26 0), .int p1]) (fun μ Po => pX11_slot Po μ p1) := by
  refine je_I (cc := cX11_slot) (nL := 2) (own := RX11) (plainFor_of_name (by decide)) rfl rfl (fun _ => Nat.le_of_ble_eq_true rfl) ?_
  intro p e s m args below meth c D cy z μ Po C hr hk h
  change jJ p l e ({ frames := 1, cells := 0, slots := 0, locals := 22 }) s m args below meth c D cy z (MQ below (va_Qi Po (mm_Po D cy z) (mm_A z)) args s 0 0 (mm_A z)) 2 μ 0 [(0, .ref (z + mm_ad 26 0)), (1, .int p1)] []
  replace h : pX11_slot Po μ p1 := h
  unfold pX11_slot at h
  refine jr_aload_n (q := 1) C 0 dX11_slot_0 rfl rfl rfl ?_
  refine jr_cvI (q := 4) (As := []) (rest := []) C (f := 26) (i := 0) (ci := 11) mf_26 rfl rfl rfl (kX11_isField l) rfl gX11_slot_X11_isField rfl dsc_X11_isField ⟨rfl, rfl⟩ ⟨by decide, by decide⟩ rfl rfl (Nat.le_of_ble_eq_true rfl) dX11_slot_1 rfl h (fun r2 μ1 h => ?_)
  refine jr_if_ne (q := 7) (tgt := 10) C dX11_slot_4 (by decide) rfl (fun c7 => ?_) (fun c7 => ?_)
  · replace h := h.1 c7
    refine jr_iload_n (q := 11) C 1 dX11_slot_10 rfl rfl rfl ?_
    refine jr_iconst (q := 12) (v := (0 : Int32)) C dX11_slot_11 (by decide) rfl ?_
    refine jr_bipush (q := 14) (v := (15 : Int32)) C dX11_slot_12 (by decide) rfl ?_
    refine jr_csI (q := 17) (As := [.int p1, .int (0 : Int32), .int (15 : Int32)]) (rest := []) C  (kX11_within l p1 (0 : Int32) (15 : Int32)) rfl gX11_slot_X11_within rfl dsc_X11_within ⟨rfl, rfl⟩ ⟨by decide, by decide⟩ rfl rfl (Nat.le_of_ble_eq_true rfl) dX11_slot_14 rfl h (fun r4 μ3 h => ?_)
    refine jr_if_eq (q := 20) (tgt := 29) C dX11_slot_17 (by decide) rfl (fun c6 => ?_) (fun c6 => ?_)
    · replace h := h.1 c6
      refine jr_ldc (q := 31) (v := (-1000001 : Int32)) C dX11_slot_29 mX11_slot_0 rfl ?_
      exact jr_iret C hr hk dX11_slot_31 h
    · replace h := h.2 c6
      refine jr_aload_n (q := 21) C 0 dX11_slot_20 rfl rfl rfl ?_
      refine jr_getR (q := 24) (ci := 11) (Cn := RX11) (T := TX11) (N := 42) (j := 16) C mf_26 rfl rfl (by decide) rfl 41 0 rfl rfl rfl nX11_slot_11 mX11_slot_2 dX11_slot_21 rfl rfl ?_
      refine jr_iload_n (q := 25) C 1 dX11_slot_24 rfl rfl rfl ?_
      obtain ⟨g5, h⟩ := h
      refine jr_iald (q := 26) C mf_41 rfl g5 dX11_slot_25 rfl ?_
      refine jr_goto (tgt := 31) C dX11_slot_26 (by decide) ?_
      exact jr_iret C hr hk dX11_slot_31 h
  · replace h := h.2 c7
    refine jr_ldc (q := 9) (v := (-1000003 : Int32)) C dX11_slot_7 mX11_slot_3 rfl ?_
    exact jr_iret C hr hk dX11_slot_9 h
theorem nX11_frameNow_11 : ∀ w ∈ wsX110, w ∈ wsX11_frameNow := fun _ h => List.mem_cons_of_mem _ (List.mem_append_right _ h)
theorem mX11_frameNow_1 : Cond.fieldLink RX11 140 RX11 (TX11 17).2.1 (TX11 17).2.2.1 ∈ wsX11_frameNow := List.mem_of_getElem? (i := 1) (by decide +kernel)
theorem mX11_frameNow_2 : Cond.constant RX11 283 (48000) ∈ wsX11_frameNow := List.mem_of_getElem? (i := 5) (by decide +kernel)
theorem mX11_frameNow_3 : Cond.fieldLink RX11 284 RX11 (TX11 30).2.1 (TX11 30).2.2.1 ∈ wsX11_frameNow := List.mem_of_getElem? (i := 6) (by decide +kernel)
theorem mX11_frameNow_4 : Cond.fieldLink RX11 53 RX11 (TX11 16).2.1 (TX11 16).2.2.1 ∈ wsX11_frameNow := List.mem_of_getElem? (i := 2) (by decide +kernel)
theorem mX11_frameNow_5 : Cond.fieldLink RX11 35 RX11 (TX11 10).2.1 (TX11 10).2.2.1 ∈ wsX11_frameNow := List.mem_of_getElem? (i := 3) (by decide +kernel)
theorem mX11_frameNow_6 : Cond.constant RX11 214 (-1000005) ∈ wsX11_frameNow := List.mem_of_getElem? (i := 4) (by decide +kernel)
theorem dsc_X11_frameNow : yX11_frameNow.cls ≠ "java/lang/invoke/MethodHandle" ∧ yX11_frameNow.cls ≠ "java/lang/invoke/VarHandle" ∧ (parseMethodDescriptor yX11_frameNow.desc).map (fun d => d.parameters.length) = some 0 := by decide +kernel
def pX11_frameNow_b138 (Po : Int32 → mm_T → Prop) (μ : mm_T) (a2 : Int32) (as0 : Int32) : Prop := ∀ μ2 : mm_T, μ2 = mm_I μ 26 0 17 as0 → (∀ μ3 : mm_T, μ3 = mm_I μ2 26 0 30 ((μ2.1 26 0 30) + (1 : Int32)) → (Po a2 μ3))
def pX11_frameNow_b85 (K9 : mm_T → Int32 → Int32 → Int32 → Prop) (μ : mm_T) (a1 : Int32) (a3 : Int32) (a4 : Int32) (as0 : Int32) (as1 : Int32) : Prop := ∀ x11 : Int32, x11 = as1 + as0 → ((vp_in a4 7) ∧ (pX11_anchorFrom (fun r14 μ13 => (vp_in a4 7) ∧ (∀ μ16 : mm_T, μ16 = mm_I μ13 35 0 a4.toNatClampNeg r14 → (K9 μ16 a1 x11 (a3 + (1 : Int32))))) μ ((μ.1 35 0 a4.toNatClampNeg) + (1 : Int32))))
def pX11_frameNow_b44 (K9 : mm_T → Int32 → Int32 → Int32 → Prop) (μ : mm_T) (a1 : Int32) (a2 : Int32) (a3 : Int32) (as0 : Int32) : Prop := ∀ μ5 : mm_T, μ5 = mm_I μ 26 0 17 as0 → ((vp_in a3 16) ∧ (∀ x7 : Int32, x7 = μ5.1 41 0 a3.toNatClampNeg → ((x7 = (-1 : Int32) → K9 μ5 a1 a2 (a3 + (1 : Int32))) ∧ (¬ (x7 = (-1 : Int32)) → (vp_in x7 7) ∧ (pX11_exchangeNow (fun r10 μ9 => (¬ r10 = (-1000005 : Int32) → pX11_frameNow_b85 K9 μ9 a1 a3 x7 (1 : Int32) a2) ∧ (r10 = (-1000005 : Int32) → pX11_frameNow_b85 K9 μ9 a1 a3 x7 (0 : Int32) a2)) μ5 x7 (μ5.1 35 0 x7.toNatClampNeg))))))
def pX11_frameNow_l9 (Po : Int32 → mm_T → Prop) (E9_113 : mm_T → Int32 → Int32 → Prop) (K9 : mm_T → Int32 → Int32 → Int32 → Prop) (μ : mm_T) (a1 : Int32) (a2 : Int32) (a3 : Int32) : Prop := ((16 : Int32) ≤ a3 → E9_113 μ a1 a2) ∧ (¬ ((16 : Int32) ≤ a3) → ((a1 + ((3000 : Int32) * a3)) ≤ (μ.1 26 0 17) → pX11_frameNow_b44 K9 μ a1 a2 a3 (μ.1 26 0 17)) ∧ (¬ ((a1 + ((3000 : Int32) * a3)) ≤ (μ.1 26 0 17)) → pX11_frameNow_b44 K9 μ a1 a2 a3 (a1 + ((3000 : Int32) * a3))))
def pX11_frameNow (Po : Int32 → mm_T → Prop) (μ : mm_T) : Prop := ∀ x1 : Int32, x1 = μ.1 26 0 17 → (lp_ (fun (K9 : mm_T × Int32 × Int32 × Int32 → Prop) (t9 : mm_T × Int32 × Int32 × Int32) => pX11_frameNow_l9 Po (fun μ c1 c2 => ((c1 + (48000 : Int32)) ≤ (μ.1 26 0 17) → pX11_frameNow_b138 Po μ c2 (μ.1 26 0 17)) ∧ (¬ ((c1 + (48000 : Int32)) ≤ (μ.1 26 0 17)) → pX11_frameNow_b138 Po μ c2 (c1 + (48000 : Int32)))) (fun μ a1 a2 a3 => K9 (μ, a1, a2, a3)) t9.1 t9.2.1 t9.2.2.1 t9.2.2.2) (μ, x1, (0 : Int32), (0 : Int32)))
set_option maxHeartbeats 4000000 in
set_option maxRecDepth 100000 in
theorem kX11_frameNow (l : Launch) : mm_CI l yX11_frameNow wsX11_frameNow ({ frames := 4, cells := 0, slots := 0, locals := 94 }) (fun z => [.ref (z + mm_ad 26 0)]) (fun μ Po => pX11_frameNow Po μ) := by
  refine je_I (cc := cX11_frameNow) (nL := 5) (own := RX11) (plainFor_of_name (by decide)) rfl rfl (fun _ => Nat.le_of_ble_eq_true rfl) ?_
  intro p e s m args below meth c D cy z μ Po C hr hk h
  change jJ p l e ({ frames := 4, cells := 0, slots := 0, locals := 94 }) s m args below meth c D cy z (MQ below (va_Qi Po (mm_Po D cy z) (mm_A z)) args s 0 0 (mm_A z)) 5 μ 0 [(0, .ref (z + mm_ad 26 0))] []
  replace h : pX11_frameNow Po μ := h
  unfold pX11_frameNow at h
  refine jr_aload_n (q := 1) C 0 dX11_frameNow_0 rfl rfl rfl ?_
  refine jr_getI (q := 4) (ci := 11) (Cn := RX11) (T := TX11) (N := 42) (j := 17) C mf_26 rfl rfl (by decide) rfl rfl nX11_frameNow_11 mX11_frameNow_1 dX11_frameNow_1 rfl rfl ?_
  refine jn_int (fun x1 ex1 => ?_)
  replace h := h x1 ex1
  refine jr_istore_n (q := 5) (lv' := [(1, .int x1), (0, .ref (z + mm_ad 26 0))]) C dX11_frameNow_4 rfl (by decide) rfl rfl ?_
  refine jr_iconst (q := 6) (v := (0 : Int32)) C dX11_frameNow_5 (by decide) rfl ?_
  refine jr_istore_n (q := 7) (lv' := [(2, .int (0 : Int32)), (1, .int x1), (0, .ref (z + mm_ad 26 0))]) C dX11_frameNow_6 rfl (by decide) rfl rfl ?_
  refine jr_iconst (q := 8) (v := (0 : Int32)) C dX11_frameNow_7 (by decide) rfl ?_
  refine jr_istore_n (q := 9) (lv' := [(3, .int (0 : Int32)), (2, .int (0 : Int32)), (1, .int x1), (0, .ref (z + mm_ad 26 0))]) C dX11_frameNow_8 rfl (by decide) rfl rfl ?_
  have l9 : ∀ (E9_113 : mm_T → Int32 → Int32 → Prop) (hE9_113 : ∀ (μ : mm_T) (c1 : Int32) (c2 : Int32), E9_113 μ c1 c2 → jJ p l e ({ frames := 4, cells := 0, slots := 0, locals := 94 }) s m args below meth c D cy z (MQ below (va_Qi Po (mm_Po D cy z) (mm_A z)) args s 0 0 (mm_A z)) 5 μ 113 [(0, .ref (z + mm_ad 26 0)), (1, .int c1), (2, .int c2)] []), ∀ t9 : mm_T × Int32 × Int32 × Int32, lp_ (fun (K9 : mm_T × Int32 × Int32 × Int32 → Prop) (t9 : mm_T × Int32 × Int32 × Int32) => pX11_frameNow_l9 Po E9_113 (fun μ a1 a2 a3 => K9 (μ, a1, a2, a3)) t9.1 t9.2.1 t9.2.2.1 t9.2.2.2) t9 → jJ p l e ({ frames := 4, cells := 0, slots := 0, locals := 94 }) s m args below meth c D cy z (MQ below (va_Qi Po (mm_Po D cy z) (mm_A z)) args s 0 0 (mm_A z)) 5 t9.1 9 [(0, .ref (z + mm_ad 26 0)), (1, .int t9.2.1), (2, .int t9.2.2.1), (3, .int t9.2.2.2)] [] := by
    intro E9_113 hE9_113 t9 h
    refine lp_go (P := fun t9 : mm_T × Int32 × Int32 × Int32 => jJ p l e ({ frames := 4, cells := 0, slots := 0, locals := 94 }) s m args below meth c D cy z (MQ below (va_Qi Po (mm_Po D cy z) (mm_A z)) args s 0 0 (mm_A z)) 5 t9.1 9 [(0, .ref (z + mm_ad 26 0)), (1, .int t9.2.1), (2, .int t9.2.2.1), (3, .int t9.2.2.2)] []) (fun K9 t9 hK h => ?_) t9 h
    obtain ⟨μ, a1, a2, a3⟩ := t9
    obtain ⟨K9, eK9⟩ : ∃ K : mm_T → Int32 → Int32 → Int32 → Prop, K = (fun μ a1 a2 a3 => K9 (μ, a1, a2, a3)) := ⟨_, rfl⟩
    have hK9 : ∀ (μ : mm_T) (a1 : Int32) (a2 : Int32) (a3 : Int32), K9 μ a1 a2 a3 → jJ p l e ({ frames := 4, cells := 0, slots := 0, locals := 94 }) s m args below meth c D cy z (MQ below (va_Qi Po (mm_Po D cy z) (mm_A z)) args s 0 0 (mm_A z)) 5 μ 9 [(0, .ref (z + mm_ad 26 0)), (1, .int a1), (2, .int a2), (3, .int a3)] [] := fun μ a1 a2 a3 h9 => hK (μ, a1, a2, a3) (by rw [eK9] at h9; exact h9)
    replace h : pX11_frameNow_l9 Po E9_113 K9 μ a1 a2 a3 := by rw [eK9]; exact h
    unfold pX11_frameNow_l9 at h
    refine jr_iload_n (q := 10) C 3 dX11_frameNow_9 rfl rfl rfl ?_
    refine jr_bipush (q := 12) (v := (16 : Int32)) C dX11_frameNow_10 (by decide) rfl ?_
    refine jr_icmp_ge (q := 15) (tgt := 113) C dX11_frameNow_12 (by decide) rfl (fun c20 => ?_) (fun c20 => ?_)
    · replace h := h.1 c20
      refine jr_sub [0, 1, 2] rfl ?_
      exact hE9_113 _ _ _ h
    · replace h := h.2 c20
      refine jr_aload_n (q := 16) C 0 dX11_frameNow_15 rfl rfl rfl ?_
      refine jr_aload_n (q := 17) C 0 dX11_frameNow_16 rfl rfl rfl ?_
      refine jr_getI (q := 20) (ci := 11) (Cn := RX11) (T := TX11) (N := 42) (j := 17) C mf_26 rfl rfl (by decide) rfl rfl nX11_frameNow_11 mX11_frameNow_1 dX11_frameNow_17 rfl rfl ?_
      refine jr_iload_n (q := 21) C 1 dX11_frameNow_20 rfl rfl rfl ?_
      refine jr_sipush (q := 24) (v := (3000 : Int32)) C dX11_frameNow_21 (by decide) rfl ?_
      refine jr_iload_n (q := 25) C 3 dX11_frameNow_24 rfl rfl rfl ?_
      refine jr_imul (q := 26) C dX11_frameNow_25 rfl ?_
      refine jr_iadd (q := 27) C dX11_frameNow_26 rfl ?_
      have b44 : ∀ (μ : mm_T) (a1 : Int32) (a2 : Int32) (a3 : Int32) (as0 : Int32), pX11_frameNow_b44 K9 μ a1 a2 a3 as0 → jJ p l e ({ frames := 4, cells := 0, slots := 0, locals := 94 }) s m args below meth c D cy z (MQ below (va_Qi Po (mm_Po D cy z) (mm_A z)) args s 0 0 (mm_A z)) 5 μ 44 [(0, .ref (z + mm_ad 26 0)), (1, .int a1), (2, .int a2), (3, .int a3)] [.int as0, .ref (z + mm_ad 26 0)] := by
        intro μ a1 a2 a3 as0 h
        unfold pX11_frameNow_b44 at h
        refine jr_putI (q := 47) (ci := 11) (Cn := RX11) (T := TX11) (N := 42) (j := 17) C mf_26 rfl rfl (by decide) rfl rfl tyX11 tyX11_ok nmX11 rfl (by decide +kernel) nX11_frameNow_11 mX11_frameNow_1 dX11_frameNow_44 rfl rfl ?_
        refine jn_mem (fun μ5 eμ5 => ?_)
        replace h := h μ5 eμ5
        refine jr_aload_n (q := 48) C 0 dX11_frameNow_47 rfl rfl rfl ?_
        refine jr_getR (q := 51) (ci := 11) (Cn := RX11) (T := TX11) (N := 42) (j := 16) C mf_26 rfl rfl (by decide) rfl 41 0 rfl rfl rfl nX11_frameNow_11 mX11_frameNow_4 dX11_frameNow_48 rfl rfl ?_
        refine jr_iload_n (q := 52) C 3 dX11_frameNow_51 rfl rfl rfl ?_
        obtain ⟨g6, h⟩ := h
        refine jr_iald (q := 53) C mf_41 rfl g6 dX11_frameNow_52 rfl ?_
        refine jn_int (fun x7 ex7 => ?_)
        replace h := h x7 ex7
        refine jr_istore (q := 55) (lv' := [(4, .int x7), (0, .ref (z + mm_ad 26 0)), (1, .int a1), (2, .int a2), (3, .int a3)]) C dX11_frameNow_53 (by decide) rfl rfl ?_
        refine jr_iload (q := 57) C 0 dX11_frameNow_55 rfl rfl ?_
        refine jr_iconst (q := 58) (v := (-1 : Int32)) C dX11_frameNow_57 (by decide) rfl ?_
        refine jr_icmp_eq (q := 61) (tgt := 107) C dX11_frameNow_58 (by decide) rfl (fun c18 => ?_) (fun c18 => ?_)
        · replace h := h.1 c18
          refine jr_iinc (q := 110) (lv' := [(3, .int (a3 + (1 : Int32))), (4, .int x7), (0, .ref (z + mm_ad 26 0)), (1, .int a1), (2, .int a2)]) C 4 dX11_frameNow_107 rfl (by rfl) (by decide) rfl rfl ?_
          refine jr_goto (tgt := 9) C dX11_frameNow_110 (by decide) ?_
          refine jr_sub [2, 3, 4, 0] rfl ?_
          exact hK9 _ _ _ _ h
        · replace h := h.2 c18
          refine jr_iload_n (q := 62) C 3 dX11_frameNow_61 rfl rfl rfl ?_
          refine jr_aload_n (q := 63) C 1 dX11_frameNow_62 rfl rfl rfl ?_
          refine jr_iload (q := 65) C 0 dX11_frameNow_63 rfl rfl ?_
          refine jr_aload_n (q := 66) C 1 dX11_frameNow_65 rfl rfl rfl ?_
          refine jr_getR (q := 69) (ci := 11) (Cn := RX11) (T := TX11) (N := 42) (j := 10) C mf_26 rfl rfl (by decide) rfl 35 0 rfl rfl rfl nX11_frameNow_11 mX11_frameNow_5 dX11_frameNow_66 rfl rfl ?_
          refine jr_iload (q := 71) C 0 dX11_frameNow_69 rfl rfl ?_
          obtain ⟨g8, h⟩ := h
          refine jr_iald (q := 72) C mf_35 rfl g8 dX11_frameNow_71 rfl ?_
          refine jr_cvI (q := 75) (As := [.int x7, .int (μ5.1 35 0 x7.toNatClampNeg)]) (rest := [.int a2]) C (f := 26) (i := 0) (ci := 11) mf_26 rfl rfl rfl (kX11_exchangeNow l x7 (μ5.1 35 0 x7.toNatClampNeg)) rfl gX11_frameNow_X11_exchangeNow rfl dsc_X11_exchangeNow ⟨rfl, rfl⟩ ⟨by decide, by decide⟩ rfl rfl (Nat.le_of_ble_eq_true rfl) dX11_frameNow_72 rfl h (fun r10 μ9 h => ?_)
          refine jr_ldc (q := 77) (v := (-1000005 : Int32)) C dX11_frameNow_75 mX11_frameNow_6 rfl ?_
          have b85 : ∀ (μ : mm_T) (a1 : Int32) (a3 : Int32) (a4 : Int32) (as0 : Int32) (as1 : Int32), pX11_frameNow_b85 K9 μ a1 a3 a4 as0 as1 → jJ p l e ({ frames := 4, cells := 0, slots := 0, locals := 94 }) s m args below meth c D cy z (MQ below (va_Qi Po (mm_Po D cy z) (mm_A z)) args s 0 0 (mm_A z)) 5 μ 85 [(0, .ref (z + mm_ad 26 0)), (1, .int a1), (3, .int a3), (4, .int a4)] [.int as0, .int as1] := by
            intro μ a1 a3 a4 as0 as1 h
            unfold pX11_frameNow_b85 at h
            refine jr_iadd (q := 86) C dX11_frameNow_85 rfl ?_
            refine jn_int (fun x11 ex11 => ?_)
            replace h := h x11 ex11
            refine jr_istore_n (q := 87) (lv' := [(2, .int x11), (0, .ref (z + mm_ad 26 0)), (1, .int a1), (3, .int a3), (4, .int a4)]) C dX11_frameNow_86 rfl (by decide) rfl rfl ?_
            refine jr_aload_n (q := 88) C 1 dX11_frameNow_87 rfl rfl rfl ?_
            refine jr_getR (q := 91) (ci := 11) (Cn := RX11) (T := TX11) (N := 42) (j := 10) C mf_26 rfl rfl (by decide) rfl 35 0 rfl rfl rfl nX11_frameNow_11 mX11_frameNow_5 dX11_frameNow_88 rfl rfl ?_
            refine jr_iload (q := 93) C 4 dX11_frameNow_91 rfl rfl ?_
            refine jr_aload_n (q := 94) C 1 dX11_frameNow_93 rfl rfl rfl ?_
            refine jr_aload_n (q := 95) C 1 dX11_frameNow_94 rfl rfl rfl ?_
            refine jr_getR (q := 98) (ci := 11) (Cn := RX11) (T := TX11) (N := 42) (j := 10) C mf_26 rfl rfl (by decide) rfl 35 0 rfl rfl rfl nX11_frameNow_11 mX11_frameNow_5 dX11_frameNow_95 rfl rfl ?_
            refine jr_iload (q := 100) C 4 dX11_frameNow_98 rfl rfl ?_
            obtain ⟨g12, h⟩ := h
            refine jr_iald (q := 101) C mf_35 rfl g12 dX11_frameNow_100 rfl ?_
            refine jr_iconst (q := 102) (v := (1 : Int32)) C dX11_frameNow_101 (by decide) rfl ?_
            refine jr_iadd (q := 103) C dX11_frameNow_102 rfl ?_
            refine jr_cvI (q := 106) (As := [.int ((μ.1 35 0 a4.toNatClampNeg) + (1 : Int32))]) (rest := [.int a4, .ref (z + mm_ad 35 0)]) C (f := 26) (i := 0) (ci := 11) mf_26 rfl rfl rfl (kX11_anchorFrom l ((μ.1 35 0 a4.toNatClampNeg) + (1 : Int32))) rfl gX11_frameNow_X11_anchorFrom rfl dsc_X11_anchorFrom ⟨rfl, rfl⟩ ⟨by decide, by decide⟩ rfl rfl (Nat.le_of_ble_eq_true rfl) dX11_frameNow_103 rfl h (fun r14 μ13 h => ?_)
            obtain ⟨g15, h⟩ := h
            refine jr_iast (q := 107) C mf_35 rfl g15 dX11_frameNow_106 rfl ?_
            refine jn_mem (fun μ16 eμ16 => ?_)
            replace h := h μ16 eμ16
            refine jr_iinc (q := 110) (lv' := [(3, .int (a3 + (1 : Int32))), (2, .int x11), (0, .ref (z + mm_ad 26 0)), (1, .int a1), (4, .int a4)]) C 3 dX11_frameNow_107 rfl (by rfl) (by decide) rfl rfl ?_
            refine jr_goto (tgt := 9) C dX11_frameNow_110 (by decide) ?_
            refine jr_sub [2, 3, 1, 0] rfl ?_
            exact hK9 _ _ _ _ h
          refine jr_icmp_ne (q := 80) (tgt := 84) C dX11_frameNow_77 (by decide) rfl (fun c17 => ?_) (fun c17 => ?_)
          · replace h := h.1 c17
            refine jr_iconst (q := 85) (v := (1 : Int32)) C dX11_frameNow_84 (by decide) rfl ?_
            refine jr_sub [1, 2, 4, 0] rfl ?_
            exact b85 _ _ _ _ _ _ h
          · replace h := h.2 c17
            refine jr_iconst (q := 81) (v := (0 : Int32)) C dX11_frameNow_80 (by decide) rfl ?_
            refine jr_goto (tgt := 85) C dX11_frameNow_81 (by decide) ?_
            refine jr_sub [1, 2, 4, 0] rfl ?_
            exact b85 _ _ _ _ _ _ h
      refine jr_icmp_ge (q := 30) (tgt := 40) C dX11_frameNow_27 (by decide) rfl (fun c19 => ?_) (fun c19 => ?_)
      · replace h := h.1 c19
        refine jr_aload_n (q := 41) C 0 dX11_frameNow_40 rfl rfl rfl ?_
        refine jr_getI (q := 44) (ci := 11) (Cn := RX11) (T := TX11) (N := 42) (j := 17) C mf_26 rfl rfl (by decide) rfl rfl nX11_frameNow_11 mX11_frameNow_1 dX11_frameNow_41 rfl rfl ?_
        refine jr_sub [0, 1, 2, 3] rfl ?_
        exact b44 _ _ _ _ _ h
      · replace h := h.2 c19
        refine jr_iload_n (q := 31) C 1 dX11_frameNow_30 rfl rfl rfl ?_
        refine jr_sipush (q := 34) (v := (3000 : Int32)) C dX11_frameNow_31 (by decide) rfl ?_
        refine jr_iload_n (q := 35) C 3 dX11_frameNow_34 rfl rfl rfl ?_
        refine jr_imul (q := 36) C dX11_frameNow_35 rfl ?_
        refine jr_iadd (q := 37) C dX11_frameNow_36 rfl ?_
        refine jr_goto (tgt := 44) C dX11_frameNow_37 (by decide) ?_
        refine jr_sub [0, 1, 2, 3] rfl ?_
        exact b44 _ _ _ _ _ h
  have x9_113 : ∀ (μ : mm_T) (c1 : Int32) (c2 : Int32), (((c1 + (48000 : Int32)) ≤ (μ.1 26 0 17) → pX11_frameNow_b138 Po μ c2 (μ.1 26 0 17)) ∧ (¬ ((c1 + (48000 : Int32)) ≤ (μ.1 26 0 17)) → pX11_frameNow_b138 Po μ c2 (c1 + (48000 : Int32)))) → jJ p l e ({ frames := 4, cells := 0, slots := 0, locals := 94 }) s m args below meth c D cy z (MQ below (va_Qi Po (mm_Po D cy z) (mm_A z)) args s 0 0 (mm_A z)) 5 μ 113 [(0, .ref (z + mm_ad 26 0)), (1, .int c1), (2, .int c2)] [] := by
    intro μ c1 c2 h
    refine jr_aload_n (q := 114) C 0 dX11_frameNow_113 rfl rfl rfl ?_
    refine jr_aload_n (q := 115) C 0 dX11_frameNow_114 rfl rfl rfl ?_
    refine jr_getI (q := 118) (ci := 11) (Cn := RX11) (T := TX11) (N := 42) (j := 17) C mf_26 rfl rfl (by decide) rfl rfl nX11_frameNow_11 mX11_frameNow_1 dX11_frameNow_115 rfl rfl ?_
    refine jr_iload_n (q := 119) C 1 dX11_frameNow_118 rfl rfl rfl ?_
    refine jr_ldcw (q := 122) (v := (48000 : Int32)) C dX11_frameNow_119 mX11_frameNow_2 rfl ?_
    refine jr_iadd (q := 123) C dX11_frameNow_122 rfl ?_
    have b138 : ∀ (μ : mm_T) (a2 : Int32) (as0 : Int32), pX11_frameNow_b138 Po μ a2 as0 → jJ p l e ({ frames := 4, cells := 0, slots := 0, locals := 94 }) s m args below meth c D cy z (MQ below (va_Qi Po (mm_Po D cy z) (mm_A z)) args s 0 0 (mm_A z)) 5 μ 138 [(0, .ref (z + mm_ad 26 0)), (2, .int a2)] [.int as0, .ref (z + mm_ad 26 0)] := by
      intro μ a2 as0 h
      unfold pX11_frameNow_b138 at h
      refine jr_putI (q := 141) (ci := 11) (Cn := RX11) (T := TX11) (N := 42) (j := 17) C mf_26 rfl rfl (by decide) rfl rfl tyX11 tyX11_ok nmX11 rfl (by decide +kernel) nX11_frameNow_11 mX11_frameNow_1 dX11_frameNow_138 rfl rfl ?_
      refine jn_mem (fun μ2 eμ2 => ?_)
      replace h := h μ2 eμ2
      refine jr_aload_n (q := 142) C 0 dX11_frameNow_141 rfl rfl rfl ?_
      refine jr_dup (q := 143) C dX11_frameNow_142 rfl rfl ?_
      refine jr_getI (q := 146) (ci := 11) (Cn := RX11) (T := TX11) (N := 42) (j := 30) C mf_26 rfl rfl (by decide) rfl rfl nX11_frameNow_11 mX11_frameNow_3 dX11_frameNow_143 rfl rfl ?_
      refine jr_iconst (q := 147) (v := (1 : Int32)) C dX11_frameNow_146 (by decide) rfl ?_
      refine jr_iadd (q := 148) C dX11_frameNow_147 rfl ?_
      refine jr_putI (q := 151) (ci := 11) (Cn := RX11) (T := TX11) (N := 42) (j := 30) C mf_26 rfl rfl (by decide) rfl rfl tyX11 tyX11_ok nmX11 rfl (by decide +kernel) nX11_frameNow_11 mX11_frameNow_3 dX11_frameNow_148 rfl rfl ?_
      refine jn_mem (fun μ3 eμ3 => ?_)
      replace h := h μ3 eμ3
      refine jr_iload_n (q := 152) C 1 dX11_frameNow_151 rfl rfl rfl ?_
      exact jr_iret C hr hk dX11_frameNow_152 h
    refine jr_icmp_ge (q := 126) (tgt := 134) C dX11_frameNow_123 (by decide) rfl (fun c4 => ?_) (fun c4 => ?_)
    · replace h := h.1 c4
      refine jr_aload_n (q := 135) C 0 dX11_frameNow_134 rfl rfl rfl ?_
      refine jr_getI (q := 138) (ci := 11) (Cn := RX11) (T := TX11) (N := 42) (j := 17) C mf_26 rfl rfl (by decide) rfl rfl nX11_frameNow_11 mX11_frameNow_1 dX11_frameNow_135 rfl rfl ?_
      refine jr_sub [0, 2] rfl ?_
      exact b138 _ _ _ h
    · replace h := h.2 c4
      refine jr_iload_n (q := 127) C 1 dX11_frameNow_126 rfl rfl rfl ?_
      refine jr_ldcw (q := 130) (v := (48000 : Int32)) C dX11_frameNow_127 mX11_frameNow_2 rfl ?_
      refine jr_iadd (q := 131) C dX11_frameNow_130 rfl ?_
      refine jr_goto (tgt := 138) C dX11_frameNow_131 (by decide) ?_
      refine jr_sub [0, 2] rfl ?_
      exact b138 _ _ _ h
  refine jr_sub [3, 2, 1, 0] rfl ?_
  exact l9 _ x9_113 _ h
theorem mX11_frame_0 : Cond.constant RX11 152 (-1000003) ∈ wsX11_frame := List.mem_of_getElem? (i := 4) (by decide +kernel)
theorem nX11_frame_11 : ∀ w ∈ wsX110, w ∈ wsX11_frame := fun _ h => List.mem_cons_of_mem _ (List.mem_append_right _ h)
theorem mX11_frame_2 : Cond.fieldLink RX11 140 RX11 (TX11 17).2.1 (TX11 17).2.2.1 ∈ wsX11_frame := List.mem_of_getElem? (i := 1) (by decide +kernel)
theorem mX11_frame_3 : Cond.constant RX11 283 (48000) ∈ wsX11_frame := List.mem_of_getElem? (i := 2) (by decide +kernel)
theorem mX11_frame_4 : Cond.constant RX11 236 (9999999) ∈ wsX11_frame := List.mem_of_getElem? (i := 3) (by decide +kernel)
theorem dsc_X11_frame : yX11_frame.cls ≠ "java/lang/invoke/MethodHandle" ∧ yX11_frame.cls ≠ "java/lang/invoke/VarHandle" ∧ (parseMethodDescriptor yX11_frame.desc).map (fun d => d.parameters.length) = some 0 := by decide +kernel
def pX11_frame (Po : Int32 → mm_T → Prop) (μ : mm_T) : Prop := pX11_isField (fun r2 μ1 => (r2 = 0 → Po (-1000003 : Int32) μ1) ∧ (¬ (r2 = 0) → ((9999999 : Int32) < ((μ1.1 26 0 17) + (48000 : Int32)) → Po (-1000003 : Int32) μ1) ∧ (¬ ((9999999 : Int32) < ((μ1.1 26 0 17) + (48000 : Int32))) → pX11_frameNow (fun r4 μ3 => Po r4 μ3) μ1 ))) μ 
set_option maxHeartbeats 4000000 in
set_option maxRecDepth 100000 in
theorem kX11_frame (l : Launch) : mm_CI l yX11_frame wsX11_frame ({ frames := 5, cells := 0, slots := 0, locals := 118 }) (fun z => [.ref (z + mm_ad 26 0)]) (fun μ Po => pX11_frame Po μ) := by
  refine je_I (cc := cX11_frame) (nL := 1) (own := RX11) (plainFor_of_name (by decide)) rfl rfl (fun _ => Nat.le_of_ble_eq_true rfl) ?_
  intro p e s m args below meth c D cy z μ Po C hr hk h
  change jJ p l e ({ frames := 5, cells := 0, slots := 0, locals := 118 }) s m args below meth c D cy z (MQ below (va_Qi Po (mm_Po D cy z) (mm_A z)) args s 0 0 (mm_A z)) 1 μ 0 [(0, .ref (z + mm_ad 26 0))] []
  replace h : pX11_frame Po μ := h
  unfold pX11_frame at h
  refine jr_aload_n (q := 1) C 0 dX11_frame_0 rfl rfl rfl ?_
  refine jr_cvI (q := 4) (As := []) (rest := []) C (f := 26) (i := 0) (ci := 11) mf_26 rfl rfl rfl (kX11_isField l) rfl gX11_frame_X11_isField rfl dsc_X11_isField ⟨rfl, rfl⟩ ⟨by decide, by decide⟩ rfl rfl (Nat.le_of_ble_eq_true rfl) dX11_frame_1 rfl h (fun r2 μ1 h => ?_)
  refine jr_if_eq (q := 7) (tgt := 27) C dX11_frame_4 (by decide) rfl (fun c6 => ?_) (fun c6 => ?_)
  · replace h := h.1 c6
    refine jr_ldc (q := 29) (v := (-1000003 : Int32)) C dX11_frame_27 mX11_frame_0 rfl ?_
    exact jr_iret C hr hk dX11_frame_29 h
  · replace h := h.2 c6
    refine jr_aload_n (q := 8) C 0 dX11_frame_7 rfl rfl rfl ?_
    refine jr_getI (q := 11) (ci := 11) (Cn := RX11) (T := TX11) (N := 42) (j := 17) C mf_26 rfl rfl (by decide) rfl rfl nX11_frame_11 mX11_frame_2 dX11_frame_8 rfl rfl ?_
    refine jr_ldcw (q := 14) (v := (48000 : Int32)) C dX11_frame_11 mX11_frame_3 rfl ?_
    refine jr_iadd (q := 15) C dX11_frame_14 rfl ?_
    refine jr_ldc (q := 17) (v := (9999999 : Int32)) C dX11_frame_15 mX11_frame_4 rfl ?_
    refine jr_icmp_gt (q := 20) (tgt := 27) C dX11_frame_17 (by decide) rfl (fun c5 => ?_) (fun c5 => ?_)
    · replace h := h.1 c5
      refine jr_ldc (q := 29) (v := (-1000003 : Int32)) C dX11_frame_27 mX11_frame_0 rfl ?_
      exact jr_iret C hr hk dX11_frame_29 h
    · replace h := h.2 c5
      refine jr_aload_n (q := 21) C 0 dX11_frame_20 rfl rfl rfl ?_
      refine jr_cvI (q := 24) (As := []) (rest := []) C (f := 26) (i := 0) (ci := 11) mf_26 rfl rfl rfl (kX11_frameNow l) rfl gX11_frame_X11_frameNow rfl dsc_X11_frameNow ⟨rfl, rfl⟩ ⟨by decide, by decide⟩ rfl rfl (Nat.le_of_ble_eq_true rfl) dX11_frame_21 rfl h (fun r4 μ3 h => ?_)
      refine jr_goto (tgt := 29) C dX11_frame_24 (by decide) ?_
      exact jr_iret C hr hk dX11_frame_29 h
theorem nX11_tagsMany_11 : ∀ w ∈ wsX110, w ∈ wsX11_tagsMany := fun _ h => List.mem_cons_of_mem _ (List.mem_append_right _ h)
theorem mX11_tagsMany_1 : Cond.fieldLink RX11 129 RX11 (TX11 2).2.1 (TX11 2).2.2.1 ∈ wsX11_tagsMany := List.mem_of_getElem? (i := 1) (by decide +kernel)
theorem mX11_tagsMany_2 : Cond.fieldLink RX11 13 RX11 (TX11 3).2.1 (TX11 3).2.2.1 ∈ wsX11_tagsMany := List.mem_of_getElem? (i := 2) (by decide +kernel)
theorem dsc_X11_tagsMany : yX11_tagsMany.cls ≠ "java/lang/invoke/MethodHandle" ∧ yX11_tagsMany.cls ≠ "java/lang/invoke/VarHandle" ∧ (parseMethodDescriptor yX11_tagsMany.desc).map (fun d => d.parameters.length) = some 0 := by decide +kernel
def pX11_tagsMany_l4 (Po : Int32 → mm_T → Prop) (E4_35 : mm_T → Int32 → Prop) (K4 : mm_T → Int32 → Int32 → Prop) (μ : mm_T) (a1 : Int32) (a2 : Int32) : Prop := ((μ.1 26 0 2) ≤ a2 → E4_35 μ a1) ∧ (¬ ((μ.1 26 0 2) ≤ a2) → (vp_in a2 7) ∧ (((μ.1 28 0 a2.toNatClampNeg) = 0 → ∀ x2 : Int32, x2 = a1 + (0 : Int32) → (K4 μ x2 (a2 + (1 : Int32)))) ∧ (¬ ((μ.1 28 0 a2.toNatClampNeg) = 0) → ∀ x3 : Int32, x3 = a1 + (1 : Int32) → (K4 μ x3 (a2 + (1 : Int32))))))
def pX11_tagsMany (Po : Int32 → mm_T → Prop) (μ : mm_T) : Prop := lp_ (fun (K9 : mm_T × Int32 × Int32 → Prop) (t9 : mm_T × Int32 × Int32) => pX11_tagsMany_l4 Po (fun μ c1 => Po c1 μ) (fun μ a1 a2 => K9 (μ, a1, a2)) t9.1 t9.2.1 t9.2.2) (μ, (0 : Int32), (0 : Int32))
set_option maxHeartbeats 4000000 in
set_option maxRecDepth 100000 in
theorem kX11_tagsMany (l : Launch) : mm_CI l yX11_tagsMany wsX11_tagsMany ({ frames := 0, cells := 0, slots := 0, locals := 0 }) (fun z => [.ref (z + mm_ad 26 0)]) (fun μ Po => pX11_tagsMany Po μ) := by
  refine je_I (cc := cX11_tagsMany) (nL := 3) (own := RX11) (plainFor_of_name (by decide)) rfl rfl (fun _ => Nat.le_of_ble_eq_true rfl) ?_
  intro p e s m args below meth c D cy z μ Po C hr hk h
  change jJ p l e ({ frames := 0, cells := 0, slots := 0, locals := 0 }) s m args below meth c D cy z (MQ below (va_Qi Po (mm_Po D cy z) (mm_A z)) args s 0 0 (mm_A z)) 3 μ 0 [(0, .ref (z + mm_ad 26 0))] []
  replace h : pX11_tagsMany Po μ := h
  unfold pX11_tagsMany at h
  refine jr_iconst (q := 1) (v := (0 : Int32)) C dX11_tagsMany_0 (by decide) rfl ?_
  refine jr_istore_n (q := 2) (lv' := [(1, .int (0 : Int32)), (0, .ref (z + mm_ad 26 0))]) C dX11_tagsMany_1 rfl (by decide) rfl rfl ?_
  refine jr_iconst (q := 3) (v := (0 : Int32)) C dX11_tagsMany_2 (by decide) rfl ?_
  refine jr_istore_n (q := 4) (lv' := [(2, .int (0 : Int32)), (1, .int (0 : Int32)), (0, .ref (z + mm_ad 26 0))]) C dX11_tagsMany_3 rfl (by decide) rfl rfl ?_
  have l4 : ∀ (E4_35 : mm_T → Int32 → Prop) (hE4_35 : ∀ (μ : mm_T) (c1 : Int32), E4_35 μ c1 → jJ p l e ({ frames := 0, cells := 0, slots := 0, locals := 0 }) s m args below meth c D cy z (MQ below (va_Qi Po (mm_Po D cy z) (mm_A z)) args s 0 0 (mm_A z)) 3 μ 35 [(1, .int c1)] []), ∀ t9 : mm_T × Int32 × Int32, lp_ (fun (K9 : mm_T × Int32 × Int32 → Prop) (t9 : mm_T × Int32 × Int32) => pX11_tagsMany_l4 Po E4_35 (fun μ a1 a2 => K9 (μ, a1, a2)) t9.1 t9.2.1 t9.2.2) t9 → jJ p l e ({ frames := 0, cells := 0, slots := 0, locals := 0 }) s m args below meth c D cy z (MQ below (va_Qi Po (mm_Po D cy z) (mm_A z)) args s 0 0 (mm_A z)) 3 t9.1 4 [(0, .ref (z + mm_ad 26 0)), (1, .int t9.2.1), (2, .int t9.2.2)] [] := by
    intro E4_35 hE4_35 t9 h
    refine lp_go (P := fun t9 : mm_T × Int32 × Int32 => jJ p l e ({ frames := 0, cells := 0, slots := 0, locals := 0 }) s m args below meth c D cy z (MQ below (va_Qi Po (mm_Po D cy z) (mm_A z)) args s 0 0 (mm_A z)) 3 t9.1 4 [(0, .ref (z + mm_ad 26 0)), (1, .int t9.2.1), (2, .int t9.2.2)] []) (fun K9 t9 hK h => ?_) t9 h
    obtain ⟨μ, a1, a2⟩ := t9
    obtain ⟨K4, eK4⟩ : ∃ K : mm_T → Int32 → Int32 → Prop, K = (fun μ a1 a2 => K9 (μ, a1, a2)) := ⟨_, rfl⟩
    have hK4 : ∀ (μ : mm_T) (a1 : Int32) (a2 : Int32), K4 μ a1 a2 → jJ p l e ({ frames := 0, cells := 0, slots := 0, locals := 0 }) s m args below meth c D cy z (MQ below (va_Qi Po (mm_Po D cy z) (mm_A z)) args s 0 0 (mm_A z)) 3 μ 4 [(0, .ref (z + mm_ad 26 0)), (1, .int a1), (2, .int a2)] [] := fun μ a1 a2 h9 => hK (μ, a1, a2) (by rw [eK4] at h9; exact h9)
    replace h : pX11_tagsMany_l4 Po E4_35 K4 μ a1 a2 := by rw [eK4]; exact h
    unfold pX11_tagsMany_l4 at h
    refine jr_iload_n (q := 5) C 2 dX11_tagsMany_4 rfl rfl rfl ?_
    refine jr_aload_n (q := 6) C 0 dX11_tagsMany_5 rfl rfl rfl ?_
    refine jr_getI (q := 9) (ci := 11) (Cn := RX11) (T := TX11) (N := 42) (j := 2) C mf_26 rfl rfl (by decide) rfl rfl nX11_tagsMany_11 mX11_tagsMany_1 dX11_tagsMany_6 rfl rfl ?_
    refine jr_icmp_ge (q := 12) (tgt := 35) C dX11_tagsMany_9 (by decide) rfl (fun c5 => ?_) (fun c5 => ?_)
    · replace h := h.1 c5
      refine jr_sub [1] rfl ?_
      exact hE4_35 _ _ h
    · replace h := h.2 c5
      refine jr_iload_n (q := 13) C 1 dX11_tagsMany_12 rfl rfl rfl ?_
      refine jr_aload_n (q := 14) C 0 dX11_tagsMany_13 rfl rfl rfl ?_
      refine jr_getR (q := 17) (ci := 11) (Cn := RX11) (T := TX11) (N := 42) (j := 3) C mf_26 rfl rfl (by decide) rfl 28 0 rfl rfl rfl nX11_tagsMany_11 mX11_tagsMany_2 dX11_tagsMany_14 rfl rfl ?_
      refine jr_iload_n (q := 18) C 2 dX11_tagsMany_17 rfl rfl rfl ?_
      obtain ⟨g1, h⟩ := h
      refine jr_zald (q := 19) C mf_28 rfl g1 dX11_tagsMany_18 rfl ?_
      refine jr_if_eq (q := 22) (tgt := 26) C dX11_tagsMany_19 (by decide) rfl (fun c4 => ?_) (fun c4 => ?_)
      · replace h := h.1 c4
        refine jr_iconst (q := 27) (v := (0 : Int32)) C dX11_tagsMany_26 (by decide) rfl ?_
        refine jr_iadd (q := 28) C dX11_tagsMany_27 rfl ?_
        refine jn_int (fun x2 ex2 => ?_)
        replace h := h x2 ex2
        refine jr_istore_n (q := 29) (lv' := [(1, .int x2), (0, .ref (z + mm_ad 26 0)), (2, .int a2)]) C dX11_tagsMany_28 rfl (by decide) rfl rfl ?_
        refine jr_iinc (q := 32) (lv' := [(2, .int (a2 + (1 : Int32))), (1, .int x2), (0, .ref (z + mm_ad 26 0))]) C 2 dX11_tagsMany_29 rfl (by rfl) (by decide) rfl rfl ?_
        refine jr_goto (tgt := 4) C dX11_tagsMany_32 (by decide) ?_
        refine jr_sub [2, 1, 0] rfl ?_
        exact hK4 _ _ _ h
      · replace h := h.2 c4
        refine jr_iconst (q := 23) (v := (1 : Int32)) C dX11_tagsMany_22 (by decide) rfl ?_
        refine jr_goto (tgt := 27) C dX11_tagsMany_23 (by decide) ?_
        refine jr_iadd (q := 28) C dX11_tagsMany_27 rfl ?_
        refine jn_int (fun x3 ex3 => ?_)
        replace h := h x3 ex3
        refine jr_istore_n (q := 29) (lv' := [(1, .int x3), (0, .ref (z + mm_ad 26 0)), (2, .int a2)]) C dX11_tagsMany_28 rfl (by decide) rfl rfl ?_
        refine jr_iinc (q := 32) (lv' := [(2, .int (a2 + (1 : Int32))), (1, .int x3), (0, .ref (z + mm_ad 26 0))]) C 2 dX11_tagsMany_29 rfl (by rfl) (by decide) rfl rfl ?_
        refine jr_goto (tgt := 4) C dX11_tagsMany_32 (by decide) ?_
        refine jr_sub [2, 1, 0] rfl ?_
        exact hK4 _ _ _ h
  have x4_35 : ∀ (μ : mm_T) (c1 : Int32), (Po c1 μ) → jJ p l e ({ frames := 0, cells := 0, slots := 0, locals := 0 }) s m args below meth c D cy z (MQ below (va_Qi Po (mm_Po D cy z) (mm_A z)) args s 0 0 (mm_A z)) 3 μ 35 [(1, .int c1)] [] := by
    intro μ c1 h
    refine jr_iload_n (q := 36) C 0 dX11_tagsMany_35 rfl rfl rfl ?_
    exact jr_iret C hr hk dX11_tagsMany_36 h
  refine jr_sub [2, 1, 0] rfl ?_
  exact l4 _ x4_35 _ h
theorem nX11_dealtMany_11 : ∀ w ∈ wsX110, w ∈ wsX11_dealtMany := fun _ h => List.mem_cons_of_mem _ (List.mem_append_right _ h)
theorem mX11_dealtMany_1 : Cond.fieldLink RX11 53 RX11 (TX11 16).2.1 (TX11 16).2.2.1 ∈ wsX11_dealtMany := List.mem_of_getElem? (i := 1) (by decide +kernel)
theorem dsc_X11_dealtMany : yX11_dealtMany.cls ≠ "java/lang/invoke/MethodHandle" ∧ yX11_dealtMany.cls ≠ "java/lang/invoke/VarHandle" ∧ (parseMethodDescriptor yX11_dealtMany.desc).map (fun d => d.parameters.length) = some 0 := by decide +kernel
def pX11_dealtMany_l4 (Po : Int32 → mm_T → Prop) (E4_34 : mm_T → Int32 → Prop) (K4 : mm_T → Int32 → Int32 → Prop) (μ : mm_T) (a1 : Int32) (a2 : Int32) : Prop := ((16 : Int32) ≤ a2 → E4_34 μ a1) ∧ (¬ ((16 : Int32) ≤ a2) → (vp_in a2 16) ∧ ((¬ (μ.1 41 0 a2.toNatClampNeg) = (-1 : Int32) → ∀ x2 : Int32, x2 = a1 + (1 : Int32) → (K4 μ x2 (a2 + (1 : Int32)))) ∧ ((μ.1 41 0 a2.toNatClampNeg) = (-1 : Int32) → ∀ x3 : Int32, x3 = a1 + (0 : Int32) → (K4 μ x3 (a2 + (1 : Int32))))))
def pX11_dealtMany (Po : Int32 → mm_T → Prop) (μ : mm_T) : Prop := lp_ (fun (K9 : mm_T × Int32 × Int32 → Prop) (t9 : mm_T × Int32 × Int32) => pX11_dealtMany_l4 Po (fun μ c1 => Po c1 μ) (fun μ a1 a2 => K9 (μ, a1, a2)) t9.1 t9.2.1 t9.2.2) (μ, (0 : Int32), (0 : Int32))
set_option maxHeartbeats 4000000 in
set_option maxRecDepth 100000 in
theorem kX11_dealtMany (l : Launch) : mm_CI l yX11_dealtMany wsX11_dealtMany ({ frames := 0, cells := 0, slots := 0, locals := 0 }) (fun z => [.ref (z + mm_ad 26 0)]) (fun μ Po => pX11_dealtMany Po μ) := by
  refine je_I (cc := cX11_dealtMany) (nL := 3) (own := RX11) (plainFor_of_name (by decide)) rfl rfl (fun _ => Nat.le_of_ble_eq_true rfl) ?_
  intro p e s m args below meth c D cy z μ Po C hr hk h
  change jJ p l e ({ frames := 0, cells := 0, slots := 0, locals := 0 }) s m args below meth c D cy z (MQ below (va_Qi Po (mm_Po D cy z) (mm_A z)) args s 0 0 (mm_A z)) 3 μ 0 [(0, .ref (z + mm_ad 26 0))] []
  replace h : pX11_dealtMany Po μ := h
  unfold pX11_dealtMany at h
  refine jr_iconst (q := 1) (v := (0 : Int32)) C dX11_dealtMany_0 (by decide) rfl ?_
  refine jr_istore_n (q := 2) (lv' := [(1, .int (0 : Int32)), (0, .ref (z + mm_ad 26 0))]) C dX11_dealtMany_1 rfl (by decide) rfl rfl ?_
  refine jr_iconst (q := 3) (v := (0 : Int32)) C dX11_dealtMany_2 (by decide) rfl ?_
  refine jr_istore_n (q := 4) (lv' := [(2, .int (0 : Int32)), (1, .int (0 : Int32)), (0, .ref (z + mm_ad 26 0))]) C dX11_dealtMany_3 rfl (by decide) rfl rfl ?_
  have l4 : ∀ (E4_34 : mm_T → Int32 → Prop) (hE4_34 : ∀ (μ : mm_T) (c1 : Int32), E4_34 μ c1 → jJ p l e ({ frames := 0, cells := 0, slots := 0, locals := 0 }) s m args below meth c D cy z (MQ below (va_Qi Po (mm_Po D cy z) (mm_A z)) args s 0 0 (mm_A z)) 3 μ 34 [(1, .int c1)] []), ∀ t9 : mm_T × Int32 × Int32, lp_ (fun (K9 : mm_T × Int32 × Int32 → Prop) (t9 : mm_T × Int32 × Int32) => pX11_dealtMany_l4 Po E4_34 (fun μ a1 a2 => K9 (μ, a1, a2)) t9.1 t9.2.1 t9.2.2) t9 → jJ p l e ({ frames := 0, cells := 0, slots := 0, locals := 0 }) s m args below meth c D cy z (MQ below (va_Qi Po (mm_Po D cy z) (mm_A z)) args s 0 0 (mm_A z)) 3 t9.1 4 [(0, .ref (z + mm_ad 26 0)), (1, .int t9.2.1), (2, .int t9.2.2)] [] := by
    intro E4_34 hE4_34 t9 h
    refine lp_go (P := fun t9 : mm_T × Int32 × Int32 => jJ p l e ({ frames := 0, cells := 0, slots := 0, locals := 0 }) s m args below meth c D cy z (MQ below (va_Qi Po (mm_Po D cy z) (mm_A z)) args s 0 0 (mm_A z)) 3 t9.1 4 [(0, .ref (z + mm_ad 26 0)), (1, .int t9.2.1), (2, .int t9.2.2)] []) (fun K9 t9 hK h => ?_) t9 h
    obtain ⟨μ, a1, a2⟩ := t9
    obtain ⟨K4, eK4⟩ : ∃ K : mm_T → Int32 → Int32 → Prop, K = (fun μ a1 a2 => K9 (μ, a1, a2)) := ⟨_, rfl⟩
    have hK4 : ∀ (μ : mm_T) (a1 : Int32) (a2 : Int32), K4 μ a1 a2 → jJ p l e ({ frames := 0, cells := 0, slots := 0, locals := 0 }) s m args below meth c D cy z (MQ below (va_Qi Po (mm_Po D cy z) (mm_A z)) args s 0 0 (mm_A z)) 3 μ 4 [(0, .ref (z + mm_ad 26 0)), (1, .int a1), (2, .int a2)] [] := fun μ a1 a2 h9 => hK (μ, a1, a2) (by rw [eK4] at h9; exact h9)
    replace h : pX11_dealtMany_l4 Po E4_34 K4 μ a1 a2 := by rw [eK4]; exact h
    unfold pX11_dealtMany_l4 at h
    refine jr_iload_n (q := 5) C 2 dX11_dealtMany_4 rfl rfl rfl ?_
    refine jr_bipush (q := 7) (v := (16 : Int32)) C dX11_dealtMany_5 (by decide) rfl ?_
    refine jr_icmp_ge (q := 10) (tgt := 34) C dX11_dealtMany_7 (by decide) rfl (fun c5 => ?_) (fun c5 => ?_)
    · replace h := h.1 c5
      refine jr_sub [1] rfl ?_
      exact hE4_34 _ _ h
    · replace h := h.2 c5
      refine jr_iload_n (q := 11) C 1 dX11_dealtMany_10 rfl rfl rfl ?_
      refine jr_aload_n (q := 12) C 0 dX11_dealtMany_11 rfl rfl rfl ?_
      refine jr_getR (q := 15) (ci := 11) (Cn := RX11) (T := TX11) (N := 42) (j := 16) C mf_26 rfl rfl (by decide) rfl 41 0 rfl rfl rfl nX11_dealtMany_11 mX11_dealtMany_1 dX11_dealtMany_12 rfl rfl ?_
      refine jr_iload_n (q := 16) C 2 dX11_dealtMany_15 rfl rfl rfl ?_
      obtain ⟨g1, h⟩ := h
      refine jr_iald (q := 17) C mf_41 rfl g1 dX11_dealtMany_16 rfl ?_
      refine jr_iconst (q := 18) (v := (-1 : Int32)) C dX11_dealtMany_17 (by decide) rfl ?_
      refine jr_icmp_ne (q := 21) (tgt := 25) C dX11_dealtMany_18 (by decide) rfl (fun c4 => ?_) (fun c4 => ?_)
      · replace h := h.1 c4
        refine jr_iconst (q := 26) (v := (1 : Int32)) C dX11_dealtMany_25 (by decide) rfl ?_
        refine jr_iadd (q := 27) C dX11_dealtMany_26 rfl ?_
        refine jn_int (fun x2 ex2 => ?_)
        replace h := h x2 ex2
        refine jr_istore_n (q := 28) (lv' := [(1, .int x2), (0, .ref (z + mm_ad 26 0)), (2, .int a2)]) C dX11_dealtMany_27 rfl (by decide) rfl rfl ?_
        refine jr_iinc (q := 31) (lv' := [(2, .int (a2 + (1 : Int32))), (1, .int x2), (0, .ref (z + mm_ad 26 0))]) C 2 dX11_dealtMany_28 rfl (by rfl) (by decide) rfl rfl ?_
        refine jr_goto (tgt := 4) C dX11_dealtMany_31 (by decide) ?_
        refine jr_sub [2, 1, 0] rfl ?_
        exact hK4 _ _ _ h
      · replace h := h.2 c4
        refine jr_iconst (q := 22) (v := (0 : Int32)) C dX11_dealtMany_21 (by decide) rfl ?_
        refine jr_goto (tgt := 26) C dX11_dealtMany_22 (by decide) ?_
        refine jr_iadd (q := 27) C dX11_dealtMany_26 rfl ?_
        refine jn_int (fun x3 ex3 => ?_)
        replace h := h x3 ex3
        refine jr_istore_n (q := 28) (lv' := [(1, .int x3), (0, .ref (z + mm_ad 26 0)), (2, .int a2)]) C dX11_dealtMany_27 rfl (by decide) rfl rfl ?_
        refine jr_iinc (q := 31) (lv' := [(2, .int (a2 + (1 : Int32))), (1, .int x3), (0, .ref (z + mm_ad 26 0))]) C 2 dX11_dealtMany_28 rfl (by rfl) (by decide) rfl rfl ?_
        refine jr_goto (tgt := 4) C dX11_dealtMany_31 (by decide) ?_
        refine jr_sub [2, 1, 0] rfl ?_
        exact hK4 _ _ _ h
  have x4_34 : ∀ (μ : mm_T) (c1 : Int32), (Po c1 μ) → jJ p l e ({ frames := 0, cells := 0, slots := 0, locals := 0 }) s m args below meth c D cy z (MQ below (va_Qi Po (mm_Po D cy z) (mm_A z)) args s 0 0 (mm_A z)) 3 μ 34 [(1, .int c1)] [] := by
    intro μ c1 h
    refine jr_iload_n (q := 35) C 0 dX11_dealtMany_34 rfl rfl rfl ?_
    exact jr_iret C hr hk dX11_dealtMany_35 h
  refine jr_sub [2, 1, 0] rfl ?_
  exact l4 _ x4_34 _ h
theorem nX11_placedMany_11 : ∀ w ∈ wsX110, w ∈ wsX11_placedMany := fun _ h => List.mem_cons_of_mem _ (List.mem_append_right _ h)
theorem mX11_placedMany_1 : Cond.fieldLink RX11 129 RX11 (TX11 2).2.1 (TX11 2).2.2.1 ∈ wsX11_placedMany := List.mem_of_getElem? (i := 1) (by decide +kernel)
theorem mX11_placedMany_2 : Cond.fieldLink RX11 13 RX11 (TX11 3).2.1 (TX11 3).2.2.1 ∈ wsX11_placedMany := List.mem_of_getElem? (i := 2) (by decide +kernel)
theorem dsc_X11_placedMany : yX11_placedMany.cls ≠ "java/lang/invoke/MethodHandle" ∧ yX11_placedMany.cls ≠ "java/lang/invoke/VarHandle" ∧ (parseMethodDescriptor yX11_placedMany.desc).map (fun d => d.parameters.length) = some 0 := by decide +kernel
def pX11_placedMany_b34 (K4 : mm_T → Int32 → Int32 → Prop) (μ : mm_T) (a2 : Int32) (as0 : Int32) : Prop := ∀ x2 : Int32, x2 = as0 + (0 : Int32) → (K4 μ x2 (a2 + (1 : Int32)))
def pX11_placedMany_l4 (Po : Int32 → mm_T → Prop) (E4_43 : mm_T → Int32 → Prop) (K4 : mm_T → Int32 → Int32 → Prop) (μ : mm_T) (a1 : Int32) (a2 : Int32) : Prop := ((μ.1 26 0 2) ≤ a2 → E4_43 μ a1) ∧ (¬ ((μ.1 26 0 2) ≤ a2) → (vp_in a2 7) ∧ (((μ.1 28 0 a2.toNatClampNeg) = 0 → pX11_placedMany_b34 K4 μ a2 a1) ∧ (¬ ((μ.1 28 0 a2.toNatClampNeg) = 0) → pX11_isPlaced (fun r4 μ3 => (r4 = 0 → pX11_placedMany_b34 K4 μ3 a2 a1) ∧ (¬ (r4 = 0) → ∀ x5 : Int32, x5 = a1 + (1 : Int32) → (K4 μ3 x5 (a2 + (1 : Int32))))) μ a2)))
def pX11_placedMany (Po : Int32 → mm_T → Prop) (μ : mm_T) : Prop := lp_ (fun (K9 : mm_T × Int32 × Int32 → Prop) (t9 : mm_T × Int32 × Int32) => pX11_placedMany_l4 Po (fun μ c1 => Po c1 μ) (fun μ a1 a2 => K9 (μ, a1, a2)) t9.1 t9.2.1 t9.2.2) (μ, (0 : Int32), (0 : Int32))
set_option maxHeartbeats 4000000 in
set_option maxRecDepth 100000 in
theorem kX11_placedMany (l : Launch) : mm_CI l yX11_placedMany wsX11_placedMany ({ frames := 3, cells := 0, slots := 0, locals := 65 }) (fun z => [.ref (z + mm_ad 26 0)]) (fun μ Po => pX11_placedMany Po μ) := by
  refine je_I (cc := cX11_placedMany) (nL := 3) (own := RX11) (plainFor_of_name (by decide)) rfl rfl (fun _ => Nat.le_of_ble_eq_true rfl) ?_
  intro p e s m args below meth c D cy z μ Po C hr hk h
  change jJ p l e ({ frames := 3, cells := 0, slots := 0, locals := 65 }) s m args below meth c D cy z (MQ below (va_Qi Po (mm_Po D cy z) (mm_A z)) args s 0 0 (mm_A z)) 3 μ 0 [(0, .ref (z + mm_ad 26 0))] []
  replace h : pX11_placedMany Po μ := h
  unfold pX11_placedMany at h
  refine jr_iconst (q := 1) (v := (0 : Int32)) C dX11_placedMany_0 (by decide) rfl ?_
  refine jr_istore_n (q := 2) (lv' := [(1, .int (0 : Int32)), (0, .ref (z + mm_ad 26 0))]) C dX11_placedMany_1 rfl (by decide) rfl rfl ?_
  refine jr_iconst (q := 3) (v := (0 : Int32)) C dX11_placedMany_2 (by decide) rfl ?_
  refine jr_istore_n (q := 4) (lv' := [(2, .int (0 : Int32)), (1, .int (0 : Int32)), (0, .ref (z + mm_ad 26 0))]) C dX11_placedMany_3 rfl (by decide) rfl rfl ?_
  have l4 : ∀ (E4_43 : mm_T → Int32 → Prop) (hE4_43 : ∀ (μ : mm_T) (c1 : Int32), E4_43 μ c1 → jJ p l e ({ frames := 3, cells := 0, slots := 0, locals := 65 }) s m args below meth c D cy z (MQ below (va_Qi Po (mm_Po D cy z) (mm_A z)) args s 0 0 (mm_A z)) 3 μ 43 [(1, .int c1)] []), ∀ t9 : mm_T × Int32 × Int32, lp_ (fun (K9 : mm_T × Int32 × Int32 → Prop) (t9 : mm_T × Int32 × Int32) => pX11_placedMany_l4 Po E4_43 (fun μ a1 a2 => K9 (μ, a1, a2)) t9.1 t9.2.1 t9.2.2) t9 → jJ p l e ({ frames := 3, cells := 0, slots := 0, locals := 65 }) s m args below meth c D cy z (MQ below (va_Qi Po (mm_Po D cy z) (mm_A z)) args s 0 0 (mm_A z)) 3 t9.1 4 [(0, .ref (z + mm_ad 26 0)), (1, .int t9.2.1), (2, .int t9.2.2)] [] := by
    intro E4_43 hE4_43 t9 h
    refine lp_go (P := fun t9 : mm_T × Int32 × Int32 => jJ p l e ({ frames := 3, cells := 0, slots := 0, locals := 65 }) s m args below meth c D cy z (MQ below (va_Qi Po (mm_Po D cy z) (mm_A z)) args s 0 0 (mm_A z)) 3 t9.1 4 [(0, .ref (z + mm_ad 26 0)), (1, .int t9.2.1), (2, .int t9.2.2)] []) (fun K9 t9 hK h => ?_) t9 h
    obtain ⟨μ, a1, a2⟩ := t9
    obtain ⟨K4, eK4⟩ : ∃ K : mm_T → Int32 → Int32 → Prop, K = (fun μ a1 a2 => K9 (μ, a1, a2)) := ⟨_, rfl⟩
    have hK4 : ∀ (μ : mm_T) (a1 : Int32) (a2 : Int32), K4 μ a1 a2 → jJ p l e ({ frames := 3, cells := 0, slots := 0, locals := 65 }) s m args below meth c D cy z (MQ below (va_Qi Po (mm_Po D cy z) (mm_A z)) args s 0 0 (mm_A z)) 3 μ 4 [(0, .ref (z + mm_ad 26 0)), (1, .int a1), (2, .int a2)] [] := fun μ a1 a2 h9 => hK (μ, a1, a2) (by rw [eK4] at h9; exact h9)
    replace h : pX11_placedMany_l4 Po E4_43 K4 μ a1 a2 := by rw [eK4]; exact h
    unfold pX11_placedMany_l4 at h
    refine jr_iload_n (q := 5) C 2 dX11_placedMany_4 rfl rfl rfl ?_
    refine jr_aload_n (q := 6) C 0 dX11_placedMany_5 rfl rfl rfl ?_
    refine jr_getI (q := 9) (ci := 11) (Cn := RX11) (T := TX11) (N := 42) (j := 2) C mf_26 rfl rfl (by decide) rfl rfl nX11_placedMany_11 mX11_placedMany_1 dX11_placedMany_6 rfl rfl ?_
    refine jr_icmp_ge (q := 12) (tgt := 43) C dX11_placedMany_9 (by decide) rfl (fun c8 => ?_) (fun c8 => ?_)
    · replace h := h.1 c8
      refine jr_sub [1] rfl ?_
      exact hE4_43 _ _ h
    · replace h := h.2 c8
      refine jr_iload_n (q := 13) C 1 dX11_placedMany_12 rfl rfl rfl ?_
      refine jr_aload_n (q := 14) C 0 dX11_placedMany_13 rfl rfl rfl ?_
      refine jr_getR (q := 17) (ci := 11) (Cn := RX11) (T := TX11) (N := 42) (j := 3) C mf_26 rfl rfl (by decide) rfl 28 0 rfl rfl rfl nX11_placedMany_11 mX11_placedMany_2 dX11_placedMany_14 rfl rfl ?_
      refine jr_iload_n (q := 18) C 2 dX11_placedMany_17 rfl rfl rfl ?_
      obtain ⟨g1, h⟩ := h
      refine jr_zald (q := 19) C mf_28 rfl g1 dX11_placedMany_18 rfl ?_
      have b34 : ∀ (μ : mm_T) (a2 : Int32) (as0 : Int32), pX11_placedMany_b34 K4 μ a2 as0 → jJ p l e ({ frames := 3, cells := 0, slots := 0, locals := 65 }) s m args below meth c D cy z (MQ below (va_Qi Po (mm_Po D cy z) (mm_A z)) args s 0 0 (mm_A z)) 3 μ 34 [(0, .ref (z + mm_ad 26 0)), (2, .int a2)] [.int as0] := by
        intro μ a2 as0 h
        unfold pX11_placedMany_b34 at h
        refine jr_iconst (q := 35) (v := (0 : Int32)) C dX11_placedMany_34 (by decide) rfl ?_
        refine jr_iadd (q := 36) C dX11_placedMany_35 rfl ?_
        refine jn_int (fun x2 ex2 => ?_)
        replace h := h x2 ex2
        refine jr_istore_n (q := 37) (lv' := [(1, .int x2), (0, .ref (z + mm_ad 26 0)), (2, .int a2)]) C dX11_placedMany_36 rfl (by decide) rfl rfl ?_
        refine jr_iinc (q := 40) (lv' := [(2, .int (a2 + (1 : Int32))), (1, .int x2), (0, .ref (z + mm_ad 26 0))]) C 2 dX11_placedMany_37 rfl (by rfl) (by decide) rfl rfl ?_
        refine jr_goto (tgt := 4) C dX11_placedMany_40 (by decide) ?_
        refine jr_sub [2, 1, 0] rfl ?_
        exact hK4 _ _ _ h
      refine jr_if_eq (q := 22) (tgt := 34) C dX11_placedMany_19 (by decide) rfl (fun c7 => ?_) (fun c7 => ?_)
      · replace h := h.1 c7
        refine jr_sub [0, 2] rfl ?_
        exact b34 _ _ _ h
      · replace h := h.2 c7
        refine jr_aload_n (q := 23) C 0 dX11_placedMany_22 rfl rfl rfl ?_
        refine jr_iload_n (q := 24) C 2 dX11_placedMany_23 rfl rfl rfl ?_
        refine jr_cvI (q := 27) (As := [.int a2]) (rest := [.int a1]) C (f := 26) (i := 0) (ci := 11) mf_26 rfl rfl rfl (kX11_isPlaced l a2) rfl gX11_placedMany_X11_isPlaced rfl dsc_X11_isPlaced ⟨rfl, rfl⟩ ⟨by decide, by decide⟩ rfl rfl (Nat.le_of_ble_eq_true rfl) dX11_placedMany_24 rfl h (fun r4 μ3 h => ?_)
        refine jr_if_eq (q := 30) (tgt := 34) C dX11_placedMany_27 (by decide) rfl (fun c6 => ?_) (fun c6 => ?_)
        · replace h := h.1 c6
          refine jr_sub [0, 2] rfl ?_
          exact b34 _ _ _ h
        · replace h := h.2 c6
          refine jr_iconst (q := 31) (v := (1 : Int32)) C dX11_placedMany_30 (by decide) rfl ?_
          refine jr_goto (tgt := 35) C dX11_placedMany_31 (by decide) ?_
          refine jr_iadd (q := 36) C dX11_placedMany_35 rfl ?_
          refine jn_int (fun x5 ex5 => ?_)
          replace h := h x5 ex5
          refine jr_istore_n (q := 37) (lv' := [(1, .int x5), (0, .ref (z + mm_ad 26 0)), (2, .int a2)]) C dX11_placedMany_36 rfl (by decide) rfl rfl ?_
          refine jr_iinc (q := 40) (lv' := [(2, .int (a2 + (1 : Int32))), (1, .int x5), (0, .ref (z + mm_ad 26 0))]) C 2 dX11_placedMany_37 rfl (by rfl) (by decide) rfl rfl ?_
          refine jr_goto (tgt := 4) C dX11_placedMany_40 (by decide) ?_
          refine jr_sub [2, 1, 0] rfl ?_
          exact hK4 _ _ _ h
  have x4_43 : ∀ (μ : mm_T) (c1 : Int32), (Po c1 μ) → jJ p l e ({ frames := 3, cells := 0, slots := 0, locals := 65 }) s m args below meth c D cy z (MQ below (va_Qi Po (mm_Po D cy z) (mm_A z)) args s 0 0 (mm_A z)) 3 μ 43 [(1, .int c1)] [] := by
    intro μ c1 h
    refine jr_iload_n (q := 44) C 0 dX11_placedMany_43 rfl rfl rfl ?_
    exact jr_iret C hr hk dX11_placedMany_44 h
  refine jr_sub [2, 1, 0] rfl ?_
  exact l4 _ x4_43 _ h
theorem nX11_aboutNow_11 : ∀ w ∈ wsX110, w ∈ wsX11_aboutNow := fun _ h => List.mem_cons_of_mem _ (List.mem_append_right _ h)
theorem mX11_aboutNow_1 : Cond.fieldLink RX11 129 RX11 (TX11 2).2.1 (TX11 2).2.2.1 ∈ wsX11_aboutNow := List.mem_of_getElem? (i := 1) (by decide +kernel)
theorem mX11_aboutNow_2 : Cond.fieldLink RX11 140 RX11 (TX11 17).2.1 (TX11 17).2.2.1 ∈ wsX11_aboutNow := List.mem_of_getElem? (i := 2) (by decide +kernel)
theorem mX11_aboutNow_3 : Cond.fieldLink RX11 143 RX11 (TX11 18).2.1 (TX11 18).2.2.1 ∈ wsX11_aboutNow := List.mem_of_getElem? (i := 3) (by decide +kernel)
theorem mX11_aboutNow_4 : Cond.fieldLink RX11 146 RX11 (TX11 19).2.1 (TX11 19).2.2.1 ∈ wsX11_aboutNow := List.mem_of_getElem? (i := 4) (by decide +kernel)
theorem dsc_X11_aboutNow : yX11_aboutNow.cls ≠ "java/lang/invoke/MethodHandle" ∧ yX11_aboutNow.cls ≠ "java/lang/invoke/VarHandle" ∧ (parseMethodDescriptor yX11_aboutNow.desc).map (fun d => d.parameters.length) = some 1 := by decide +kernel
def pX11_aboutNow (Po : Int32 → mm_T → Prop) (μ : mm_T) (p1 : Int32) : Prop := (p1 = (0 : Int32) → Po (μ.1 26 0 2) μ) ∧ (p1 = (1 : Int32) → pX11_tagsMany (fun r2 μ1 => Po r2 μ1) μ ) ∧ (p1 = (2 : Int32) → pX11_tagsMany (fun r4 μ3 => Po ((μ.1 26 0 2) - r4) μ3) μ ) ∧ (p1 = (3 : Int32) → Po (μ.1 26 0 17) μ) ∧ (p1 = (4 : Int32) → Po (μ.1 26 0 18) μ) ∧ (p1 = (5 : Int32) → Po (μ.1 26 0 19) μ) ∧ (p1 = (6 : Int32) → pX11_dealtMany (fun r6 μ5 => Po r6 μ5) μ ) ∧ (¬ p1 = (0 : Int32) → ¬ p1 = (1 : Int32) → ¬ p1 = (2 : Int32) → ¬ p1 = (3 : Int32) → ¬ p1 = (4 : Int32) → ¬ p1 = (5 : Int32) → ¬ p1 = (6 : Int32) → pX11_placedMany (fun r8 μ7 => Po r8 μ7) μ )
set_option maxHeartbeats 4000000 in
set_option maxRecDepth 100000 in
theorem kX11_aboutNow (l : Launch) (p1 : Int32) : mm_CI l yX11_aboutNow wsX11_aboutNow ({ frames := 4, cells := 0, slots := 0, locals := 87 }) (fun z => [.ref (z + mm_ad 26 0), .int p1]) (fun μ Po => pX11_aboutNow Po μ p1) := by
  refine je_I (cc := cX11_aboutNow) (nL := 2) (own := RX11) (plainFor_of_name (by decide)) rfl rfl (fun _ => Nat.le_of_ble_eq_true rfl) ?_
  intro p e s m args below meth c D cy z μ Po C hr hk h
  change jJ p l e ({ frames := 4, cells := 0, slots := 0, locals := 87 }) s m args below meth c D cy z (MQ below (va_Qi Po (mm_Po D cy z) (mm_A z)) args s 0 0 (mm_A z)) 2 μ 0 [(0, .ref (z + mm_ad 26 0)), (1, .int p1)] []
  replace h : pX11_aboutNow Po μ p1 := h
  unfold pX11_aboutNow at h
  refine jr_iload_n (q := 1) C 1 dX11_aboutNow_0 rfl rfl rfl ?_
  by_cases w0 : p1 = (0 : Int32)
  · replace h := h.1 w0
    refine jr_tabI (tgt := 44) C (0 : Int32) w0 dX11_aboutNow_1 (by decide) (by decide) rfl (by decide) ?_
    refine jr_aload_n (q := 45) C 0 dX11_aboutNow_44 rfl rfl rfl ?_
    refine jr_getI (q := 48) (ci := 11) (Cn := RX11) (T := TX11) (N := 42) (j := 2) C mf_26 rfl rfl (by decide) rfl rfl nX11_aboutNow_11 mX11_aboutNow_1 dX11_aboutNow_45 rfl rfl ?_
    exact jr_iret C hr hk dX11_aboutNow_48 h
  by_cases w1 : p1 = (1 : Int32)
  · replace h := h.2.1 w1
    refine jr_tabI (tgt := 49) C (1 : Int32) w1 dX11_aboutNow_1 (by decide) (by decide) rfl (by decide) ?_
    refine jr_aload_n (q := 50) C 0 dX11_aboutNow_49 rfl rfl rfl ?_
    refine jr_cvI (q := 53) (As := []) (rest := []) C (f := 26) (i := 0) (ci := 11) mf_26 rfl rfl rfl (kX11_tagsMany l) rfl gX11_aboutNow_X11_tagsMany rfl dsc_X11_tagsMany ⟨rfl, rfl⟩ ⟨by decide, by decide⟩ rfl rfl (Nat.le_of_ble_eq_true rfl) dX11_aboutNow_50 rfl h (fun r2 μ1 h => ?_)
    exact jr_iret C hr hk dX11_aboutNow_53 h
  by_cases w2 : p1 = (2 : Int32)
  · replace h := h.2.2.1 w2
    refine jr_tabI (tgt := 54) C (2 : Int32) w2 dX11_aboutNow_1 (by decide) (by decide) rfl (by decide) ?_
    refine jr_aload_n (q := 55) C 0 dX11_aboutNow_54 rfl rfl rfl ?_
    refine jr_getI (q := 58) (ci := 11) (Cn := RX11) (T := TX11) (N := 42) (j := 2) C mf_26 rfl rfl (by decide) rfl rfl nX11_aboutNow_11 mX11_aboutNow_1 dX11_aboutNow_55 rfl rfl ?_
    refine jr_aload_n (q := 59) C 0 dX11_aboutNow_58 rfl rfl rfl ?_
    refine jr_cvI (q := 62) (As := []) (rest := [.int (μ.1 26 0 2)]) C (f := 26) (i := 0) (ci := 11) mf_26 rfl rfl rfl (kX11_tagsMany l) rfl gX11_aboutNow_X11_tagsMany rfl dsc_X11_tagsMany ⟨rfl, rfl⟩ ⟨by decide, by decide⟩ rfl rfl (Nat.le_of_ble_eq_true rfl) dX11_aboutNow_59 rfl h (fun r4 μ3 h => ?_)
    refine jr_isub (q := 63) C dX11_aboutNow_62 rfl ?_
    exact jr_iret C hr hk dX11_aboutNow_63 h
  by_cases w3 : p1 = (3 : Int32)
  · replace h := h.2.2.2.1 w3
    refine jr_tabI (tgt := 64) C (3 : Int32) w3 dX11_aboutNow_1 (by decide) (by decide) rfl (by decide) ?_
    refine jr_aload_n (q := 65) C 0 dX11_aboutNow_64 rfl rfl rfl ?_
    refine jr_getI (q := 68) (ci := 11) (Cn := RX11) (T := TX11) (N := 42) (j := 17) C mf_26 rfl rfl (by decide) rfl rfl nX11_aboutNow_11 mX11_aboutNow_2 dX11_aboutNow_65 rfl rfl ?_
    exact jr_iret C hr hk dX11_aboutNow_68 h
  by_cases w4 : p1 = (4 : Int32)
  · replace h := h.2.2.2.2.1 w4
    refine jr_tabI (tgt := 69) C (4 : Int32) w4 dX11_aboutNow_1 (by decide) (by decide) rfl (by decide) ?_
    refine jr_aload_n (q := 70) C 0 dX11_aboutNow_69 rfl rfl rfl ?_
    refine jr_getI (q := 73) (ci := 11) (Cn := RX11) (T := TX11) (N := 42) (j := 18) C mf_26 rfl rfl (by decide) rfl rfl nX11_aboutNow_11 mX11_aboutNow_3 dX11_aboutNow_70 rfl rfl ?_
    exact jr_iret C hr hk dX11_aboutNow_73 h
  by_cases w5 : p1 = (5 : Int32)
  · replace h := h.2.2.2.2.2.1 w5
    refine jr_tabI (tgt := 74) C (5 : Int32) w5 dX11_aboutNow_1 (by decide) (by decide) rfl (by decide) ?_
    refine jr_aload_n (q := 75) C 0 dX11_aboutNow_74 rfl rfl rfl ?_
    refine jr_getI (q := 78) (ci := 11) (Cn := RX11) (T := TX11) (N := 42) (j := 19) C mf_26 rfl rfl (by decide) rfl rfl nX11_aboutNow_11 mX11_aboutNow_4 dX11_aboutNow_75 rfl rfl ?_
    exact jr_iret C hr hk dX11_aboutNow_78 h
  by_cases w6 : p1 = (6 : Int32)
  · replace h := h.2.2.2.2.2.2.1 w6
    refine jr_tabI (tgt := 79) C (6 : Int32) w6 dX11_aboutNow_1 (by decide) (by decide) rfl (by decide) ?_
    refine jr_aload_n (q := 80) C 0 dX11_aboutNow_79 rfl rfl rfl ?_
    refine jr_cvI (q := 83) (As := []) (rest := []) C (f := 26) (i := 0) (ci := 11) mf_26 rfl rfl rfl (kX11_dealtMany l) rfl gX11_aboutNow_X11_dealtMany rfl dsc_X11_dealtMany ⟨rfl, rfl⟩ ⟨by decide, by decide⟩ rfl rfl (Nat.le_of_ble_eq_true rfl) dX11_aboutNow_80 rfl h (fun r6 μ5 h => ?_)
    exact jr_iret C hr hk dX11_aboutNow_83 h
  replace h := h.2.2.2.2.2.2.2 w0 w1 w2 w3 w4 w5 w6
  have vw0 := lv_neT (a := 0) w0 (by decide)
  have vw1 := lv_neT (a := 1) w1 (by decide)
  have vw2 := lv_neT (a := 2) w2 (by decide)
  have vw3 := lv_neT (a := 3) w3 (by decide)
  have vw4 := lv_neT (a := 4) w4 (by decide)
  have vw5 := lv_neT (a := 5) w5 (by decide)
  have vw6 := lv_neT (a := 6) w6 (by decide)
  refine jr_tabO (tgt := 84) C dX11_aboutNow_1 (by omega) (by decide) ?_
  refine jr_aload_n (q := 85) C 0 dX11_aboutNow_84 rfl rfl rfl ?_
  refine jr_cvI (q := 88) (As := []) (rest := []) C (f := 26) (i := 0) (ci := 11) mf_26 rfl rfl rfl (kX11_placedMany l) rfl gX11_aboutNow_X11_placedMany rfl dsc_X11_placedMany ⟨rfl, rfl⟩ ⟨by decide, by decide⟩ rfl rfl (Nat.le_of_ble_eq_true rfl) dX11_aboutNow_85 rfl h (fun r8 μ7 h => ?_)
  exact jr_iret C hr hk dX11_aboutNow_88 h
theorem mX11_about_0 : Cond.constant RX11 81 (-1000002) ∈ wsX11_about := List.mem_of_getElem? (i := 2) (by decide +kernel)
theorem mX11_about_1 : Cond.constant RX11 152 (-1000003) ∈ wsX11_about := List.mem_of_getElem? (i := 1) (by decide +kernel)
theorem dsc_X11_about : yX11_about.cls ≠ "java/lang/invoke/MethodHandle" ∧ yX11_about.cls ≠ "java/lang/invoke/VarHandle" ∧ (parseMethodDescriptor yX11_about.desc).map (fun d => d.parameters.length) = some 1 := by decide +kernel
def pX11_about (Po : Int32 → mm_T → Prop) (μ : mm_T) (p1 : Int32) : Prop := pX11_isField (fun r2 μ1 => (¬ r2 = 0 → pX11_within (fun r4 μ3 => (r4 = 0 → Po (-1000002 : Int32) μ3) ∧ (¬ (r4 = 0) → pX11_aboutNow (fun r6 μ5 => Po r6 μ5) μ3 p1)) μ1 p1 (0 : Int32) (7 : Int32)) ∧ (r2 = 0 → Po (-1000003 : Int32) μ1)) μ 
set_option maxHeartbeats 4000000 in
set_option maxRecDepth 100000 in
theorem kX11_about (l : Launch) (p1 : Int32) : mm_CI l yX11_about wsX11_about ({ frames := 5, cells := 0, slots := 0, locals := 108 }) (fun z => [.ref (z + mm_ad 26 0), .int p1]) (fun μ Po => pX11_about Po μ p1) := by
  refine je_I (cc := cX11_about) (nL := 2) (own := RX11) (plainFor_of_name (by decide)) rfl rfl (fun _ => Nat.le_of_ble_eq_true rfl) ?_
  intro p e s m args below meth c D cy z μ Po C hr hk h
  change jJ p l e ({ frames := 5, cells := 0, slots := 0, locals := 108 }) s m args below meth c D cy z (MQ below (va_Qi Po (mm_Po D cy z) (mm_A z)) args s 0 0 (mm_A z)) 2 μ 0 [(0, .ref (z + mm_ad 26 0)), (1, .int p1)] []
  replace h : pX11_about Po μ p1 := h
  unfold pX11_about at h
  refine jr_aload_n (q := 1) C 0 dX11_about_0 rfl rfl rfl ?_
  refine jr_cvI (q := 4) (As := []) (rest := []) C (f := 26) (i := 0) (ci := 11) mf_26 rfl rfl rfl (kX11_isField l) rfl gX11_about_X11_isField rfl dsc_X11_isField ⟨rfl, rfl⟩ ⟨by decide, by decide⟩ rfl rfl (Nat.le_of_ble_eq_true rfl) dX11_about_1 rfl h (fun r2 μ1 h => ?_)
  refine jr_if_ne (q := 7) (tgt := 10) C dX11_about_4 (by decide) rfl (fun c8 => ?_) (fun c8 => ?_)
  · replace h := h.1 c8
    refine jr_iload_n (q := 11) C 1 dX11_about_10 rfl rfl rfl ?_
    refine jr_iconst (q := 12) (v := (0 : Int32)) C dX11_about_11 (by decide) rfl ?_
    refine jr_bipush (q := 14) (v := (7 : Int32)) C dX11_about_12 (by decide) rfl ?_
    refine jr_csI (q := 17) (As := [.int p1, .int (0 : Int32), .int (7 : Int32)]) (rest := []) C  (kX11_within l p1 (0 : Int32) (7 : Int32)) rfl gX11_about_X11_within rfl dsc_X11_within ⟨rfl, rfl⟩ ⟨by decide, by decide⟩ rfl rfl (Nat.le_of_ble_eq_true rfl) dX11_about_14 rfl h (fun r4 μ3 h => ?_)
    refine jr_if_eq (q := 20) (tgt := 28) C dX11_about_17 (by decide) rfl (fun c7 => ?_) (fun c7 => ?_)
    · replace h := h.1 c7
      refine jr_ldc (q := 30) (v := (-1000002 : Int32)) C dX11_about_28 mX11_about_0 rfl ?_
      exact jr_iret C hr hk dX11_about_30 h
    · replace h := h.2 c7
      refine jr_aload_n (q := 21) C 0 dX11_about_20 rfl rfl rfl ?_
      refine jr_iload_n (q := 22) C 1 dX11_about_21 rfl rfl rfl ?_
      refine jr_cvI (q := 25) (As := [.int p1]) (rest := []) C (f := 26) (i := 0) (ci := 11) mf_26 rfl rfl rfl (kX11_aboutNow l p1) rfl gX11_about_X11_aboutNow rfl dsc_X11_aboutNow ⟨rfl, rfl⟩ ⟨by decide, by decide⟩ rfl rfl (Nat.le_of_ble_eq_true rfl) dX11_about_22 rfl h (fun r6 μ5 h => ?_)
      refine jr_goto (tgt := 30) C dX11_about_25 (by decide) ?_
      exact jr_iret C hr hk dX11_about_30 h
  · replace h := h.2 c8
    refine jr_ldc (q := 9) (v := (-1000003 : Int32)) C dX11_about_7 mX11_about_1 rfl ?_
    exact jr_iret C hr hk dX11_about_9 h
theorem nX11_howMany_11 : ∀ w ∈ wsX110, w ∈ wsX11_howMany := fun _ h => List.mem_cons_of_mem _ (List.mem_append_right _ h)
theorem mX11_howMany_1 : Cond.fieldLink RX11 82 RX11 (TX11 0).2.1 (TX11 0).2.2.1 ∈ wsX11_howMany := List.mem_of_getElem? (i := 1) (by decide +kernel)
theorem mX11_howMany_2 : Cond.fieldLink RX11 208 RX11 (TX11 27).2.1 (TX11 27).2.2.1 ∈ wsX11_howMany := List.mem_of_getElem? (i := 2) (by decide +kernel)
theorem mX11_howMany_3 : Cond.fieldLink RX11 211 RX11 (TX11 28).2.1 (TX11 28).2.2.1 ∈ wsX11_howMany := List.mem_of_getElem? (i := 3) (by decide +kernel)
theorem mX11_howMany_4 : Cond.fieldLink RX11 156 RX11 (TX11 29).2.1 (TX11 29).2.2.1 ∈ wsX11_howMany := List.mem_of_getElem? (i := 4) (by decide +kernel)
theorem mX11_howMany_5 : Cond.fieldLink RX11 284 RX11 (TX11 30).2.1 (TX11 30).2.2.1 ∈ wsX11_howMany := List.mem_of_getElem? (i := 5) (by decide +kernel)
theorem mX11_howMany_6 : Cond.constant RX11 81 (-1000002) ∈ wsX11_howMany := List.mem_of_getElem? (i := 6) (by decide +kernel)
theorem dsc_X11_howMany : yX11_howMany.cls ≠ "java/lang/invoke/MethodHandle" ∧ yX11_howMany.cls ≠ "java/lang/invoke/VarHandle" ∧ (parseMethodDescriptor yX11_howMany.desc).map (fun d => d.parameters.length) = some 1 := by decide +kernel
def pX11_howMany (Po : Int32 → mm_T → Prop) (μ : mm_T) (p1 : Int32) : Prop := (p1 = (0 : Int32) → Po (μ.1 26 0 0) μ) ∧ (p1 = (1 : Int32) → Po (μ.1 26 0 27) μ) ∧ (p1 = (2 : Int32) → Po (μ.1 26 0 28) μ) ∧ (p1 = (3 : Int32) → Po (μ.1 26 0 29) μ) ∧ (p1 = (4 : Int32) → Po (μ.1 26 0 30) μ) ∧ (¬ p1 = (0 : Int32) → ¬ p1 = (1 : Int32) → ¬ p1 = (2 : Int32) → ¬ p1 = (3 : Int32) → ¬ p1 = (4 : Int32) → Po (-1000002 : Int32) μ)
set_option maxHeartbeats 4000000 in
set_option maxRecDepth 100000 in
theorem kX11_howMany (l : Launch) (p1 : Int32) : mm_CI l yX11_howMany wsX11_howMany ({ frames := 0, cells := 0, slots := 0, locals := 0 }) (fun z => [.ref (z + mm_ad 26 0), .int p1]) (fun μ Po => pX11_howMany Po μ p1) := by
  refine je_I (cc := cX11_howMany) (nL := 2) (own := RX11) (plainFor_of_name (by decide)) rfl rfl (fun _ => Nat.le_of_ble_eq_true rfl) ?_
  intro p e s m args below meth c D cy z μ Po C hr hk h
  change jJ p l e ({ frames := 0, cells := 0, slots := 0, locals := 0 }) s m args below meth c D cy z (MQ below (va_Qi Po (mm_Po D cy z) (mm_A z)) args s 0 0 (mm_A z)) 2 μ 0 [(0, .ref (z + mm_ad 26 0)), (1, .int p1)] []
  replace h : pX11_howMany Po μ p1 := h
  unfold pX11_howMany at h
  refine jr_iload_n (q := 1) C 1 dX11_howMany_0 rfl rfl rfl ?_
  by_cases w0 : p1 = (0 : Int32)
  · replace h := h.1 w0
    refine jr_tabI (tgt := 36) C (0 : Int32) w0 dX11_howMany_1 (by decide) (by decide) rfl (by decide) ?_
    refine jr_aload_n (q := 37) C 0 dX11_howMany_36 rfl rfl rfl ?_
    refine jr_getI (q := 40) (ci := 11) (Cn := RX11) (T := TX11) (N := 42) (j := 0) C mf_26 rfl rfl (by decide) rfl rfl nX11_howMany_11 mX11_howMany_1 dX11_howMany_37 rfl rfl ?_
    exact jr_iret C hr hk dX11_howMany_40 h
  by_cases w1 : p1 = (1 : Int32)
  · replace h := h.2.1 w1
    refine jr_tabI (tgt := 41) C (1 : Int32) w1 dX11_howMany_1 (by decide) (by decide) rfl (by decide) ?_
    refine jr_aload_n (q := 42) C 0 dX11_howMany_41 rfl rfl rfl ?_
    refine jr_getI (q := 45) (ci := 11) (Cn := RX11) (T := TX11) (N := 42) (j := 27) C mf_26 rfl rfl (by decide) rfl rfl nX11_howMany_11 mX11_howMany_2 dX11_howMany_42 rfl rfl ?_
    exact jr_iret C hr hk dX11_howMany_45 h
  by_cases w2 : p1 = (2 : Int32)
  · replace h := h.2.2.1 w2
    refine jr_tabI (tgt := 46) C (2 : Int32) w2 dX11_howMany_1 (by decide) (by decide) rfl (by decide) ?_
    refine jr_aload_n (q := 47) C 0 dX11_howMany_46 rfl rfl rfl ?_
    refine jr_getI (q := 50) (ci := 11) (Cn := RX11) (T := TX11) (N := 42) (j := 28) C mf_26 rfl rfl (by decide) rfl rfl nX11_howMany_11 mX11_howMany_3 dX11_howMany_47 rfl rfl ?_
    exact jr_iret C hr hk dX11_howMany_50 h
  by_cases w3 : p1 = (3 : Int32)
  · replace h := h.2.2.2.1 w3
    refine jr_tabI (tgt := 51) C (3 : Int32) w3 dX11_howMany_1 (by decide) (by decide) rfl (by decide) ?_
    refine jr_aload_n (q := 52) C 0 dX11_howMany_51 rfl rfl rfl ?_
    refine jr_getI (q := 55) (ci := 11) (Cn := RX11) (T := TX11) (N := 42) (j := 29) C mf_26 rfl rfl (by decide) rfl rfl nX11_howMany_11 mX11_howMany_4 dX11_howMany_52 rfl rfl ?_
    exact jr_iret C hr hk dX11_howMany_55 h
  by_cases w4 : p1 = (4 : Int32)
  · replace h := h.2.2.2.2.1 w4
    refine jr_tabI (tgt := 56) C (4 : Int32) w4 dX11_howMany_1 (by decide) (by decide) rfl (by decide) ?_
    refine jr_aload_n (q := 57) C 0 dX11_howMany_56 rfl rfl rfl ?_
    refine jr_getI (q := 60) (ci := 11) (Cn := RX11) (T := TX11) (N := 42) (j := 30) C mf_26 rfl rfl (by decide) rfl rfl nX11_howMany_11 mX11_howMany_5 dX11_howMany_57 rfl rfl ?_
    exact jr_iret C hr hk dX11_howMany_60 h
  replace h := h.2.2.2.2.2 w0 w1 w2 w3 w4
  have vw0 := lv_neT (a := 0) w0 (by decide)
  have vw1 := lv_neT (a := 1) w1 (by decide)
  have vw2 := lv_neT (a := 2) w2 (by decide)
  have vw3 := lv_neT (a := 3) w3 (by decide)
  have vw4 := lv_neT (a := 4) w4 (by decide)
  refine jr_tabO (tgt := 61) C dX11_howMany_1 (by omega) (by decide) ?_
  refine jr_ldc (q := 63) (v := (-1000002 : Int32)) C dX11_howMany_61 mX11_howMany_6 rfl ?_
  exact jr_iret C hr hk dX11_howMany_63 h
theorem dsc_X11_count : yX11_count.cls ≠ "java/lang/invoke/MethodHandle" ∧ yX11_count.cls ≠ "java/lang/invoke/VarHandle" ∧ (parseMethodDescriptor yX11_count.desc).map (fun d => d.parameters.length) = some 1 := by decide +kernel
def pX11_count (Po : Int32 → mm_T → Prop) (μ : mm_T) (p1 : Int32) : Prop := pX11_howMany (fun r2 μ1 => Po r2 μ1) μ p1
set_option maxHeartbeats 4000000 in
set_option maxRecDepth 100000 in
theorem kX11_count (l : Launch) (p1 : Int32) : mm_CI l yX11_count wsX11_count ({ frames := 1, cells := 0, slots := 0, locals := 21 }) (fun z => [.ref (z + mm_ad 26 0), .int p1]) (fun μ Po => pX11_count Po μ p1) := by
  refine je_I (cc := cX11_count) (nL := 2) (own := RX11) (plainFor_of_name (by decide)) rfl rfl (fun _ => Nat.le_of_ble_eq_true rfl) ?_
  intro p e s m args below meth c D cy z μ Po C hr hk h
  change jJ p l e ({ frames := 1, cells := 0, slots := 0, locals := 21 }) s m args below meth c D cy z (MQ below (va_Qi Po (mm_Po D cy z) (mm_A z)) args s 0 0 (mm_A z)) 2 μ 0 [(0, .ref (z + mm_ad 26 0)), (1, .int p1)] []
  replace h : pX11_count Po μ p1 := h
  unfold pX11_count at h
  refine jr_aload_n (q := 1) C 0 dX11_count_0 rfl rfl rfl ?_
  refine jr_iload_n (q := 2) C 1 dX11_count_1 rfl rfl rfl ?_
  refine jr_cvI (q := 5) (As := [.int p1]) (rest := []) C (f := 26) (i := 0) (ci := 11) mf_26 rfl rfl rfl (kX11_howMany l p1) rfl gX11_count_X11_howMany rfl dsc_X11_howMany ⟨rfl, rfl⟩ ⟨by decide, by decide⟩ rfl rfl (Nat.le_of_ble_eq_true rfl) dX11_count_2 rfl h (fun r2 μ1 h => ?_)
  exact jr_iret C hr hk dX11_count_5 h
theorem mX11_mix_0 : Cond.constantLong RX11 305 (31) ∈ wsX11_mix := List.mem_of_getElem? (i := 1) (by decide +kernel)
theorem nX11_mix_11 : ∀ w ∈ wsX110, w ∈ wsX11_mix := fun _ h => List.mem_cons_of_mem _ (List.mem_append_right _ h)
theorem mX11_mix_2 : Cond.fieldLink RX11 307 RX11 (TX11 41).2.1 (TX11 41).2.2.1 ∈ wsX11_mix := List.mem_of_getElem? (i := 2) (by decide +kernel)
theorem dsc_X11_mix : yX11_mix.cls ≠ "java/lang/invoke/MethodHandle" ∧ yX11_mix.cls ≠ "java/lang/invoke/VarHandle" ∧ (parseMethodDescriptor yX11_mix.desc).map (fun d => d.parameters.length) = some 1 := by decide +kernel
def pX11_mix (Po : mm_T → Prop) (μ : mm_T) (p1 : Int64) : Prop := ∀ μ1 : mm_T, μ1 = mm_L μ 26 0 41 (((31 : Int64) * (μ.2 26 0 41)) + p1) → (Po μ1)
set_option maxHeartbeats 4000000 in
set_option maxRecDepth 100000 in
theorem kX11_mix (l : Launch) (p1 : Int64) : mm_CV l yX11_mix wsX11_mix ({ frames := 0, cells := 0, slots := 0, locals := 0 }) (fun z => [.ref (z + mm_ad 26 0), .long p1]) (fun μ Po => pX11_mix Po μ p1) := by
  refine je_V (cc := cX11_mix) (nL := 3) (own := RX11) (plainFor_of_name (by decide)) rfl rfl (fun _ => Nat.le_of_ble_eq_true rfl) ?_
  intro p e s m args below meth c D cy z μ Po C hr hk h
  change jJ p l e ({ frames := 0, cells := 0, slots := 0, locals := 0 }) s m args below meth c D cy z (MQ below (va_Qv Po (mm_Po D cy z) (mm_A z)) args s 0 0 (mm_A z)) 3 μ 0 [(0, .ref (z + mm_ad 26 0)), (1, .long p1)] []
  replace h : pX11_mix Po μ p1 := h
  unfold pX11_mix at h
  refine jr_aload_n (q := 1) C 0 dX11_mix_0 rfl rfl rfl ?_
  refine jr_ldc2 (q := 4) (v := (31 : Int64)) C dX11_mix_1 mX11_mix_0 rfl ?_
  refine jr_aload_n (q := 5) C 0 dX11_mix_4 rfl rfl rfl ?_
  refine jr_getL (q := 8) (ci := 11) (Cn := RX11) (T := TX11) (N := 42) (j := 41) C mf_26 rfl rfl (by decide) rfl rfl nX11_mix_11 mX11_mix_2 dX11_mix_5 rfl rfl ?_
  refine jr_lmul (q := 9) C dX11_mix_8 rfl ?_
  refine jr_lload_n (q := 10) C 1 dX11_mix_9 rfl rfl rfl ?_
  refine jr_ladd (q := 11) C dX11_mix_10 rfl ?_
  refine jr_putL (q := 14) (ci := 11) (Cn := RX11) (T := TX11) (N := 42) (j := 41) C mf_26 rfl rfl (by decide) rfl rfl tyX11 tyX11_ok nmX11 rfl (by decide +kernel) nX11_mix_11 mX11_mix_2 dX11_mix_11 rfl rfl ?_
  refine jn_mem (fun μ1 eμ1 => ?_)
  replace h := h μ1 eμ1
  exact jr_vret C hr hk dX11_mix_14 h
theorem nX11_mixPairs_11 : ∀ w ∈ wsX110, w ∈ wsX11_mixPairs := fun _ h => List.mem_cons_of_mem _ (List.mem_append_right _ h)
theorem mX11_mixPairs_1 : Cond.fieldLink RX11 129 RX11 (TX11 2).2.1 (TX11 2).2.2.1 ∈ wsX11_mixPairs := List.mem_of_getElem? (i := 1) (by decide +kernel)
theorem mX11_mixPairs_2 : Cond.fieldLink RX11 149 RX11 (TX11 20).2.1 (TX11 20).2.2.1 ∈ wsX11_mixPairs := List.mem_of_getElem? (i := 2) (by decide +kernel)
theorem mX11_mixPairs_3 : Cond.fieldLink RX11 226 RX11 (TX11 21).2.1 (TX11 21).2.2.1 ∈ wsX11_mixPairs := List.mem_of_getElem? (i := 3) (by decide +kernel)
theorem mX11_mixPairs_4 : Cond.fieldLink RX11 229 RX11 (TX11 22).2.1 (TX11 22).2.2.1 ∈ wsX11_mixPairs := List.mem_of_getElem? (i := 4) (by decide +kernel)
theorem dsc_X11_mixPairs : yX11_mixPairs.cls ≠ "java/lang/invoke/MethodHandle" ∧ yX11_mixPairs.cls ≠ "java/lang/invoke/VarHandle" ∧ (parseMethodDescriptor yX11_mixPairs.desc).map (fun d => d.parameters.length) = some 0 := by decide +kernel
def pX11_mixPairs_l107 (Po : mm_T → Prop) (E107_154 : mm_T → Prop) (K107 : mm_T → Int32 → Prop) (μ : mm_T) (a1 : Int32) : Prop := ((μ.1 26 0 2) ≤ a1 → E107_154 μ) ∧ (¬ ((μ.1 26 0 2) ≤ a1) → ((μ.1 26 0 20) = 0 → E107_154 μ) ∧ (¬ ((μ.1 26 0 20) = 0) → (a1 = (μ.1 26 0 21) → K107 μ (a1 + (1 : Int32))) ∧ (¬ (a1 = (μ.1 26 0 21)) → (a1 = (μ.1 26 0 22) → K107 μ (a1 + (1 : Int32))) ∧ (¬ (a1 = (μ.1 26 0 22)) → pX11_heardNow (fun r2 μ1 => pX11_mix (fun μ3 => K107 μ3 (a1 + (1 : Int32))) μ1 r2.toInt64) μ a1))))
def pX11_mixPairs_l76 (Po : mm_T → Prop) (E76_105 : mm_T → Prop) (K76 : mm_T → Int32 → Prop) (μ : mm_T) (a1 : Int32) : Prop := ((12 : Int32) ≤ a1 → E76_105 μ) ∧ (¬ ((12 : Int32) ≤ a1) → ((μ.1 26 0 20) = 0 → E76_105 μ) ∧ (¬ ((μ.1 26 0 20) = 0) → pX11_lastNow (fun r9 μ8 => pX11_mix (fun μ10 => K76 μ10 (a1 + (1 : Int32))) μ8 r9.toInt64) μ a1))
def pX11_mixPairs_l12 (Po : mm_T → Prop) (E12_68 : mm_T → Int32 → Prop) (K12 : mm_T → Int32 → Int32 → Prop) (μ : mm_T) (a1 : Int32) (a2 : Int32) : Prop := ((μ.1 26 0 2) ≤ a2 → E12_68 μ a1) ∧ (¬ ((μ.1 26 0 2) ≤ a2) → pX11_isPair (fun r14 μ13 => (r14 = 0 → K12 μ13 a1 (a2 + (1 : Int32))) ∧ (¬ (r14 = 0) → pX11_flightOf (fun r16 μ15 => pX11_mix (fun μ17 => pX11_firstExtra (fun r19 μ18 => pX11_mix (fun μ20 => pX11_rangeNow (fun r22 μ21 => pX11_mix (fun μ23 => K12 μ23 a1 (a2 + (1 : Int32))) μ21 r22.toInt64) μ20 a1 a2) μ18 r19.toInt64) μ17 a1 a2) μ15 r16.toInt64) μ13 a1 a2)) μ a1 a2)
def pX11_mixPairs_l2 (Po : mm_T → Prop) (E2_74 : mm_T → Prop) (K2 : mm_T → Int32 → Prop) (μ : mm_T) (a1 : Int32) : Prop := ((μ.1 26 0 2) ≤ a1 → E2_74 μ) ∧ (¬ ((μ.1 26 0 2) ≤ a1) → lp_ (fun (K9 : mm_T × Int32 × Int32 → Prop) (t9 : mm_T × Int32 × Int32) => pX11_mixPairs_l12 Po (fun μ c1 => K2 μ (c1 + (1 : Int32))) (fun μ a1 a2 => K9 (μ, a1, a2)) t9.1 t9.2.1 t9.2.2) (μ, a1, (0 : Int32)))
def pX11_mixPairs (Po : mm_T → Prop) (μ : mm_T) : Prop := lp_ (fun (K9 : mm_T × Int32 → Prop) (t9 : mm_T × Int32) => pX11_mixPairs_l2 Po (fun μ => lp_ (fun (K9 : mm_T × Int32 → Prop) (t9 : mm_T × Int32) => pX11_mixPairs_l76 Po (fun μ => lp_ (fun (K9 : mm_T × Int32 → Prop) (t9 : mm_T × Int32) => pX11_mixPairs_l107 Po (fun μ => Po μ) (fun μ a1 => K9 (μ, a1)) t9.1 t9.2) (μ, (0 : Int32))) (fun μ a1 => K9 (μ, a1)) t9.1 t9.2) (μ, (1 : Int32))) (fun μ a1 => K9 (μ, a1)) t9.1 t9.2) (μ, (0 : Int32))
set_option maxHeartbeats 4000000 in
set_option maxRecDepth 100000 in
theorem kX11_mixPairs (l : Launch) : mm_CV l yX11_mixPairs wsX11_mixPairs ({ frames := 4, cells := 0, slots := 0, locals := 87 }) (fun z => [.ref (z + mm_ad 26 0)]) (fun μ Po => pX11_mixPairs Po μ) := by
  refine je_V (cc := cX11_mixPairs) (nL := 3) (own := RX11) (plainFor_of_name (by decide)) rfl rfl (fun _ => Nat.le_of_ble_eq_true rfl) ?_
  intro p e s m args below meth c D cy z μ Po C hr hk h
  change jJ p l e ({ frames := 4, cells := 0, slots := 0, locals := 87 }) s m args below meth c D cy z (MQ below (va_Qv Po (mm_Po D cy z) (mm_A z)) args s 0 0 (mm_A z)) 3 μ 0 [(0, .ref (z + mm_ad 26 0))] []
  replace h : pX11_mixPairs Po μ := h
  unfold pX11_mixPairs at h
  refine jr_iconst (q := 1) (v := (0 : Int32)) C dX11_mixPairs_0 (by decide) rfl ?_
  refine jr_istore_n (q := 2) (lv' := [(1, .int (0 : Int32)), (0, .ref (z + mm_ad 26 0))]) C dX11_mixPairs_1 rfl (by decide) rfl rfl ?_
  have l2 : ∀ (E2_74 : mm_T → Prop) (hE2_74 : ∀ (μ : mm_T), E2_74 μ → jJ p l e ({ frames := 4, cells := 0, slots := 0, locals := 87 }) s m args below meth c D cy z (MQ below (va_Qv Po (mm_Po D cy z) (mm_A z)) args s 0 0 (mm_A z)) 3 μ 74 [(0, .ref (z + mm_ad 26 0))] []), ∀ t9 : mm_T × Int32, lp_ (fun (K9 : mm_T × Int32 → Prop) (t9 : mm_T × Int32) => pX11_mixPairs_l2 Po E2_74 (fun μ a1 => K9 (μ, a1)) t9.1 t9.2) t9 → jJ p l e ({ frames := 4, cells := 0, slots := 0, locals := 87 }) s m args below meth c D cy z (MQ below (va_Qv Po (mm_Po D cy z) (mm_A z)) args s 0 0 (mm_A z)) 3 t9.1 2 [(0, .ref (z + mm_ad 26 0)), (1, .int t9.2)] [] := by
    intro E2_74 hE2_74 t9 h
    refine lp_go (P := fun t9 : mm_T × Int32 => jJ p l e ({ frames := 4, cells := 0, slots := 0, locals := 87 }) s m args below meth c D cy z (MQ below (va_Qv Po (mm_Po D cy z) (mm_A z)) args s 0 0 (mm_A z)) 3 t9.1 2 [(0, .ref (z + mm_ad 26 0)), (1, .int t9.2)] []) (fun K9 t9 hK h => ?_) t9 h
    obtain ⟨μ, a1⟩ := t9
    obtain ⟨K2, eK2⟩ : ∃ K : mm_T → Int32 → Prop, K = (fun μ a1 => K9 (μ, a1)) := ⟨_, rfl⟩
    have hK2 : ∀ (μ : mm_T) (a1 : Int32), K2 μ a1 → jJ p l e ({ frames := 4, cells := 0, slots := 0, locals := 87 }) s m args below meth c D cy z (MQ below (va_Qv Po (mm_Po D cy z) (mm_A z)) args s 0 0 (mm_A z)) 3 μ 2 [(0, .ref (z + mm_ad 26 0)), (1, .int a1)] [] := fun μ a1 h9 => hK (μ, a1) (by rw [eK2] at h9; exact h9)
    replace h : pX11_mixPairs_l2 Po E2_74 K2 μ a1 := by rw [eK2]; exact h
    unfold pX11_mixPairs_l2 at h
    refine jr_iload_n (q := 3) C 1 dX11_mixPairs_2 rfl rfl rfl ?_
    refine jr_aload_n (q := 4) C 0 dX11_mixPairs_3 rfl rfl rfl ?_
    refine jr_getI (q := 7) (ci := 11) (Cn := RX11) (T := TX11) (N := 42) (j := 2) C mf_26 rfl rfl (by decide) rfl rfl nX11_mixPairs_11 mX11_mixPairs_1 dX11_mixPairs_4 rfl rfl ?_
    refine jr_icmp_ge (q := 10) (tgt := 74) C dX11_mixPairs_7 (by decide) rfl (fun c26 => ?_) (fun c26 => ?_)
    · replace h := h.1 c26
      refine jr_sub [0] rfl ?_
      exact hE2_74 _ h
    · replace h := h.2 c26
      refine jr_iconst (q := 11) (v := (0 : Int32)) C dX11_mixPairs_10 (by decide) rfl ?_
      refine jr_istore_n (q := 12) (lv' := [(2, .int (0 : Int32)), (0, .ref (z + mm_ad 26 0)), (1, .int a1)]) C dX11_mixPairs_11 rfl (by decide) rfl rfl ?_
      have l12 : ∀ (E12_68 : mm_T → Int32 → Prop) (hE12_68 : ∀ (μ : mm_T) (c1 : Int32), E12_68 μ c1 → jJ p l e ({ frames := 4, cells := 0, slots := 0, locals := 87 }) s m args below meth c D cy z (MQ below (va_Qv Po (mm_Po D cy z) (mm_A z)) args s 0 0 (mm_A z)) 3 μ 68 [(0, .ref (z + mm_ad 26 0)), (1, .int c1)] []), ∀ t9 : mm_T × Int32 × Int32, lp_ (fun (K9 : mm_T × Int32 × Int32 → Prop) (t9 : mm_T × Int32 × Int32) => pX11_mixPairs_l12 Po E12_68 (fun μ a1 a2 => K9 (μ, a1, a2)) t9.1 t9.2.1 t9.2.2) t9 → jJ p l e ({ frames := 4, cells := 0, slots := 0, locals := 87 }) s m args below meth c D cy z (MQ below (va_Qv Po (mm_Po D cy z) (mm_A z)) args s 0 0 (mm_A z)) 3 t9.1 12 [(0, .ref (z + mm_ad 26 0)), (1, .int t9.2.1), (2, .int t9.2.2)] [] := by
        intro E12_68 hE12_68 t9 h
        refine lp_go (P := fun t9 : mm_T × Int32 × Int32 => jJ p l e ({ frames := 4, cells := 0, slots := 0, locals := 87 }) s m args below meth c D cy z (MQ below (va_Qv Po (mm_Po D cy z) (mm_A z)) args s 0 0 (mm_A z)) 3 t9.1 12 [(0, .ref (z + mm_ad 26 0)), (1, .int t9.2.1), (2, .int t9.2.2)] []) (fun K9 t9 hK h => ?_) t9 h
        obtain ⟨μ, a1, a2⟩ := t9
        obtain ⟨K12, eK12⟩ : ∃ K : mm_T → Int32 → Int32 → Prop, K = (fun μ a1 a2 => K9 (μ, a1, a2)) := ⟨_, rfl⟩
        have hK12 : ∀ (μ : mm_T) (a1 : Int32) (a2 : Int32), K12 μ a1 a2 → jJ p l e ({ frames := 4, cells := 0, slots := 0, locals := 87 }) s m args below meth c D cy z (MQ below (va_Qv Po (mm_Po D cy z) (mm_A z)) args s 0 0 (mm_A z)) 3 μ 12 [(0, .ref (z + mm_ad 26 0)), (1, .int a1), (2, .int a2)] [] := fun μ a1 a2 h9 => hK (μ, a1, a2) (by rw [eK12] at h9; exact h9)
        replace h : pX11_mixPairs_l12 Po E12_68 K12 μ a1 a2 := by rw [eK12]; exact h
        unfold pX11_mixPairs_l12 at h
        refine jr_iload_n (q := 13) C 2 dX11_mixPairs_12 rfl rfl rfl ?_
        refine jr_aload_n (q := 14) C 0 dX11_mixPairs_13 rfl rfl rfl ?_
        refine jr_getI (q := 17) (ci := 11) (Cn := RX11) (T := TX11) (N := 42) (j := 2) C mf_26 rfl rfl (by decide) rfl rfl nX11_mixPairs_11 mX11_mixPairs_1 dX11_mixPairs_14 rfl rfl ?_
        refine jr_icmp_ge (q := 20) (tgt := 68) C dX11_mixPairs_17 (by decide) rfl (fun c25 => ?_) (fun c25 => ?_)
        · replace h := h.1 c25
          refine jr_sub [0, 1] rfl ?_
          exact hE12_68 _ _ h
        · replace h := h.2 c25
          refine jr_aload_n (q := 21) C 0 dX11_mixPairs_20 rfl rfl rfl ?_
          refine jr_iload_n (q := 22) C 1 dX11_mixPairs_21 rfl rfl rfl ?_
          refine jr_iload_n (q := 23) C 2 dX11_mixPairs_22 rfl rfl rfl ?_
          refine jr_cvI (q := 26) (As := [.int a1, .int a2]) (rest := []) C (f := 26) (i := 0) (ci := 11) mf_26 rfl rfl rfl (kX11_isPair l a1 a2) rfl gX11_mixPairs_X11_isPair rfl dsc_X11_isPair ⟨rfl, rfl⟩ ⟨by decide, by decide⟩ rfl rfl (Nat.le_of_ble_eq_true rfl) dX11_mixPairs_23 rfl h (fun r14 μ13 h => ?_)
          refine jr_if_eq (q := 29) (tgt := 62) C dX11_mixPairs_26 (by decide) rfl (fun c24 => ?_) (fun c24 => ?_)
          · replace h := h.1 c24
            refine jr_iinc (q := 65) (lv' := [(2, .int (a2 + (1 : Int32))), (0, .ref (z + mm_ad 26 0)), (1, .int a1)]) C 2 dX11_mixPairs_62 rfl (by rfl) (by decide) rfl rfl ?_
            refine jr_goto (tgt := 12) C dX11_mixPairs_65 (by decide) ?_
            refine jr_sub [1, 2, 0] rfl ?_
            exact hK12 _ _ _ h
          · replace h := h.2 c24
            refine jr_aload_n (q := 30) C 0 dX11_mixPairs_29 rfl rfl rfl ?_
            refine jr_aload_n (q := 31) C 0 dX11_mixPairs_30 rfl rfl rfl ?_
            refine jr_iload_n (q := 32) C 1 dX11_mixPairs_31 rfl rfl rfl ?_
            refine jr_iload_n (q := 33) C 2 dX11_mixPairs_32 rfl rfl rfl ?_
            refine jr_cvI (q := 36) (As := [.int a1, .int a2]) (rest := [.ref (z + mm_ad 26 0)]) C (f := 26) (i := 0) (ci := 11) mf_26 rfl rfl rfl (kX11_flightOf l a1 a2) rfl gX11_mixPairs_X11_flightOf rfl dsc_X11_flightOf ⟨rfl, rfl⟩ ⟨by decide, by decide⟩ rfl rfl (Nat.le_of_ble_eq_true rfl) dX11_mixPairs_33 rfl h (fun r16 μ15 h => ?_)
            refine jr_i2l (q := 37) C dX11_mixPairs_36 rfl ?_
            refine jr_cvV (q := 40) (As := [.long r16.toInt64]) (rest := []) C (f := 26) (i := 0) (ci := 11) mf_26 rfl rfl rfl (kX11_mix l r16.toInt64) rfl gX11_mixPairs_X11_mix rfl dsc_X11_mix ⟨rfl, rfl⟩ ⟨by decide, by decide⟩ rfl rfl (Nat.le_of_ble_eq_true rfl) dX11_mixPairs_37 rfl h (fun μ17 h => ?_)
            refine jr_aload_n (q := 41) C 0 dX11_mixPairs_40 rfl rfl rfl ?_
            refine jr_aload_n (q := 42) C 0 dX11_mixPairs_41 rfl rfl rfl ?_
            refine jr_iload_n (q := 43) C 1 dX11_mixPairs_42 rfl rfl rfl ?_
            refine jr_iload_n (q := 44) C 2 dX11_mixPairs_43 rfl rfl rfl ?_
            refine jr_cvI (q := 47) (As := [.int a1, .int a2]) (rest := [.ref (z + mm_ad 26 0)]) C (f := 26) (i := 0) (ci := 11) mf_26 rfl rfl rfl (kX11_firstExtra l a1 a2) rfl gX11_mixPairs_X11_firstExtra rfl dsc_X11_firstExtra ⟨rfl, rfl⟩ ⟨by decide, by decide⟩ rfl rfl (Nat.le_of_ble_eq_true rfl) dX11_mixPairs_44 rfl h (fun r19 μ18 h => ?_)
            refine jr_i2l (q := 48) C dX11_mixPairs_47 rfl ?_
            refine jr_cvV (q := 51) (As := [.long r19.toInt64]) (rest := []) C (f := 26) (i := 0) (ci := 11) mf_26 rfl rfl rfl (kX11_mix l r19.toInt64) rfl gX11_mixPairs_X11_mix rfl dsc_X11_mix ⟨rfl, rfl⟩ ⟨by decide, by decide⟩ rfl rfl (Nat.le_of_ble_eq_true rfl) dX11_mixPairs_48 rfl h (fun μ20 h => ?_)
            refine jr_aload_n (q := 52) C 0 dX11_mixPairs_51 rfl rfl rfl ?_
            refine jr_aload_n (q := 53) C 0 dX11_mixPairs_52 rfl rfl rfl ?_
            refine jr_iload_n (q := 54) C 1 dX11_mixPairs_53 rfl rfl rfl ?_
            refine jr_iload_n (q := 55) C 2 dX11_mixPairs_54 rfl rfl rfl ?_
            refine jr_cvI (q := 58) (As := [.int a1, .int a2]) (rest := [.ref (z + mm_ad 26 0)]) C (f := 26) (i := 0) (ci := 11) mf_26 rfl rfl rfl (kX11_rangeNow l a1 a2) rfl gX11_mixPairs_X11_rangeNow rfl dsc_X11_rangeNow ⟨rfl, rfl⟩ ⟨by decide, by decide⟩ rfl rfl (Nat.le_of_ble_eq_true rfl) dX11_mixPairs_55 rfl h (fun r22 μ21 h => ?_)
            refine jr_i2l (q := 59) C dX11_mixPairs_58 rfl ?_
            refine jr_cvV (q := 62) (As := [.long r22.toInt64]) (rest := []) C (f := 26) (i := 0) (ci := 11) mf_26 rfl rfl rfl (kX11_mix l r22.toInt64) rfl gX11_mixPairs_X11_mix rfl dsc_X11_mix ⟨rfl, rfl⟩ ⟨by decide, by decide⟩ rfl rfl (Nat.le_of_ble_eq_true rfl) dX11_mixPairs_59 rfl h (fun μ23 h => ?_)
            refine jr_iinc (q := 65) (lv' := [(2, .int (a2 + (1 : Int32))), (0, .ref (z + mm_ad 26 0)), (1, .int a1)]) C 2 dX11_mixPairs_62 rfl (by rfl) (by decide) rfl rfl ?_
            refine jr_goto (tgt := 12) C dX11_mixPairs_65 (by decide) ?_
            refine jr_sub [1, 2, 0] rfl ?_
            exact hK12 _ _ _ h
      have x12_68 : ∀ (μ : mm_T) (c1 : Int32), (K2 μ (c1 + (1 : Int32))) → jJ p l e ({ frames := 4, cells := 0, slots := 0, locals := 87 }) s m args below meth c D cy z (MQ below (va_Qv Po (mm_Po D cy z) (mm_A z)) args s 0 0 (mm_A z)) 3 μ 68 [(0, .ref (z + mm_ad 26 0)), (1, .int c1)] [] := by
        intro μ c1 h
        refine jr_iinc (q := 71) (lv' := [(1, .int (c1 + (1 : Int32))), (0, .ref (z + mm_ad 26 0))]) C 1 dX11_mixPairs_68 rfl (by rfl) (by decide) rfl rfl ?_
        refine jr_goto (tgt := 2) C dX11_mixPairs_71 (by decide) ?_
        refine jr_sub [1, 0] rfl ?_
        exact hK2 _ _ h
      refine jr_sub [1, 2, 0] rfl ?_
      exact l12 _ x12_68 _ h
  have x2_74 : ∀ (μ : mm_T), (lp_ (fun (K9 : mm_T × Int32 → Prop) (t9 : mm_T × Int32) => pX11_mixPairs_l76 Po (fun μ => lp_ (fun (K9 : mm_T × Int32 → Prop) (t9 : mm_T × Int32) => pX11_mixPairs_l107 Po (fun μ => Po μ) (fun μ a1 => K9 (μ, a1)) t9.1 t9.2) (μ, (0 : Int32))) (fun μ a1 => K9 (μ, a1)) t9.1 t9.2) (μ, (1 : Int32))) → jJ p l e ({ frames := 4, cells := 0, slots := 0, locals := 87 }) s m args below meth c D cy z (MQ below (va_Qv Po (mm_Po D cy z) (mm_A z)) args s 0 0 (mm_A z)) 3 μ 74 [(0, .ref (z + mm_ad 26 0))] [] := by
    intro μ h
    refine jr_iconst (q := 75) (v := (1 : Int32)) C dX11_mixPairs_74 (by decide) rfl ?_
    refine jr_istore_n (q := 76) (lv' := [(1, .int (1 : Int32)), (0, .ref (z + mm_ad 26 0))]) C dX11_mixPairs_75 rfl (by decide) rfl rfl ?_
    have l76 : ∀ (E76_105 : mm_T → Prop) (hE76_105 : ∀ (μ : mm_T), E76_105 μ → jJ p l e ({ frames := 4, cells := 0, slots := 0, locals := 87 }) s m args below meth c D cy z (MQ below (va_Qv Po (mm_Po D cy z) (mm_A z)) args s 0 0 (mm_A z)) 3 μ 105 [(0, .ref (z + mm_ad 26 0))] []), ∀ t9 : mm_T × Int32, lp_ (fun (K9 : mm_T × Int32 → Prop) (t9 : mm_T × Int32) => pX11_mixPairs_l76 Po E76_105 (fun μ a1 => K9 (μ, a1)) t9.1 t9.2) t9 → jJ p l e ({ frames := 4, cells := 0, slots := 0, locals := 87 }) s m args below meth c D cy z (MQ below (va_Qv Po (mm_Po D cy z) (mm_A z)) args s 0 0 (mm_A z)) 3 t9.1 76 [(0, .ref (z + mm_ad 26 0)), (1, .int t9.2)] [] := by
      intro E76_105 hE76_105 t9 h
      refine lp_go (P := fun t9 : mm_T × Int32 => jJ p l e ({ frames := 4, cells := 0, slots := 0, locals := 87 }) s m args below meth c D cy z (MQ below (va_Qv Po (mm_Po D cy z) (mm_A z)) args s 0 0 (mm_A z)) 3 t9.1 76 [(0, .ref (z + mm_ad 26 0)), (1, .int t9.2)] []) (fun K9 t9 hK h => ?_) t9 h
      obtain ⟨μ, a1⟩ := t9
      obtain ⟨K76, eK76⟩ : ∃ K : mm_T → Int32 → Prop, K = (fun μ a1 => K9 (μ, a1)) := ⟨_, rfl⟩
      have hK76 : ∀ (μ : mm_T) (a1 : Int32), K76 μ a1 → jJ p l e ({ frames := 4, cells := 0, slots := 0, locals := 87 }) s m args below meth c D cy z (MQ below (va_Qv Po (mm_Po D cy z) (mm_A z)) args s 0 0 (mm_A z)) 3 μ 76 [(0, .ref (z + mm_ad 26 0)), (1, .int a1)] [] := fun μ a1 h9 => hK (μ, a1) (by rw [eK76] at h9; exact h9)
      replace h : pX11_mixPairs_l76 Po E76_105 K76 μ a1 := by rw [eK76]; exact h
      unfold pX11_mixPairs_l76 at h
      refine jr_iload_n (q := 77) C 1 dX11_mixPairs_76 rfl rfl rfl ?_
      refine jr_bipush (q := 79) (v := (12 : Int32)) C dX11_mixPairs_77 (by decide) rfl ?_
      refine jr_icmp_ge (q := 82) (tgt := 105) C dX11_mixPairs_79 (by decide) rfl (fun c12 => ?_) (fun c12 => ?_)
      · replace h := h.1 c12
        refine jr_sub [0] rfl ?_
        exact hE76_105 _ h
      · replace h := h.2 c12
        refine jr_aload_n (q := 83) C 0 dX11_mixPairs_82 rfl rfl rfl ?_
        refine jr_getI (q := 86) (ci := 11) (Cn := RX11) (T := TX11) (N := 42) (j := 20) C mf_26 rfl rfl (by decide) rfl rfl nX11_mixPairs_11 mX11_mixPairs_2 dX11_mixPairs_83 rfl rfl ?_
        refine jr_if_eq (q := 89) (tgt := 105) C dX11_mixPairs_86 (by decide) rfl (fun c11 => ?_) (fun c11 => ?_)
        · replace h := h.1 c11
          refine jr_sub [0] rfl ?_
          exact hE76_105 _ h
        · replace h := h.2 c11
          refine jr_aload_n (q := 90) C 0 dX11_mixPairs_89 rfl rfl rfl ?_
          refine jr_aload_n (q := 91) C 0 dX11_mixPairs_90 rfl rfl rfl ?_
          refine jr_iload_n (q := 92) C 1 dX11_mixPairs_91 rfl rfl rfl ?_
          refine jr_cvI (q := 95) (As := [.int a1]) (rest := [.ref (z + mm_ad 26 0)]) C (f := 26) (i := 0) (ci := 11) mf_26 rfl rfl rfl (kX11_lastNow l a1) rfl gX11_mixPairs_X11_lastNow rfl dsc_X11_lastNow ⟨rfl, rfl⟩ ⟨by decide, by decide⟩ rfl rfl (Nat.le_of_ble_eq_true rfl) dX11_mixPairs_92 rfl h (fun r9 μ8 h => ?_)
          refine jr_i2l (q := 96) C dX11_mixPairs_95 rfl ?_
          refine jr_cvV (q := 99) (As := [.long r9.toInt64]) (rest := []) C (f := 26) (i := 0) (ci := 11) mf_26 rfl rfl rfl (kX11_mix l r9.toInt64) rfl gX11_mixPairs_X11_mix rfl dsc_X11_mix ⟨rfl, rfl⟩ ⟨by decide, by decide⟩ rfl rfl (Nat.le_of_ble_eq_true rfl) dX11_mixPairs_96 rfl h (fun μ10 h => ?_)
          refine jr_iinc (q := 102) (lv' := [(1, .int (a1 + (1 : Int32))), (0, .ref (z + mm_ad 26 0))]) C 1 dX11_mixPairs_99 rfl (by rfl) (by decide) rfl rfl ?_
          refine jr_goto (tgt := 76) C dX11_mixPairs_102 (by decide) ?_
          refine jr_sub [1, 0] rfl ?_
          exact hK76 _ _ h
    have x76_105 : ∀ (μ : mm_T), (lp_ (fun (K9 : mm_T × Int32 → Prop) (t9 : mm_T × Int32) => pX11_mixPairs_l107 Po (fun μ => Po μ) (fun μ a1 => K9 (μ, a1)) t9.1 t9.2) (μ, (0 : Int32))) → jJ p l e ({ frames := 4, cells := 0, slots := 0, locals := 87 }) s m args below meth c D cy z (MQ below (va_Qv Po (mm_Po D cy z) (mm_A z)) args s 0 0 (mm_A z)) 3 μ 105 [(0, .ref (z + mm_ad 26 0))] [] := by
      intro μ h
      refine jr_iconst (q := 106) (v := (0 : Int32)) C dX11_mixPairs_105 (by decide) rfl ?_
      refine jr_istore_n (q := 107) (lv' := [(1, .int (0 : Int32)), (0, .ref (z + mm_ad 26 0))]) C dX11_mixPairs_106 rfl (by decide) rfl rfl ?_
      have l107 : ∀ (E107_154 : mm_T → Prop) (hE107_154 : ∀ (μ : mm_T), E107_154 μ → jJ p l e ({ frames := 4, cells := 0, slots := 0, locals := 87 }) s m args below meth c D cy z (MQ below (va_Qv Po (mm_Po D cy z) (mm_A z)) args s 0 0 (mm_A z)) 3 μ 154 [] []), ∀ t9 : mm_T × Int32, lp_ (fun (K9 : mm_T × Int32 → Prop) (t9 : mm_T × Int32) => pX11_mixPairs_l107 Po E107_154 (fun μ a1 => K9 (μ, a1)) t9.1 t9.2) t9 → jJ p l e ({ frames := 4, cells := 0, slots := 0, locals := 87 }) s m args below meth c D cy z (MQ below (va_Qv Po (mm_Po D cy z) (mm_A z)) args s 0 0 (mm_A z)) 3 t9.1 107 [(0, .ref (z + mm_ad 26 0)), (1, .int t9.2)] [] := by
        intro E107_154 hE107_154 t9 h
        refine lp_go (P := fun t9 : mm_T × Int32 => jJ p l e ({ frames := 4, cells := 0, slots := 0, locals := 87 }) s m args below meth c D cy z (MQ below (va_Qv Po (mm_Po D cy z) (mm_A z)) args s 0 0 (mm_A z)) 3 t9.1 107 [(0, .ref (z + mm_ad 26 0)), (1, .int t9.2)] []) (fun K9 t9 hK h => ?_) t9 h
        obtain ⟨μ, a1⟩ := t9
        obtain ⟨K107, eK107⟩ : ∃ K : mm_T → Int32 → Prop, K = (fun μ a1 => K9 (μ, a1)) := ⟨_, rfl⟩
        have hK107 : ∀ (μ : mm_T) (a1 : Int32), K107 μ a1 → jJ p l e ({ frames := 4, cells := 0, slots := 0, locals := 87 }) s m args below meth c D cy z (MQ below (va_Qv Po (mm_Po D cy z) (mm_A z)) args s 0 0 (mm_A z)) 3 μ 107 [(0, .ref (z + mm_ad 26 0)), (1, .int a1)] [] := fun μ a1 h9 => hK (μ, a1) (by rw [eK107] at h9; exact h9)
        replace h : pX11_mixPairs_l107 Po E107_154 K107 μ a1 := by rw [eK107]; exact h
        unfold pX11_mixPairs_l107 at h
        refine jr_iload_n (q := 108) C 1 dX11_mixPairs_107 rfl rfl rfl ?_
        refine jr_aload_n (q := 109) C 0 dX11_mixPairs_108 rfl rfl rfl ?_
        refine jr_getI (q := 112) (ci := 11) (Cn := RX11) (T := TX11) (N := 42) (j := 2) C mf_26 rfl rfl (by decide) rfl rfl nX11_mixPairs_11 mX11_mixPairs_1 dX11_mixPairs_109 rfl rfl ?_
        refine jr_icmp_ge (q := 115) (tgt := 154) C dX11_mixPairs_112 (by decide) rfl (fun c7 => ?_) (fun c7 => ?_)
        · replace h := h.1 c7
          refine jr_sub [] rfl ?_
          exact hE107_154 _ h
        · replace h := h.2 c7
          refine jr_aload_n (q := 116) C 0 dX11_mixPairs_115 rfl rfl rfl ?_
          refine jr_getI (q := 119) (ci := 11) (Cn := RX11) (T := TX11) (N := 42) (j := 20) C mf_26 rfl rfl (by decide) rfl rfl nX11_mixPairs_11 mX11_mixPairs_2 dX11_mixPairs_116 rfl rfl ?_
          refine jr_if_eq (q := 122) (tgt := 154) C dX11_mixPairs_119 (by decide) rfl (fun c6 => ?_) (fun c6 => ?_)
          · replace h := h.1 c6
            refine jr_sub [] rfl ?_
            exact hE107_154 _ h
          · replace h := h.2 c6
            refine jr_iload_n (q := 123) C 1 dX11_mixPairs_122 rfl rfl rfl ?_
            refine jr_aload_n (q := 124) C 0 dX11_mixPairs_123 rfl rfl rfl ?_
            refine jr_getI (q := 127) (ci := 11) (Cn := RX11) (T := TX11) (N := 42) (j := 21) C mf_26 rfl rfl (by decide) rfl rfl nX11_mixPairs_11 mX11_mixPairs_3 dX11_mixPairs_124 rfl rfl ?_
            refine jr_icmp_eq (q := 130) (tgt := 148) C dX11_mixPairs_127 (by decide) rfl (fun c5 => ?_) (fun c5 => ?_)
            · replace h := h.1 c5
              refine jr_iinc (q := 151) (lv' := [(1, .int (a1 + (1 : Int32))), (0, .ref (z + mm_ad 26 0))]) C 1 dX11_mixPairs_148 rfl (by rfl) (by decide) rfl rfl ?_
              refine jr_goto (tgt := 107) C dX11_mixPairs_151 (by decide) ?_
              refine jr_sub [1, 0] rfl ?_
              exact hK107 _ _ h
            · replace h := h.2 c5
              refine jr_iload_n (q := 131) C 1 dX11_mixPairs_130 rfl rfl rfl ?_
              refine jr_aload_n (q := 132) C 0 dX11_mixPairs_131 rfl rfl rfl ?_
              refine jr_getI (q := 135) (ci := 11) (Cn := RX11) (T := TX11) (N := 42) (j := 22) C mf_26 rfl rfl (by decide) rfl rfl nX11_mixPairs_11 mX11_mixPairs_4 dX11_mixPairs_132 rfl rfl ?_
              refine jr_icmp_eq (q := 138) (tgt := 148) C dX11_mixPairs_135 (by decide) rfl (fun c4 => ?_) (fun c4 => ?_)
              · replace h := h.1 c4
                refine jr_iinc (q := 151) (lv' := [(1, .int (a1 + (1 : Int32))), (0, .ref (z + mm_ad 26 0))]) C 1 dX11_mixPairs_148 rfl (by rfl) (by decide) rfl rfl ?_
                refine jr_goto (tgt := 107) C dX11_mixPairs_151 (by decide) ?_
                refine jr_sub [1, 0] rfl ?_
                exact hK107 _ _ h
              · replace h := h.2 c4
                refine jr_aload_n (q := 139) C 0 dX11_mixPairs_138 rfl rfl rfl ?_
                refine jr_aload_n (q := 140) C 0 dX11_mixPairs_139 rfl rfl rfl ?_
                refine jr_iload_n (q := 141) C 1 dX11_mixPairs_140 rfl rfl rfl ?_
                refine jr_cvI (q := 144) (As := [.int a1]) (rest := [.ref (z + mm_ad 26 0)]) C (f := 26) (i := 0) (ci := 11) mf_26 rfl rfl rfl (kX11_heardNow l a1) rfl gX11_mixPairs_X11_heardNow rfl dsc_X11_heardNow ⟨rfl, rfl⟩ ⟨by decide, by decide⟩ rfl rfl (Nat.le_of_ble_eq_true rfl) dX11_mixPairs_141 rfl h (fun r2 μ1 h => ?_)
                refine jr_i2l (q := 145) C dX11_mixPairs_144 rfl ?_
                refine jr_cvV (q := 148) (As := [.long r2.toInt64]) (rest := []) C (f := 26) (i := 0) (ci := 11) mf_26 rfl rfl rfl (kX11_mix l r2.toInt64) rfl gX11_mixPairs_X11_mix rfl dsc_X11_mix ⟨rfl, rfl⟩ ⟨by decide, by decide⟩ rfl rfl (Nat.le_of_ble_eq_true rfl) dX11_mixPairs_145 rfl h (fun μ3 h => ?_)
                refine jr_iinc (q := 151) (lv' := [(1, .int (a1 + (1 : Int32))), (0, .ref (z + mm_ad 26 0))]) C 1 dX11_mixPairs_148 rfl (by rfl) (by decide) rfl rfl ?_
                refine jr_goto (tgt := 107) C dX11_mixPairs_151 (by decide) ?_
                refine jr_sub [1, 0] rfl ?_
                exact hK107 _ _ h
      have x107_154 : ∀ (μ : mm_T), (Po μ) → jJ p l e ({ frames := 4, cells := 0, slots := 0, locals := 87 }) s m args below meth c D cy z (MQ below (va_Qv Po (mm_Po D cy z) (mm_A z)) args s 0 0 (mm_A z)) 3 μ 154 [] [] := by
        intro μ h
        exact jr_vret C hr hk dX11_mixPairs_154 h
      refine jr_sub [1, 0] rfl ?_
      exact l107 _ x107_154 _ h
    refine jr_sub [1, 0] rfl ?_
    exact l76 _ x76_105 _ h
  refine jr_sub [1, 0] rfl ?_
  exact l2 _ x2_74 _ h
theorem nX11_mixField_11 : ∀ w ∈ wsX110, w ∈ wsX11_mixField := fun _ h => List.mem_cons_of_mem _ (List.mem_append_right _ h)
theorem mX11_mixField_1 : Cond.fieldLink RX11 53 RX11 (TX11 16).2.1 (TX11 16).2.2.1 ∈ wsX11_mixField := List.mem_of_getElem? (i := 3) (by decide +kernel)
theorem mX11_mixField_2 : Cond.fieldLink RX11 129 RX11 (TX11 2).2.1 (TX11 2).2.2.1 ∈ wsX11_mixField := List.mem_of_getElem? (i := 1) (by decide +kernel)
theorem mX11_mixField_3 : Cond.fieldLink RX11 13 RX11 (TX11 3).2.1 (TX11 3).2.2.1 ∈ wsX11_mixField := List.mem_of_getElem? (i := 2) (by decide +kernel)
theorem dsc_X11_mixField : yX11_mixField.cls ≠ "java/lang/invoke/MethodHandle" ∧ yX11_mixField.cls ≠ "java/lang/invoke/VarHandle" ∧ (parseMethodDescriptor yX11_mixField.desc).map (fun d => d.parameters.length) = some 0 := by decide +kernel
def pX11_mixField_l123 (Po : mm_T → Prop) (E123_146 : mm_T → Prop) (K123 : mm_T → Int32 → Prop) (μ : mm_T) (a1 : Int32) : Prop := ((16 : Int32) ≤ a1 → E123_146 μ) ∧ (¬ ((16 : Int32) ≤ a1) → (vp_in a1 16) ∧ (pX11_mix (fun μ3 => K123 μ3 (a1 + (1 : Int32))) μ ((μ.1 41 0 a1.toNatClampNeg).toInt64)))
def pX11_mixField_l76 (Po : mm_T → Prop) (E76_115 : mm_T → Int32 → Prop) (K76 : mm_T → Int32 → Int32 → Prop) (μ : mm_T) (a1 : Int32) (a2 : Int32) : Prop := ((5 : Int32) ≤ a2 → E76_115 μ a1) ∧ (¬ ((5 : Int32) ≤ a2) → (vp_in a1 7) ∧ (((μ.1 28 0 a1.toNatClampNeg) = 0 → E76_115 μ a1) ∧ (¬ ((μ.1 28 0 a1.toNatClampNeg) = 0) → pX11_isPlaced (fun r7 μ6 => (r7 = 0 → E76_115 μ6 a1) ∧ (¬ (r7 = 0) → pX11_placedNow (fun r9 μ8 => pX11_mix (fun μ10 => K76 μ10 a1 (a2 + (1 : Int32))) μ8 r9.toInt64) μ6 a1 a2)) μ a1)))
def pX11_mixField_l66 (Po : mm_T → Prop) (E66_121 : mm_T → Prop) (K66 : mm_T → Int32 → Prop) (μ : mm_T) (a1 : Int32) : Prop := ((μ.1 26 0 2) ≤ a1 → E66_121 μ) ∧ (¬ ((μ.1 26 0 2) ≤ a1) → lp_ (fun (K9 : mm_T × Int32 × Int32 → Prop) (t9 : mm_T × Int32 × Int32) => pX11_mixField_l76 Po (fun μ c1 => K66 μ (c1 + (1 : Int32))) (fun μ a1 a2 => K9 (μ, a1, a2)) t9.1 t9.2.1 t9.2.2) (μ, a1, (0 : Int32)))
def pX11_mixField_l26 (Po : mm_T → Prop) (E26_60 : mm_T → Prop) (K26 : mm_T → Int32 → Prop) (μ : mm_T) (a1 : Int32) : Prop := (((9 : Int32) * (μ.1 26 0 2)) ≤ a1 → E26_60 μ) ∧ (¬ (((9 : Int32) * (μ.1 26 0 2)) ≤ a1) → pX11_nodeNow (fun r16 μ15 => pX11_mix (fun μ17 => K26 μ17 (a1 + (1 : Int32))) μ15 r16.toInt64) μ (a1 / (9 : Int32)) (a1 - a1 / (9 : Int32) * (9 : Int32)))
def pX11_mixField_l2 (Po : mm_T → Prop) (E2_24 : mm_T → Prop) (K2 : mm_T → Int32 → Prop) (μ : mm_T) (a1 : Int32) : Prop := ((8 : Int32) ≤ a1 → E2_24 μ) ∧ (¬ ((8 : Int32) ≤ a1) → pX11_aboutNow (fun r20 μ19 => pX11_mix (fun μ21 => K2 μ21 (a1 + (1 : Int32))) μ19 r20.toInt64) μ a1)
def pX11_mixField (Po : mm_T → Prop) (μ : mm_T) : Prop := lp_ (fun (K9 : mm_T × Int32 → Prop) (t9 : mm_T × Int32) => pX11_mixField_l2 Po (fun μ => lp_ (fun (K9 : mm_T × Int32 → Prop) (t9 : mm_T × Int32) => pX11_mixField_l26 Po (fun μ => pX11_mixPairs (fun μ1 => lp_ (fun (K9 : mm_T × Int32 → Prop) (t9 : mm_T × Int32) => pX11_mixField_l66 Po (fun μ => lp_ (fun (K9 : mm_T × Int32 → Prop) (t9 : mm_T × Int32) => pX11_mixField_l123 Po (fun μ => Po μ) (fun μ a1 => K9 (μ, a1)) t9.1 t9.2) (μ, (0 : Int32))) (fun μ a1 => K9 (μ, a1)) t9.1 t9.2) (μ1, (0 : Int32))) μ ) (fun μ a1 => K9 (μ, a1)) t9.1 t9.2) (μ, (0 : Int32))) (fun μ a1 => K9 (μ, a1)) t9.1 t9.2) (μ, (0 : Int32))
set_option maxHeartbeats 4000000 in
set_option maxRecDepth 100000 in
theorem kX11_mixField (l : Launch) : mm_CV l yX11_mixField wsX11_mixField ({ frames := 8, cells := 0, slots := 0, locals := 191 }) (fun z => [.ref (z + mm_ad 26 0)]) (fun μ Po => pX11_mixField Po μ) := by
  refine je_V (cc := cX11_mixField) (nL := 3) (own := RX11) (plainFor_of_name (by decide)) rfl rfl (fun _ => Nat.le_of_ble_eq_true rfl) ?_
  intro p e s m args below meth c D cy z μ Po C hr hk h
  change jJ p l e ({ frames := 8, cells := 0, slots := 0, locals := 191 }) s m args below meth c D cy z (MQ below (va_Qv Po (mm_Po D cy z) (mm_A z)) args s 0 0 (mm_A z)) 3 μ 0 [(0, .ref (z + mm_ad 26 0))] []
  replace h : pX11_mixField Po μ := h
  unfold pX11_mixField at h
  refine jr_iconst (q := 1) (v := (0 : Int32)) C dX11_mixField_0 (by decide) rfl ?_
  refine jr_istore_n (q := 2) (lv' := [(1, .int (0 : Int32)), (0, .ref (z + mm_ad 26 0))]) C dX11_mixField_1 rfl (by decide) rfl rfl ?_
  have l2 : ∀ (E2_24 : mm_T → Prop) (hE2_24 : ∀ (μ : mm_T), E2_24 μ → jJ p l e ({ frames := 8, cells := 0, slots := 0, locals := 191 }) s m args below meth c D cy z (MQ below (va_Qv Po (mm_Po D cy z) (mm_A z)) args s 0 0 (mm_A z)) 3 μ 24 [(0, .ref (z + mm_ad 26 0))] []), ∀ t9 : mm_T × Int32, lp_ (fun (K9 : mm_T × Int32 → Prop) (t9 : mm_T × Int32) => pX11_mixField_l2 Po E2_24 (fun μ a1 => K9 (μ, a1)) t9.1 t9.2) t9 → jJ p l e ({ frames := 8, cells := 0, slots := 0, locals := 191 }) s m args below meth c D cy z (MQ below (va_Qv Po (mm_Po D cy z) (mm_A z)) args s 0 0 (mm_A z)) 3 t9.1 2 [(0, .ref (z + mm_ad 26 0)), (1, .int t9.2)] [] := by
    intro E2_24 hE2_24 t9 h
    refine lp_go (P := fun t9 : mm_T × Int32 => jJ p l e ({ frames := 8, cells := 0, slots := 0, locals := 191 }) s m args below meth c D cy z (MQ below (va_Qv Po (mm_Po D cy z) (mm_A z)) args s 0 0 (mm_A z)) 3 t9.1 2 [(0, .ref (z + mm_ad 26 0)), (1, .int t9.2)] []) (fun K9 t9 hK h => ?_) t9 h
    obtain ⟨μ, a1⟩ := t9
    obtain ⟨K2, eK2⟩ : ∃ K : mm_T → Int32 → Prop, K = (fun μ a1 => K9 (μ, a1)) := ⟨_, rfl⟩
    have hK2 : ∀ (μ : mm_T) (a1 : Int32), K2 μ a1 → jJ p l e ({ frames := 8, cells := 0, slots := 0, locals := 191 }) s m args below meth c D cy z (MQ below (va_Qv Po (mm_Po D cy z) (mm_A z)) args s 0 0 (mm_A z)) 3 μ 2 [(0, .ref (z + mm_ad 26 0)), (1, .int a1)] [] := fun μ a1 h9 => hK (μ, a1) (by rw [eK2] at h9; exact h9)
    replace h : pX11_mixField_l2 Po E2_24 K2 μ a1 := by rw [eK2]; exact h
    unfold pX11_mixField_l2 at h
    refine jr_iload_n (q := 3) C 1 dX11_mixField_2 rfl rfl rfl ?_
    refine jr_bipush (q := 5) (v := (8 : Int32)) C dX11_mixField_3 (by decide) rfl ?_
    refine jr_icmp_ge (q := 8) (tgt := 24) C dX11_mixField_5 (by decide) rfl (fun c22 => ?_) (fun c22 => ?_)
    · replace h := h.1 c22
      refine jr_sub [0] rfl ?_
      exact hE2_24 _ h
    · replace h := h.2 c22
      refine jr_aload_n (q := 9) C 0 dX11_mixField_8 rfl rfl rfl ?_
      refine jr_aload_n (q := 10) C 0 dX11_mixField_9 rfl rfl rfl ?_
      refine jr_iload_n (q := 11) C 1 dX11_mixField_10 rfl rfl rfl ?_
      refine jr_cvI (q := 14) (As := [.int a1]) (rest := [.ref (z + mm_ad 26 0)]) C (f := 26) (i := 0) (ci := 11) mf_26 rfl rfl rfl (kX11_aboutNow l a1) rfl gX11_mixField_X11_aboutNow rfl dsc_X11_aboutNow ⟨rfl, rfl⟩ ⟨by decide, by decide⟩ rfl rfl (Nat.le_of_ble_eq_true rfl) dX11_mixField_11 rfl h (fun r20 μ19 h => ?_)
      refine jr_i2l (q := 15) C dX11_mixField_14 rfl ?_
      refine jr_cvV (q := 18) (As := [.long r20.toInt64]) (rest := []) C (f := 26) (i := 0) (ci := 11) mf_26 rfl rfl rfl (kX11_mix l r20.toInt64) rfl gX11_mixField_X11_mix rfl dsc_X11_mix ⟨rfl, rfl⟩ ⟨by decide, by decide⟩ rfl rfl (Nat.le_of_ble_eq_true rfl) dX11_mixField_15 rfl h (fun μ21 h => ?_)
      refine jr_iinc (q := 21) (lv' := [(1, .int (a1 + (1 : Int32))), (0, .ref (z + mm_ad 26 0))]) C 1 dX11_mixField_18 rfl (by rfl) (by decide) rfl rfl ?_
      refine jr_goto (tgt := 2) C dX11_mixField_21 (by decide) ?_
      refine jr_sub [1, 0] rfl ?_
      exact hK2 _ _ h
  have x2_24 : ∀ (μ : mm_T), (lp_ (fun (K9 : mm_T × Int32 → Prop) (t9 : mm_T × Int32) => pX11_mixField_l26 Po (fun μ => pX11_mixPairs (fun μ1 => lp_ (fun (K9 : mm_T × Int32 → Prop) (t9 : mm_T × Int32) => pX11_mixField_l66 Po (fun μ => lp_ (fun (K9 : mm_T × Int32 → Prop) (t9 : mm_T × Int32) => pX11_mixField_l123 Po (fun μ => Po μ) (fun μ a1 => K9 (μ, a1)) t9.1 t9.2) (μ, (0 : Int32))) (fun μ a1 => K9 (μ, a1)) t9.1 t9.2) (μ1, (0 : Int32))) μ ) (fun μ a1 => K9 (μ, a1)) t9.1 t9.2) (μ, (0 : Int32))) → jJ p l e ({ frames := 8, cells := 0, slots := 0, locals := 191 }) s m args below meth c D cy z (MQ below (va_Qv Po (mm_Po D cy z) (mm_A z)) args s 0 0 (mm_A z)) 3 μ 24 [(0, .ref (z + mm_ad 26 0))] [] := by
    intro μ h
    refine jr_iconst (q := 25) (v := (0 : Int32)) C dX11_mixField_24 (by decide) rfl ?_
    refine jr_istore_n (q := 26) (lv' := [(1, .int (0 : Int32)), (0, .ref (z + mm_ad 26 0))]) C dX11_mixField_25 rfl (by decide) rfl rfl ?_
    have l26 : ∀ (E26_60 : mm_T → Prop) (hE26_60 : ∀ (μ : mm_T), E26_60 μ → jJ p l e ({ frames := 8, cells := 0, slots := 0, locals := 191 }) s m args below meth c D cy z (MQ below (va_Qv Po (mm_Po D cy z) (mm_A z)) args s 0 0 (mm_A z)) 3 μ 60 [(0, .ref (z + mm_ad 26 0))] []), ∀ t9 : mm_T × Int32, lp_ (fun (K9 : mm_T × Int32 → Prop) (t9 : mm_T × Int32) => pX11_mixField_l26 Po E26_60 (fun μ a1 => K9 (μ, a1)) t9.1 t9.2) t9 → jJ p l e ({ frames := 8, cells := 0, slots := 0, locals := 191 }) s m args below meth c D cy z (MQ below (va_Qv Po (mm_Po D cy z) (mm_A z)) args s 0 0 (mm_A z)) 3 t9.1 26 [(0, .ref (z + mm_ad 26 0)), (1, .int t9.2)] [] := by
      intro E26_60 hE26_60 t9 h
      refine lp_go (P := fun t9 : mm_T × Int32 => jJ p l e ({ frames := 8, cells := 0, slots := 0, locals := 191 }) s m args below meth c D cy z (MQ below (va_Qv Po (mm_Po D cy z) (mm_A z)) args s 0 0 (mm_A z)) 3 t9.1 26 [(0, .ref (z + mm_ad 26 0)), (1, .int t9.2)] []) (fun K9 t9 hK h => ?_) t9 h
      obtain ⟨μ, a1⟩ := t9
      obtain ⟨K26, eK26⟩ : ∃ K : mm_T → Int32 → Prop, K = (fun μ a1 => K9 (μ, a1)) := ⟨_, rfl⟩
      have hK26 : ∀ (μ : mm_T) (a1 : Int32), K26 μ a1 → jJ p l e ({ frames := 8, cells := 0, slots := 0, locals := 191 }) s m args below meth c D cy z (MQ below (va_Qv Po (mm_Po D cy z) (mm_A z)) args s 0 0 (mm_A z)) 3 μ 26 [(0, .ref (z + mm_ad 26 0)), (1, .int a1)] [] := fun μ a1 h9 => hK (μ, a1) (by rw [eK26] at h9; exact h9)
      replace h : pX11_mixField_l26 Po E26_60 K26 μ a1 := by rw [eK26]; exact h
      unfold pX11_mixField_l26 at h
      refine jr_iload_n (q := 27) C 1 dX11_mixField_26 rfl rfl rfl ?_
      refine jr_bipush (q := 29) (v := (9 : Int32)) C dX11_mixField_27 (by decide) rfl ?_
      refine jr_aload_n (q := 30) C 0 dX11_mixField_29 rfl rfl rfl ?_
      refine jr_getI (q := 33) (ci := 11) (Cn := RX11) (T := TX11) (N := 42) (j := 2) C mf_26 rfl rfl (by decide) rfl rfl nX11_mixField_11 mX11_mixField_2 dX11_mixField_30 rfl rfl ?_
      refine jr_imul (q := 34) C dX11_mixField_33 rfl ?_
      refine jr_icmp_ge (q := 37) (tgt := 60) C dX11_mixField_34 (by decide) rfl (fun c18 => ?_) (fun c18 => ?_)
      · replace h := h.1 c18
        refine jr_sub [0] rfl ?_
        exact hE26_60 _ h
      · replace h := h.2 c18
        refine jr_aload_n (q := 38) C 0 dX11_mixField_37 rfl rfl rfl ?_
        refine jr_aload_n (q := 39) C 0 dX11_mixField_38 rfl rfl rfl ?_
        refine jr_iload_n (q := 40) C 1 dX11_mixField_39 rfl rfl rfl ?_
        refine jr_bipush (q := 42) (v := (9 : Int32)) C dX11_mixField_40 (by decide) rfl ?_
        refine jr_idiv (q := 43) C dX11_mixField_42 (by decide) rfl ?_
        refine jr_iload_n (q := 44) C 1 dX11_mixField_43 rfl rfl rfl ?_
        refine jr_bipush (q := 46) (v := (9 : Int32)) C dX11_mixField_44 (by decide) rfl ?_
        refine jr_irem (q := 47) C dX11_mixField_46 (by decide) rfl ?_
        refine jr_cvI (q := 50) (As := [.int (a1 / (9 : Int32)), .int (a1 - a1 / (9 : Int32) * (9 : Int32))]) (rest := [.ref (z + mm_ad 26 0)]) C (f := 26) (i := 0) (ci := 11) mf_26 rfl rfl rfl (kX11_nodeNow l (a1 / (9 : Int32)) (a1 - a1 / (9 : Int32) * (9 : Int32))) rfl gX11_mixField_X11_nodeNow rfl dsc_X11_nodeNow ⟨rfl, rfl⟩ ⟨by decide, by decide⟩ rfl rfl (Nat.le_of_ble_eq_true rfl) dX11_mixField_47 rfl h (fun r16 μ15 h => ?_)
        refine jr_i2l (q := 51) C dX11_mixField_50 rfl ?_
        refine jr_cvV (q := 54) (As := [.long r16.toInt64]) (rest := []) C (f := 26) (i := 0) (ci := 11) mf_26 rfl rfl rfl (kX11_mix l r16.toInt64) rfl gX11_mixField_X11_mix rfl dsc_X11_mix ⟨rfl, rfl⟩ ⟨by decide, by decide⟩ rfl rfl (Nat.le_of_ble_eq_true rfl) dX11_mixField_51 rfl h (fun μ17 h => ?_)
        refine jr_iinc (q := 57) (lv' := [(1, .int (a1 + (1 : Int32))), (0, .ref (z + mm_ad 26 0))]) C 1 dX11_mixField_54 rfl (by rfl) (by decide) rfl rfl ?_
        refine jr_goto (tgt := 26) C dX11_mixField_57 (by decide) ?_
        refine jr_sub [1, 0] rfl ?_
        exact hK26 _ _ h
    have x26_60 : ∀ (μ : mm_T), (pX11_mixPairs (fun μ1 => lp_ (fun (K9 : mm_T × Int32 → Prop) (t9 : mm_T × Int32) => pX11_mixField_l66 Po (fun μ => lp_ (fun (K9 : mm_T × Int32 → Prop) (t9 : mm_T × Int32) => pX11_mixField_l123 Po (fun μ => Po μ) (fun μ a1 => K9 (μ, a1)) t9.1 t9.2) (μ, (0 : Int32))) (fun μ a1 => K9 (μ, a1)) t9.1 t9.2) (μ1, (0 : Int32))) μ ) → jJ p l e ({ frames := 8, cells := 0, slots := 0, locals := 191 }) s m args below meth c D cy z (MQ below (va_Qv Po (mm_Po D cy z) (mm_A z)) args s 0 0 (mm_A z)) 3 μ 60 [(0, .ref (z + mm_ad 26 0))] [] := by
      intro μ h
      refine jr_aload_n (q := 61) C 0 dX11_mixField_60 rfl rfl rfl ?_
      refine jr_cvV (q := 64) (As := []) (rest := []) C (f := 26) (i := 0) (ci := 11) mf_26 rfl rfl rfl (kX11_mixPairs l) rfl gX11_mixField_X11_mixPairs rfl dsc_X11_mixPairs ⟨rfl, rfl⟩ ⟨by decide, by decide⟩ rfl rfl (Nat.le_of_ble_eq_true rfl) dX11_mixField_61 rfl h (fun μ1 h => ?_)
      refine jr_iconst (q := 65) (v := (0 : Int32)) C dX11_mixField_64 (by decide) rfl ?_
      refine jr_istore_n (q := 66) (lv' := [(1, .int (0 : Int32)), (0, .ref (z + mm_ad 26 0))]) C dX11_mixField_65 rfl (by decide) rfl rfl ?_
      have l66 : ∀ (E66_121 : mm_T → Prop) (hE66_121 : ∀ (μ : mm_T), E66_121 μ → jJ p l e ({ frames := 8, cells := 0, slots := 0, locals := 191 }) s m args below meth c D cy z (MQ below (va_Qv Po (mm_Po D cy z) (mm_A z)) args s 0 0 (mm_A z)) 3 μ 121 [(0, .ref (z + mm_ad 26 0))] []), ∀ t9 : mm_T × Int32, lp_ (fun (K9 : mm_T × Int32 → Prop) (t9 : mm_T × Int32) => pX11_mixField_l66 Po E66_121 (fun μ a1 => K9 (μ, a1)) t9.1 t9.2) t9 → jJ p l e ({ frames := 8, cells := 0, slots := 0, locals := 191 }) s m args below meth c D cy z (MQ below (va_Qv Po (mm_Po D cy z) (mm_A z)) args s 0 0 (mm_A z)) 3 t9.1 66 [(0, .ref (z + mm_ad 26 0)), (1, .int t9.2)] [] := by
        intro E66_121 hE66_121 t9 h
        refine lp_go (P := fun t9 : mm_T × Int32 => jJ p l e ({ frames := 8, cells := 0, slots := 0, locals := 191 }) s m args below meth c D cy z (MQ below (va_Qv Po (mm_Po D cy z) (mm_A z)) args s 0 0 (mm_A z)) 3 t9.1 66 [(0, .ref (z + mm_ad 26 0)), (1, .int t9.2)] []) (fun K9 t9 hK h => ?_) t9 h
        obtain ⟨μ, a1⟩ := t9
        obtain ⟨K66, eK66⟩ : ∃ K : mm_T → Int32 → Prop, K = (fun μ a1 => K9 (μ, a1)) := ⟨_, rfl⟩
        have hK66 : ∀ (μ : mm_T) (a1 : Int32), K66 μ a1 → jJ p l e ({ frames := 8, cells := 0, slots := 0, locals := 191 }) s m args below meth c D cy z (MQ below (va_Qv Po (mm_Po D cy z) (mm_A z)) args s 0 0 (mm_A z)) 3 μ 66 [(0, .ref (z + mm_ad 26 0)), (1, .int a1)] [] := fun μ a1 h9 => hK (μ, a1) (by rw [eK66] at h9; exact h9)
        replace h : pX11_mixField_l66 Po E66_121 K66 μ a1 := by rw [eK66]; exact h
        unfold pX11_mixField_l66 at h
        refine jr_iload_n (q := 67) C 1 dX11_mixField_66 rfl rfl rfl ?_
        refine jr_aload_n (q := 68) C 0 dX11_mixField_67 rfl rfl rfl ?_
        refine jr_getI (q := 71) (ci := 11) (Cn := RX11) (T := TX11) (N := 42) (j := 2) C mf_26 rfl rfl (by decide) rfl rfl nX11_mixField_11 mX11_mixField_2 dX11_mixField_68 rfl rfl ?_
        refine jr_icmp_ge (q := 74) (tgt := 121) C dX11_mixField_71 (by decide) rfl (fun c14 => ?_) (fun c14 => ?_)
        · replace h := h.1 c14
          refine jr_sub [0] rfl ?_
          exact hE66_121 _ h
        · replace h := h.2 c14
          refine jr_iconst (q := 75) (v := (0 : Int32)) C dX11_mixField_74 (by decide) rfl ?_
          refine jr_istore_n (q := 76) (lv' := [(2, .int (0 : Int32)), (0, .ref (z + mm_ad 26 0)), (1, .int a1)]) C dX11_mixField_75 rfl (by decide) rfl rfl ?_
          have l76 : ∀ (E76_115 : mm_T → Int32 → Prop) (hE76_115 : ∀ (μ : mm_T) (c1 : Int32), E76_115 μ c1 → jJ p l e ({ frames := 8, cells := 0, slots := 0, locals := 191 }) s m args below meth c D cy z (MQ below (va_Qv Po (mm_Po D cy z) (mm_A z)) args s 0 0 (mm_A z)) 3 μ 115 [(0, .ref (z + mm_ad 26 0)), (1, .int c1)] []), ∀ t9 : mm_T × Int32 × Int32, lp_ (fun (K9 : mm_T × Int32 × Int32 → Prop) (t9 : mm_T × Int32 × Int32) => pX11_mixField_l76 Po E76_115 (fun μ a1 a2 => K9 (μ, a1, a2)) t9.1 t9.2.1 t9.2.2) t9 → jJ p l e ({ frames := 8, cells := 0, slots := 0, locals := 191 }) s m args below meth c D cy z (MQ below (va_Qv Po (mm_Po D cy z) (mm_A z)) args s 0 0 (mm_A z)) 3 t9.1 76 [(0, .ref (z + mm_ad 26 0)), (1, .int t9.2.1), (2, .int t9.2.2)] [] := by
            intro E76_115 hE76_115 t9 h
            refine lp_go (P := fun t9 : mm_T × Int32 × Int32 => jJ p l e ({ frames := 8, cells := 0, slots := 0, locals := 191 }) s m args below meth c D cy z (MQ below (va_Qv Po (mm_Po D cy z) (mm_A z)) args s 0 0 (mm_A z)) 3 t9.1 76 [(0, .ref (z + mm_ad 26 0)), (1, .int t9.2.1), (2, .int t9.2.2)] []) (fun K9 t9 hK h => ?_) t9 h
            obtain ⟨μ, a1, a2⟩ := t9
            obtain ⟨K76, eK76⟩ : ∃ K : mm_T → Int32 → Int32 → Prop, K = (fun μ a1 a2 => K9 (μ, a1, a2)) := ⟨_, rfl⟩
            have hK76 : ∀ (μ : mm_T) (a1 : Int32) (a2 : Int32), K76 μ a1 a2 → jJ p l e ({ frames := 8, cells := 0, slots := 0, locals := 191 }) s m args below meth c D cy z (MQ below (va_Qv Po (mm_Po D cy z) (mm_A z)) args s 0 0 (mm_A z)) 3 μ 76 [(0, .ref (z + mm_ad 26 0)), (1, .int a1), (2, .int a2)] [] := fun μ a1 a2 h9 => hK (μ, a1, a2) (by rw [eK76] at h9; exact h9)
            replace h : pX11_mixField_l76 Po E76_115 K76 μ a1 a2 := by rw [eK76]; exact h
            unfold pX11_mixField_l76 at h
            refine jr_iload_n (q := 77) C 2 dX11_mixField_76 rfl rfl rfl ?_
            refine jr_iconst (q := 78) (v := (5 : Int32)) C dX11_mixField_77 (by decide) rfl ?_
            refine jr_icmp_ge (q := 81) (tgt := 115) C dX11_mixField_78 (by decide) rfl (fun c13 => ?_) (fun c13 => ?_)
            · replace h := h.1 c13
              refine jr_sub [0, 1] rfl ?_
              exact hE76_115 _ _ h
            · replace h := h.2 c13
              refine jr_aload_n (q := 82) C 0 dX11_mixField_81 rfl rfl rfl ?_
              refine jr_getR (q := 85) (ci := 11) (Cn := RX11) (T := TX11) (N := 42) (j := 3) C mf_26 rfl rfl (by decide) rfl 28 0 rfl rfl rfl nX11_mixField_11 mX11_mixField_3 dX11_mixField_82 rfl rfl ?_
              refine jr_iload_n (q := 86) C 1 dX11_mixField_85 rfl rfl rfl ?_
              obtain ⟨g5, h⟩ := h
              refine jr_zald (q := 87) C mf_28 rfl g5 dX11_mixField_86 rfl ?_
              refine jr_if_eq (q := 90) (tgt := 115) C dX11_mixField_87 (by decide) rfl (fun c12 => ?_) (fun c12 => ?_)
              · replace h := h.1 c12
                refine jr_sub [0, 1] rfl ?_
                exact hE76_115 _ _ h
              · replace h := h.2 c12
                refine jr_aload_n (q := 91) C 0 dX11_mixField_90 rfl rfl rfl ?_
                refine jr_iload_n (q := 92) C 1 dX11_mixField_91 rfl rfl rfl ?_
                refine jr_cvI (q := 95) (As := [.int a1]) (rest := []) C (f := 26) (i := 0) (ci := 11) mf_26 rfl rfl rfl (kX11_isPlaced l a1) rfl gX11_mixField_X11_isPlaced rfl dsc_X11_isPlaced ⟨rfl, rfl⟩ ⟨by decide, by decide⟩ rfl rfl (Nat.le_of_ble_eq_true rfl) dX11_mixField_92 rfl h (fun r7 μ6 h => ?_)
                refine jr_if_eq (q := 98) (tgt := 115) C dX11_mixField_95 (by decide) rfl (fun c11 => ?_) (fun c11 => ?_)
                · replace h := h.1 c11
                  refine jr_sub [0, 1] rfl ?_
                  exact hE76_115 _ _ h
                · replace h := h.2 c11
                  refine jr_aload_n (q := 99) C 0 dX11_mixField_98 rfl rfl rfl ?_
                  refine jr_aload_n (q := 100) C 0 dX11_mixField_99 rfl rfl rfl ?_
                  refine jr_iload_n (q := 101) C 1 dX11_mixField_100 rfl rfl rfl ?_
                  refine jr_iload_n (q := 102) C 2 dX11_mixField_101 rfl rfl rfl ?_
                  refine jr_cvI (q := 105) (As := [.int a1, .int a2]) (rest := [.ref (z + mm_ad 26 0)]) C (f := 26) (i := 0) (ci := 11) mf_26 rfl rfl rfl (kX11_placedNow l a1 a2) rfl gX11_mixField_X11_placedNow rfl dsc_X11_placedNow ⟨rfl, rfl⟩ ⟨by decide, by decide⟩ rfl rfl (Nat.le_of_ble_eq_true rfl) dX11_mixField_102 rfl h (fun r9 μ8 h => ?_)
                  refine jr_i2l (q := 106) C dX11_mixField_105 rfl ?_
                  refine jr_cvV (q := 109) (As := [.long r9.toInt64]) (rest := []) C (f := 26) (i := 0) (ci := 11) mf_26 rfl rfl rfl (kX11_mix l r9.toInt64) rfl gX11_mixField_X11_mix rfl dsc_X11_mix ⟨rfl, rfl⟩ ⟨by decide, by decide⟩ rfl rfl (Nat.le_of_ble_eq_true rfl) dX11_mixField_106 rfl h (fun μ10 h => ?_)
                  refine jr_iinc (q := 112) (lv' := [(2, .int (a2 + (1 : Int32))), (0, .ref (z + mm_ad 26 0)), (1, .int a1)]) C 2 dX11_mixField_109 rfl (by rfl) (by decide) rfl rfl ?_
                  refine jr_goto (tgt := 76) C dX11_mixField_112 (by decide) ?_
                  refine jr_sub [1, 2, 0] rfl ?_
                  exact hK76 _ _ _ h
          have x76_115 : ∀ (μ : mm_T) (c1 : Int32), (K66 μ (c1 + (1 : Int32))) → jJ p l e ({ frames := 8, cells := 0, slots := 0, locals := 191 }) s m args below meth c D cy z (MQ below (va_Qv Po (mm_Po D cy z) (mm_A z)) args s 0 0 (mm_A z)) 3 μ 115 [(0, .ref (z + mm_ad 26 0)), (1, .int c1)] [] := by
            intro μ c1 h
            refine jr_iinc (q := 118) (lv' := [(1, .int (c1 + (1 : Int32))), (0, .ref (z + mm_ad 26 0))]) C 1 dX11_mixField_115 rfl (by rfl) (by decide) rfl rfl ?_
            refine jr_goto (tgt := 66) C dX11_mixField_118 (by decide) ?_
            refine jr_sub [1, 0] rfl ?_
            exact hK66 _ _ h
          refine jr_sub [1, 2, 0] rfl ?_
          exact l76 _ x76_115 _ h
      have x66_121 : ∀ (μ : mm_T), (lp_ (fun (K9 : mm_T × Int32 → Prop) (t9 : mm_T × Int32) => pX11_mixField_l123 Po (fun μ => Po μ) (fun μ a1 => K9 (μ, a1)) t9.1 t9.2) (μ, (0 : Int32))) → jJ p l e ({ frames := 8, cells := 0, slots := 0, locals := 191 }) s m args below meth c D cy z (MQ below (va_Qv Po (mm_Po D cy z) (mm_A z)) args s 0 0 (mm_A z)) 3 μ 121 [(0, .ref (z + mm_ad 26 0))] [] := by
        intro μ h
        refine jr_iconst (q := 122) (v := (0 : Int32)) C dX11_mixField_121 (by decide) rfl ?_
        refine jr_istore_n (q := 123) (lv' := [(1, .int (0 : Int32)), (0, .ref (z + mm_ad 26 0))]) C dX11_mixField_122 rfl (by decide) rfl rfl ?_
        have l123 : ∀ (E123_146 : mm_T → Prop) (hE123_146 : ∀ (μ : mm_T), E123_146 μ → jJ p l e ({ frames := 8, cells := 0, slots := 0, locals := 191 }) s m args below meth c D cy z (MQ below (va_Qv Po (mm_Po D cy z) (mm_A z)) args s 0 0 (mm_A z)) 3 μ 146 [] []), ∀ t9 : mm_T × Int32, lp_ (fun (K9 : mm_T × Int32 → Prop) (t9 : mm_T × Int32) => pX11_mixField_l123 Po E123_146 (fun μ a1 => K9 (μ, a1)) t9.1 t9.2) t9 → jJ p l e ({ frames := 8, cells := 0, slots := 0, locals := 191 }) s m args below meth c D cy z (MQ below (va_Qv Po (mm_Po D cy z) (mm_A z)) args s 0 0 (mm_A z)) 3 t9.1 123 [(0, .ref (z + mm_ad 26 0)), (1, .int t9.2)] [] := by
          intro E123_146 hE123_146 t9 h
          refine lp_go (P := fun t9 : mm_T × Int32 => jJ p l e ({ frames := 8, cells := 0, slots := 0, locals := 191 }) s m args below meth c D cy z (MQ below (va_Qv Po (mm_Po D cy z) (mm_A z)) args s 0 0 (mm_A z)) 3 t9.1 123 [(0, .ref (z + mm_ad 26 0)), (1, .int t9.2)] []) (fun K9 t9 hK h => ?_) t9 h
          obtain ⟨μ, a1⟩ := t9
          obtain ⟨K123, eK123⟩ : ∃ K : mm_T → Int32 → Prop, K = (fun μ a1 => K9 (μ, a1)) := ⟨_, rfl⟩
          have hK123 : ∀ (μ : mm_T) (a1 : Int32), K123 μ a1 → jJ p l e ({ frames := 8, cells := 0, slots := 0, locals := 191 }) s m args below meth c D cy z (MQ below (va_Qv Po (mm_Po D cy z) (mm_A z)) args s 0 0 (mm_A z)) 3 μ 123 [(0, .ref (z + mm_ad 26 0)), (1, .int a1)] [] := fun μ a1 h9 => hK (μ, a1) (by rw [eK123] at h9; exact h9)
          replace h : pX11_mixField_l123 Po E123_146 K123 μ a1 := by rw [eK123]; exact h
          unfold pX11_mixField_l123 at h
          refine jr_iload_n (q := 124) C 1 dX11_mixField_123 rfl rfl rfl ?_
          refine jr_bipush (q := 126) (v := (16 : Int32)) C dX11_mixField_124 (by decide) rfl ?_
          refine jr_icmp_ge (q := 129) (tgt := 146) C dX11_mixField_126 (by decide) rfl (fun c4 => ?_) (fun c4 => ?_)
          · replace h := h.1 c4
            refine jr_sub [] rfl ?_
            exact hE123_146 _ h
          · replace h := h.2 c4
            refine jr_aload_n (q := 130) C 0 dX11_mixField_129 rfl rfl rfl ?_
            refine jr_aload_n (q := 131) C 0 dX11_mixField_130 rfl rfl rfl ?_
            refine jr_getR (q := 134) (ci := 11) (Cn := RX11) (T := TX11) (N := 42) (j := 16) C mf_26 rfl rfl (by decide) rfl 41 0 rfl rfl rfl nX11_mixField_11 mX11_mixField_1 dX11_mixField_131 rfl rfl ?_
            refine jr_iload_n (q := 135) C 1 dX11_mixField_134 rfl rfl rfl ?_
            obtain ⟨g2, h⟩ := h
            refine jr_iald (q := 136) C mf_41 rfl g2 dX11_mixField_135 rfl ?_
            refine jr_i2l (q := 137) C dX11_mixField_136 rfl ?_
            refine jr_cvV (q := 140) (As := [.long ((μ.1 41 0 a1.toNatClampNeg).toInt64)]) (rest := []) C (f := 26) (i := 0) (ci := 11) mf_26 rfl rfl rfl (kX11_mix l ((μ.1 41 0 a1.toNatClampNeg).toInt64)) rfl gX11_mixField_X11_mix rfl dsc_X11_mix ⟨rfl, rfl⟩ ⟨by decide, by decide⟩ rfl rfl (Nat.le_of_ble_eq_true rfl) dX11_mixField_137 rfl h (fun μ3 h => ?_)
            refine jr_iinc (q := 143) (lv' := [(1, .int (a1 + (1 : Int32))), (0, .ref (z + mm_ad 26 0))]) C 1 dX11_mixField_140 rfl (by rfl) (by decide) rfl rfl ?_
            refine jr_goto (tgt := 123) C dX11_mixField_143 (by decide) ?_
            refine jr_sub [1, 0] rfl ?_
            exact hK123 _ _ h
        have x123_146 : ∀ (μ : mm_T), (Po μ) → jJ p l e ({ frames := 8, cells := 0, slots := 0, locals := 191 }) s m args below meth c D cy z (MQ below (va_Qv Po (mm_Po D cy z) (mm_A z)) args s 0 0 (mm_A z)) 3 μ 146 [] [] := by
          intro μ h
          exact jr_vret C hr hk dX11_mixField_146 h
        refine jr_sub [1, 0] rfl ?_
        exact l123 _ x123_146 _ h
      refine jr_sub [1, 0] rfl ?_
      exact l66 _ x66_121 _ h
    refine jr_sub [1, 0] rfl ?_
    exact l26 _ x26_60 _ h
  refine jr_sub [1, 0] rfl ?_
  exact l2 _ x2_24 _ h
theorem mX11_digest_0 : Cond.constantLong RX11 318 (1601) ∈ wsX11_digest := List.mem_of_getElem? (i := 1) (by decide +kernel)
theorem nX11_digest_11 : ∀ w ∈ wsX110, w ∈ wsX11_digest := fun _ h => List.mem_cons_of_mem _ (List.mem_append_right _ h)
theorem mX11_digest_2 : Cond.fieldLink RX11 307 RX11 (TX11 41).2.1 (TX11 41).2.2.1 ∈ wsX11_digest := List.mem_of_getElem? (i := 2) (by decide +kernel)
theorem mX11_digest_3 : Cond.fieldLink RX11 82 RX11 (TX11 0).2.1 (TX11 0).2.2.1 ∈ wsX11_digest := List.mem_of_getElem? (i := 3) (by decide +kernel)
theorem mX11_digest_4 : Cond.fieldLink RX11 7 RX11 (TX11 1).2.1 (TX11 1).2.2.1 ∈ wsX11_digest := List.mem_of_getElem? (i := 4) (by decide +kernel)
theorem dsc_X11_digest : yX11_digest.cls ≠ "java/lang/invoke/MethodHandle" ∧ yX11_digest.cls ≠ "java/lang/invoke/VarHandle" ∧ (parseMethodDescriptor yX11_digest.desc).map (fun d => d.parameters.length) = some 0 := by decide +kernel
def pX11_digest_l47 (Po : Int64 → mm_T → Prop) (E47_68 : mm_T → Prop) (K47 : mm_T → Int32 → Prop) (μ : mm_T) (a1 : Int32) : Prop := ((5 : Int32) ≤ a1 → E47_68 μ) ∧ (¬ ((5 : Int32) ≤ a1) → pX11_howMany (fun r5 μ4 => pX11_mix (fun μ6 => K47 μ6 (a1 + (1 : Int32))) μ4 r5.toInt64) μ a1)
def pX11_digest_l20 (Po : Int64 → mm_T → Prop) (E20_45 : mm_T → Prop) (K20 : mm_T → Int32 → Prop) (μ : mm_T) (a1 : Int32) : Prop := ((μ.1 26 0 0) ≤ a1 → E20_45 μ) ∧ (¬ ((μ.1 26 0 0) ≤ a1) → (vp_in a1 110) ∧ (pX11_mix (fun μ9 => K20 μ9 (a1 + (1 : Int32))) μ ((μ.1 27 0 a1.toNatClampNeg).toInt64)))
def pX11_digest_b18 (Po : Int64 → mm_T → Prop) (μ : mm_T) : Prop := lp_ (fun (K9 : mm_T × Int32 → Prop) (t9 : mm_T × Int32) => pX11_digest_l20 Po (fun μ => lp_ (fun (K9 : mm_T × Int32 → Prop) (t9 : mm_T × Int32) => pX11_digest_l47 Po (fun μ => Po (μ.2 26 0 41) μ) (fun μ a1 => K9 (μ, a1)) t9.1 t9.2) (μ, (0 : Int32))) (fun μ a1 => K9 (μ, a1)) t9.1 t9.2) (μ, (0 : Int32))
def pX11_digest (Po : Int64 → mm_T → Prop) (μ : mm_T) : Prop := ∀ μ1 : mm_T, μ1 = mm_L μ 26 0 41 (1601 : Int64) → (pX11_isField (fun r3 μ2 => (r3 = 0 → pX11_digest_b18 Po μ2) ∧ (¬ (r3 = 0) → pX11_mixField (fun μ11 => pX11_digest_b18 Po μ11) μ2 )) μ1 )
set_option maxHeartbeats 4000000 in
set_option maxRecDepth 100000 in
theorem kX11_digest (l : Launch) : mm_CL l yX11_digest wsX11_digest ({ frames := 9, cells := 0, slots := 0, locals := 213 }) (fun z => [.ref (z + mm_ad 26 0)]) (fun μ Po => pX11_digest Po μ) := by
  refine je_L (cc := cX11_digest) (nL := 2) (own := RX11) (plainFor_of_name (by decide)) rfl rfl (fun _ => Nat.le_of_ble_eq_true rfl) ?_
  intro p e s m args below meth c D cy z μ Po C hr hk h
  change jJ p l e ({ frames := 9, cells := 0, slots := 0, locals := 213 }) s m args below meth c D cy z (MQ below (va_Ql Po (mm_Po D cy z) (mm_A z)) args s 0 0 (mm_A z)) 2 μ 0 [(0, .ref (z + mm_ad 26 0))] []
  replace h : pX11_digest Po μ := h
  unfold pX11_digest at h
  refine jr_aload_n (q := 1) C 0 dX11_digest_0 rfl rfl rfl ?_
  refine jr_ldc2 (q := 4) (v := (1601 : Int64)) C dX11_digest_1 mX11_digest_0 rfl ?_
  refine jr_putL (q := 7) (ci := 11) (Cn := RX11) (T := TX11) (N := 42) (j := 41) C mf_26 rfl rfl (by decide) rfl rfl tyX11 tyX11_ok nmX11 rfl (by decide +kernel) nX11_digest_11 mX11_digest_2 dX11_digest_4 rfl rfl ?_
  refine jn_mem (fun μ1 eμ1 => ?_)
  replace h := h μ1 eμ1
  refine jr_aload_n (q := 8) C 0 dX11_digest_7 rfl rfl rfl ?_
  refine jr_cvI (q := 11) (As := []) (rest := []) C (f := 26) (i := 0) (ci := 11) mf_26 rfl rfl rfl (kX11_isField l) rfl gX11_digest_X11_isField rfl dsc_X11_isField ⟨rfl, rfl⟩ ⟨by decide, by decide⟩ rfl rfl (Nat.le_of_ble_eq_true rfl) dX11_digest_8 rfl h (fun r3 μ2 h => ?_)
  have b18 : ∀ (μ : mm_T), pX11_digest_b18 Po μ → jJ p l e ({ frames := 9, cells := 0, slots := 0, locals := 213 }) s m args below meth c D cy z (MQ below (va_Ql Po (mm_Po D cy z) (mm_A z)) args s 0 0 (mm_A z)) 2 μ 18 [(0, .ref (z + mm_ad 26 0))] [] := by
    intro μ h
    unfold pX11_digest_b18 at h
    refine jr_iconst (q := 19) (v := (0 : Int32)) C dX11_digest_18 (by decide) rfl ?_
    refine jr_istore_n (q := 20) (lv' := [(1, .int (0 : Int32)), (0, .ref (z + mm_ad 26 0))]) C dX11_digest_19 rfl (by decide) rfl rfl ?_
    have l20 : ∀ (E20_45 : mm_T → Prop) (hE20_45 : ∀ (μ : mm_T), E20_45 μ → jJ p l e ({ frames := 9, cells := 0, slots := 0, locals := 213 }) s m args below meth c D cy z (MQ below (va_Ql Po (mm_Po D cy z) (mm_A z)) args s 0 0 (mm_A z)) 2 μ 45 [(0, .ref (z + mm_ad 26 0))] []), ∀ t9 : mm_T × Int32, lp_ (fun (K9 : mm_T × Int32 → Prop) (t9 : mm_T × Int32) => pX11_digest_l20 Po E20_45 (fun μ a1 => K9 (μ, a1)) t9.1 t9.2) t9 → jJ p l e ({ frames := 9, cells := 0, slots := 0, locals := 213 }) s m args below meth c D cy z (MQ below (va_Ql Po (mm_Po D cy z) (mm_A z)) args s 0 0 (mm_A z)) 2 t9.1 20 [(0, .ref (z + mm_ad 26 0)), (1, .int t9.2)] [] := by
      intro E20_45 hE20_45 t9 h
      refine lp_go (P := fun t9 : mm_T × Int32 => jJ p l e ({ frames := 9, cells := 0, slots := 0, locals := 213 }) s m args below meth c D cy z (MQ below (va_Ql Po (mm_Po D cy z) (mm_A z)) args s 0 0 (mm_A z)) 2 t9.1 20 [(0, .ref (z + mm_ad 26 0)), (1, .int t9.2)] []) (fun K9 t9 hK h => ?_) t9 h
      obtain ⟨μ, a1⟩ := t9
      obtain ⟨K20, eK20⟩ : ∃ K : mm_T → Int32 → Prop, K = (fun μ a1 => K9 (μ, a1)) := ⟨_, rfl⟩
      have hK20 : ∀ (μ : mm_T) (a1 : Int32), K20 μ a1 → jJ p l e ({ frames := 9, cells := 0, slots := 0, locals := 213 }) s m args below meth c D cy z (MQ below (va_Ql Po (mm_Po D cy z) (mm_A z)) args s 0 0 (mm_A z)) 2 μ 20 [(0, .ref (z + mm_ad 26 0)), (1, .int a1)] [] := fun μ a1 h9 => hK (μ, a1) (by rw [eK20] at h9; exact h9)
      replace h : pX11_digest_l20 Po E20_45 K20 μ a1 := by rw [eK20]; exact h
      unfold pX11_digest_l20 at h
      refine jr_iload_n (q := 21) C 1 dX11_digest_20 rfl rfl rfl ?_
      refine jr_aload_n (q := 22) C 0 dX11_digest_21 rfl rfl rfl ?_
      refine jr_getI (q := 25) (ci := 11) (Cn := RX11) (T := TX11) (N := 42) (j := 0) C mf_26 rfl rfl (by decide) rfl rfl nX11_digest_11 mX11_digest_3 dX11_digest_22 rfl rfl ?_
      refine jr_icmp_ge (q := 28) (tgt := 45) C dX11_digest_25 (by decide) rfl (fun c10 => ?_) (fun c10 => ?_)
      · replace h := h.1 c10
        refine jr_sub [0] rfl ?_
        exact hE20_45 _ h
      · replace h := h.2 c10
        refine jr_aload_n (q := 29) C 0 dX11_digest_28 rfl rfl rfl ?_
        refine jr_aload_n (q := 30) C 0 dX11_digest_29 rfl rfl rfl ?_
        refine jr_getR (q := 33) (ci := 11) (Cn := RX11) (T := TX11) (N := 42) (j := 1) C mf_26 rfl rfl (by decide) rfl 27 0 rfl rfl rfl nX11_digest_11 mX11_digest_4 dX11_digest_30 rfl rfl ?_
        refine jr_iload_n (q := 34) C 1 dX11_digest_33 rfl rfl rfl ?_
        obtain ⟨g8, h⟩ := h
        refine jr_iald (q := 35) C mf_27 rfl g8 dX11_digest_34 rfl ?_
        refine jr_i2l (q := 36) C dX11_digest_35 rfl ?_
        refine jr_cvV (q := 39) (As := [.long ((μ.1 27 0 a1.toNatClampNeg).toInt64)]) (rest := []) C (f := 26) (i := 0) (ci := 11) mf_26 rfl rfl rfl (kX11_mix l ((μ.1 27 0 a1.toNatClampNeg).toInt64)) rfl gX11_digest_X11_mix rfl dsc_X11_mix ⟨rfl, rfl⟩ ⟨by decide, by decide⟩ rfl rfl (Nat.le_of_ble_eq_true rfl) dX11_digest_36 rfl h (fun μ9 h => ?_)
        refine jr_iinc (q := 42) (lv' := [(1, .int (a1 + (1 : Int32))), (0, .ref (z + mm_ad 26 0))]) C 1 dX11_digest_39 rfl (by rfl) (by decide) rfl rfl ?_
        refine jr_goto (tgt := 20) C dX11_digest_42 (by decide) ?_
        refine jr_sub [1, 0] rfl ?_
        exact hK20 _ _ h
    have x20_45 : ∀ (μ : mm_T), (lp_ (fun (K9 : mm_T × Int32 → Prop) (t9 : mm_T × Int32) => pX11_digest_l47 Po (fun μ => Po (μ.2 26 0 41) μ) (fun μ a1 => K9 (μ, a1)) t9.1 t9.2) (μ, (0 : Int32))) → jJ p l e ({ frames := 9, cells := 0, slots := 0, locals := 213 }) s m args below meth c D cy z (MQ below (va_Ql Po (mm_Po D cy z) (mm_A z)) args s 0 0 (mm_A z)) 2 μ 45 [(0, .ref (z + mm_ad 26 0))] [] := by
      intro μ h
      refine jr_iconst (q := 46) (v := (0 : Int32)) C dX11_digest_45 (by decide) rfl ?_
      refine jr_istore_n (q := 47) (lv' := [(1, .int (0 : Int32)), (0, .ref (z + mm_ad 26 0))]) C dX11_digest_46 rfl (by decide) rfl rfl ?_
      have l47 : ∀ (E47_68 : mm_T → Prop) (hE47_68 : ∀ (μ : mm_T), E47_68 μ → jJ p l e ({ frames := 9, cells := 0, slots := 0, locals := 213 }) s m args below meth c D cy z (MQ below (va_Ql Po (mm_Po D cy z) (mm_A z)) args s 0 0 (mm_A z)) 2 μ 68 [(0, .ref (z + mm_ad 26 0))] []), ∀ t9 : mm_T × Int32, lp_ (fun (K9 : mm_T × Int32 → Prop) (t9 : mm_T × Int32) => pX11_digest_l47 Po E47_68 (fun μ a1 => K9 (μ, a1)) t9.1 t9.2) t9 → jJ p l e ({ frames := 9, cells := 0, slots := 0, locals := 213 }) s m args below meth c D cy z (MQ below (va_Ql Po (mm_Po D cy z) (mm_A z)) args s 0 0 (mm_A z)) 2 t9.1 47 [(0, .ref (z + mm_ad 26 0)), (1, .int t9.2)] [] := by
        intro E47_68 hE47_68 t9 h
        refine lp_go (P := fun t9 : mm_T × Int32 => jJ p l e ({ frames := 9, cells := 0, slots := 0, locals := 213 }) s m args below meth c D cy z (MQ below (va_Ql Po (mm_Po D cy z) (mm_A z)) args s 0 0 (mm_A z)) 2 t9.1 47 [(0, .ref (z + mm_ad 26 0)), (1, .int t9.2)] []) (fun K9 t9 hK h => ?_) t9 h
        obtain ⟨μ, a1⟩ := t9
        obtain ⟨K47, eK47⟩ : ∃ K : mm_T → Int32 → Prop, K = (fun μ a1 => K9 (μ, a1)) := ⟨_, rfl⟩
        have hK47 : ∀ (μ : mm_T) (a1 : Int32), K47 μ a1 → jJ p l e ({ frames := 9, cells := 0, slots := 0, locals := 213 }) s m args below meth c D cy z (MQ below (va_Ql Po (mm_Po D cy z) (mm_A z)) args s 0 0 (mm_A z)) 2 μ 47 [(0, .ref (z + mm_ad 26 0)), (1, .int a1)] [] := fun μ a1 h9 => hK (μ, a1) (by rw [eK47] at h9; exact h9)
        replace h : pX11_digest_l47 Po E47_68 K47 μ a1 := by rw [eK47]; exact h
        unfold pX11_digest_l47 at h
        refine jr_iload_n (q := 48) C 1 dX11_digest_47 rfl rfl rfl ?_
        refine jr_iconst (q := 49) (v := (5 : Int32)) C dX11_digest_48 (by decide) rfl ?_
        refine jr_icmp_ge (q := 52) (tgt := 68) C dX11_digest_49 (by decide) rfl (fun c7 => ?_) (fun c7 => ?_)
        · replace h := h.1 c7
          refine jr_sub [0] rfl ?_
          exact hE47_68 _ h
        · replace h := h.2 c7
          refine jr_aload_n (q := 53) C 0 dX11_digest_52 rfl rfl rfl ?_
          refine jr_aload_n (q := 54) C 0 dX11_digest_53 rfl rfl rfl ?_
          refine jr_iload_n (q := 55) C 1 dX11_digest_54 rfl rfl rfl ?_
          refine jr_cvI (q := 58) (As := [.int a1]) (rest := [.ref (z + mm_ad 26 0)]) C (f := 26) (i := 0) (ci := 11) mf_26 rfl rfl rfl (kX11_howMany l a1) rfl gX11_digest_X11_howMany rfl dsc_X11_howMany ⟨rfl, rfl⟩ ⟨by decide, by decide⟩ rfl rfl (Nat.le_of_ble_eq_true rfl) dX11_digest_55 rfl h (fun r5 μ4 h => ?_)
          refine jr_i2l (q := 59) C dX11_digest_58 rfl ?_
          refine jr_cvV (q := 62) (As := [.long r5.toInt64]) (rest := []) C (f := 26) (i := 0) (ci := 11) mf_26 rfl rfl rfl (kX11_mix l r5.toInt64) rfl gX11_digest_X11_mix rfl dsc_X11_mix ⟨rfl, rfl⟩ ⟨by decide, by decide⟩ rfl rfl (Nat.le_of_ble_eq_true rfl) dX11_digest_59 rfl h (fun μ6 h => ?_)
          refine jr_iinc (q := 65) (lv' := [(1, .int (a1 + (1 : Int32))), (0, .ref (z + mm_ad 26 0))]) C 1 dX11_digest_62 rfl (by rfl) (by decide) rfl rfl ?_
          refine jr_goto (tgt := 47) C dX11_digest_65 (by decide) ?_
          refine jr_sub [1, 0] rfl ?_
          exact hK47 _ _ h
      have x47_68 : ∀ (μ : mm_T), (Po (μ.2 26 0 41) μ) → jJ p l e ({ frames := 9, cells := 0, slots := 0, locals := 213 }) s m args below meth c D cy z (MQ below (va_Ql Po (mm_Po D cy z) (mm_A z)) args s 0 0 (mm_A z)) 2 μ 68 [(0, .ref (z + mm_ad 26 0))] [] := by
        intro μ h
        refine jr_aload_n (q := 69) C 0 dX11_digest_68 rfl rfl rfl ?_
        refine jr_getL (q := 72) (ci := 11) (Cn := RX11) (T := TX11) (N := 42) (j := 41) C mf_26 rfl rfl (by decide) rfl rfl nX11_digest_11 mX11_digest_2 dX11_digest_69 rfl rfl ?_
        exact jr_lret C hr hk dX11_digest_72 h
      refine jr_sub [1, 0] rfl ?_
      exact l47 _ x47_68 _ h
    refine jr_sub [1, 0] rfl ?_
    exact l20 _ x20_45 _ h
  refine jr_if_eq (q := 14) (tgt := 18) C dX11_digest_11 (by decide) rfl (fun c12 => ?_) (fun c12 => ?_)
  · replace h := h.1 c12
    refine jr_sub [0] rfl ?_
    exact b18 _ h
  · replace h := h.2 c12
    refine jr_aload_n (q := 15) C 0 dX11_digest_14 rfl rfl rfl ?_
    refine jr_cvV (q := 18) (As := []) (rest := []) C (f := 26) (i := 0) (ci := 11) mf_26 rfl rfl rfl (kX11_mixField l) rfl gX11_digest_X11_mixField rfl dsc_X11_mixField ⟨rfl, rfl⟩ ⟨by decide, by decide⟩ rfl rfl (Nat.le_of_ble_eq_true rfl) dX11_digest_15 rfl h (fun μ11 h => ?_)
    refine jr_sub [0] rfl ?_
    exact b18 _ h
