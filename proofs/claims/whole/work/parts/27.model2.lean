theorem nX11_block_11 : ∀ w ∈ wsX110, w ∈ wsX11_block := fun _ h => List.mem_cons_of_mem _ (List.mem_append_right _ h)
theorem mX11_block_1 : Cond.fieldLink RX11 38 RX11 (TX11 11).2.1 (TX11 11).2.2.1 ∈ wsX11_block := List.mem_of_getElem? (i := 2) (by decide +kernel)
theorem mX11_block_2 : Cond.constant RX11 178 (-1000001) ∈ wsX11_block := List.mem_of_getElem? (i := 1) (by decide +kernel)
theorem dsc_X11_block : yX11_block.cls ≠ "java/lang/invoke/MethodHandle" ∧ yX11_block.cls ≠ "java/lang/invoke/VarHandle" ∧ (parseMethodDescriptor yX11_block.desc).map (fun d => d.parameters.length) = some 2 := by decide +kernel
def pX11_block (Po : Int32 → mm_T → Prop) (μ : mm_T) (p1 : Int32) (p2 : Int32) : Prop := pX11_isPair (fun r2 μ1 => (¬ r2 = 0 → pX11_pairOf (fun r4 μ3 => (vp_in r4 49) ∧ (∀ x6 : Int32, x6 = μ3.1 36 0 r4.toNatClampNeg → (pX11_pairOf (fun r8 μ7 => (vp_in r8 49) ∧ (∀ μ10 : mm_T, μ10 = mm_I μ7 36 0 r8.toNatClampNeg (0 : Int32) → (Po x6 μ10))) μ3 p1 p2))) μ1 p1 p2) ∧ (r2 = 0 → Po (-1000001 : Int32) μ1)) μ p1 p2
set_option maxHeartbeats 4000000 in
set_option maxRecDepth 100000 in
theorem kX11_block (l : Launch) (p1 : Int32) (p2 : Int32) : mm_CI l yX11_block wsX11_block ({ frames := 3, cells := 0, slots := 0, locals := 65 }) (fun z => [.ref (z + mm_ad 26 0), .int p1, .int p2]) (fun μ Po => pX11_block Po μ p1 p2) := by
  refine je_I (cc := cX11_block) (nL := 4) (own := RX11) (plainFor_of_name (by decide)) rfl rfl (fun _ => Nat.le_of_ble_eq_true rfl) ?_
  intro p e s m args below meth c D cy z μ Po C hr hk h
  change jJ p l e ({ frames := 3, cells := 0, slots := 0, locals := 65 }) s m args below meth c D cy z (MQ below (va_Qi Po (mm_Po D cy z) (mm_A z)) args s 0 0 (mm_A z)) 4 μ 0 [(0, .ref (z + mm_ad 26 0)), (1, .int p1), (2, .int p2)] []
  replace h : pX11_block Po μ p1 p2 := h
  unfold pX11_block at h
  refine jr_aload_n (q := 1) C 0 dX11_block_0 rfl rfl rfl ?_
  refine jr_iload_n (q := 2) C 1 dX11_block_1 rfl rfl rfl ?_
  refine jr_iload_n (q := 3) C 2 dX11_block_2 rfl rfl rfl ?_
  refine jr_cvI (q := 6) (As := [.int p1, .int p2]) (rest := []) C (f := 26) (i := 0) (ci := 11) mf_26 rfl rfl rfl (kX11_isPair l p1 p2) rfl gX11_block_X11_isPair rfl dsc_X11_isPair ⟨rfl, rfl⟩ ⟨by decide, by decide⟩ rfl rfl (Nat.le_of_ble_eq_true rfl) dX11_block_3 rfl h (fun r2 μ1 h => ?_)
  refine jr_if_ne (q := 9) (tgt := 12) C dX11_block_6 (by decide) rfl (fun c11 => ?_) (fun c11 => ?_)
  · replace h := h.1 c11
    refine jr_aload_n (q := 13) C 0 dX11_block_12 rfl rfl rfl ?_
    refine jr_getR (q := 16) (ci := 11) (Cn := RX11) (T := TX11) (N := 42) (j := 11) C mf_26 rfl rfl (by decide) rfl 36 0 rfl rfl rfl nX11_block_11 mX11_block_1 dX11_block_13 rfl rfl ?_
    refine jr_iload_n (q := 17) C 1 dX11_block_16 rfl rfl rfl ?_
    refine jr_iload_n (q := 18) C 2 dX11_block_17 rfl rfl rfl ?_
    refine jr_csI (q := 21) (As := [.int p1, .int p2]) (rest := [.ref (z + mm_ad 36 0)]) C  (kX11_pairOf l p1 p2) rfl gX11_block_X11_pairOf rfl dsc_X11_pairOf ⟨rfl, rfl⟩ ⟨by decide, by decide⟩ rfl rfl (Nat.le_of_ble_eq_true rfl) dX11_block_18 rfl h (fun r4 μ3 h => ?_)
    obtain ⟨g5, h⟩ := h
    refine jr_iald (q := 22) C mf_36 rfl g5 dX11_block_21 rfl ?_
    refine jn_int (fun x6 ex6 => ?_)
    replace h := h x6 ex6
    refine jr_istore_n (q := 23) (lv' := [(3, .int x6), (0, .ref (z + mm_ad 26 0)), (1, .int p1), (2, .int p2)]) C dX11_block_22 rfl (by decide) rfl rfl ?_
    refine jr_aload_n (q := 24) C 1 dX11_block_23 rfl rfl rfl ?_
    refine jr_getR (q := 27) (ci := 11) (Cn := RX11) (T := TX11) (N := 42) (j := 11) C mf_26 rfl rfl (by decide) rfl 36 0 rfl rfl rfl nX11_block_11 mX11_block_1 dX11_block_24 rfl rfl ?_
    refine jr_iload_n (q := 28) C 2 dX11_block_27 rfl rfl rfl ?_
    refine jr_iload_n (q := 29) C 3 dX11_block_28 rfl rfl rfl ?_
    refine jr_csI (q := 32) (As := [.int p1, .int p2]) (rest := [.ref (z + mm_ad 36 0)]) C  (kX11_pairOf l p1 p2) rfl gX11_block_X11_pairOf rfl dsc_X11_pairOf ⟨rfl, rfl⟩ ⟨by decide, by decide⟩ rfl rfl (Nat.le_of_ble_eq_true rfl) dX11_block_29 rfl h (fun r8 μ7 h => ?_)
    refine jr_iconst (q := 33) (v := (0 : Int32)) C dX11_block_32 (by decide) rfl ?_
    obtain ⟨g9, h⟩ := h
    refine jr_iast (q := 34) C mf_36 rfl g9 dX11_block_33 rfl ?_
    refine jn_mem (fun μ10 eμ10 => ?_)
    replace h := h μ10 eμ10
    refine jr_iload_n (q := 35) C 0 dX11_block_34 rfl rfl rfl ?_
    exact jr_iret C hr hk dX11_block_35 h
  · replace h := h.2 c11
    refine jr_ldc (q := 11) (v := (-1000001 : Int32)) C dX11_block_9 mX11_block_2 rfl ?_
    exact jr_iret C hr hk dX11_block_11 h
theorem nX11_firstExtra_11 : ∀ w ∈ wsX110, w ∈ wsX11_firstExtra := fun _ h => List.mem_cons_of_mem _ (List.mem_append_right _ h)
theorem mX11_firstExtra_1 : Cond.fieldLink RX11 38 RX11 (TX11 11).2.1 (TX11 11).2.2.1 ∈ wsX11_firstExtra := List.mem_of_getElem? (i := 1) (by decide +kernel)
theorem mX11_firstExtra_2 : Cond.fieldLink RX11 41 RX11 (TX11 12).2.1 (TX11 12).2.2.1 ∈ wsX11_firstExtra := List.mem_of_getElem? (i := 2) (by decide +kernel)
theorem mX11_firstExtra_3 : Cond.fieldLink RX11 44 RX11 (TX11 13).2.1 (TX11 13).2.2.1 ∈ wsX11_firstExtra := List.mem_of_getElem? (i := 3) (by decide +kernel)
theorem mX11_firstExtra_4 : Cond.fieldLink RX11 143 RX11 (TX11 18).2.1 (TX11 18).2.2.1 ∈ wsX11_firstExtra := List.mem_of_getElem? (i := 4) (by decide +kernel)
theorem dsc_X11_firstExtra : yX11_firstExtra.cls ≠ "java/lang/invoke/MethodHandle" ∧ yX11_firstExtra.cls ≠ "java/lang/invoke/VarHandle" ∧ (parseMethodDescriptor yX11_firstExtra.desc).map (fun d => d.parameters.length) = some 2 := by decide +kernel
def pX11_firstExtra_b74 (K12 : mm_T → Int32 → Int32 → Int32 → Prop) (μ : mm_T) (a3 : Int32) (a4 : Int32) (a5 : Int32) (a6 : Int32) (as0 : Int32) : Prop := (as0 = 0 → K12 μ a3 a4 (a5 + (1 : Int32))) ∧ (¬ (as0 = 0) → K12 μ a3 a6 (a5 + (1 : Int32)))
def pX11_firstExtra_b73 (K12 : mm_T → Int32 → Int32 → Int32 → Prop) (μ : mm_T) (a3 : Int32) (a4 : Int32) (a5 : Int32) (a6 : Int32) : Prop := pX11_firstExtra_b74 K12 μ a3 a4 a5 a6 (0 : Int32)
def pX11_firstExtra_b69 (K12 : mm_T → Int32 → Int32 → Int32 → Prop) (μ : mm_T) (a3 : Int32) (a4 : Int32) (a5 : Int32) (a6 : Int32) : Prop := pX11_firstExtra_b74 K12 μ a3 a4 a5 a6 (1 : Int32)
def pX11_firstExtra_l12 (Po : Int32 → mm_T → Prop) (E12_96 : mm_T → Int32 → Prop) (K12 : mm_T → Int32 → Int32 → Int32 → Prop) (μ : mm_T) (a3 : Int32) (a4 : Int32) (a5 : Int32) : Prop := (vp_in a3 49) ∧ (((μ.1 36 0 a3.toNatClampNeg) ≤ a5 → E12_96 μ a4) ∧ (¬ ((μ.1 36 0 a3.toNatClampNeg) ≤ a5) → (vp_in (((6 : Int32) * a3) + a5) 294) ∧ (∀ x5 : Int32, x5 = μ.1 37 0 (((6 : Int32) * a3) + a5).toNatClampNeg → ((vp_in (((6 : Int32) * a3) + a5) 294) ∧ (((μ.1 38 0 (((6 : Int32) * a3) + a5).toNatClampNeg) < (μ.1 26 0 18) → pX11_firstExtra_b73 K12 μ a3 a4 a5 x5) ∧ (¬ ((μ.1 38 0 (((6 : Int32) * a3) + a5).toNatClampNeg) < (μ.1 26 0 18)) → (a4 = (-1 : Int32) → pX11_firstExtra_b69 K12 μ a3 a4 a5 x5) ∧ (¬ (a4 = (-1 : Int32)) → (a4 ≤ x5 → pX11_firstExtra_b73 K12 μ a3 a4 a5 x5) ∧ (¬ (a4 ≤ x5) → pX11_firstExtra_b69 K12 μ a3 a4 a5 x5))))))))
def pX11_firstExtra (Po : Int32 → mm_T → Prop) (μ : mm_T) (p1 : Int32) (p2 : Int32) : Prop := pX11_pairOf (fun r2 μ1 => lp_ (fun (K9 : mm_T × Int32 × Int32 × Int32 → Prop) (t9 : mm_T × Int32 × Int32 × Int32) => pX11_firstExtra_l12 Po (fun μ c4 => Po c4 μ) (fun μ a3 a4 a5 => K9 (μ, a3, a4, a5)) t9.1 t9.2.1 t9.2.2.1 t9.2.2.2) (μ1, r2, (-1 : Int32), (0 : Int32))) μ p1 p2
set_option maxHeartbeats 4000000 in
set_option maxRecDepth 100000 in
theorem kX11_firstExtra (l : Launch) (p1 : Int32) (p2 : Int32) : mm_CI l yX11_firstExtra wsX11_firstExtra ({ frames := 1, cells := 0, slots := 0, locals := 21 }) (fun z => [.ref (z + mm_ad 26 0), .int p1, .int p2]) (fun μ Po => pX11_firstExtra Po μ p1 p2) := by
  refine je_I (cc := cX11_firstExtra) (nL := 8) (own := RX11) (plainFor_of_name (by decide)) rfl rfl (fun _ => Nat.le_of_ble_eq_true rfl) ?_
  intro p e s m args below meth c D cy z μ Po C hr hk h
  change jJ p l e ({ frames := 1, cells := 0, slots := 0, locals := 21 }) s m args below meth c D cy z (MQ below (va_Qi Po (mm_Po D cy z) (mm_A z)) args s 0 0 (mm_A z)) 8 μ 0 [(0, .ref (z + mm_ad 26 0)), (1, .int p1), (2, .int p2)] []
  replace h : pX11_firstExtra Po μ p1 p2 := h
  unfold pX11_firstExtra at h
  refine jr_iload_n (q := 1) C 1 dX11_firstExtra_0 rfl rfl rfl ?_
  refine jr_iload_n (q := 2) C 2 dX11_firstExtra_1 rfl rfl rfl ?_
  refine jr_csI (q := 5) (As := [.int p1, .int p2]) (rest := []) C  (kX11_pairOf l p1 p2) rfl gX11_firstExtra_X11_pairOf rfl dsc_X11_pairOf ⟨rfl, rfl⟩ ⟨by decide, by decide⟩ rfl rfl (Nat.le_of_ble_eq_true rfl) dX11_firstExtra_2 rfl h (fun r2 μ1 h => ?_)
  refine jr_istore_n (q := 6) (lv' := [(3, .int r2), (0, .ref (z + mm_ad 26 0)), (1, .int p1), (2, .int p2)]) C dX11_firstExtra_5 rfl (by decide) rfl rfl ?_
  refine jr_iconst (q := 7) (v := (-1 : Int32)) C dX11_firstExtra_6 (by decide) rfl ?_
  refine jr_istore (q := 9) (lv' := [(4, .int (-1 : Int32)), (3, .int r2), (0, .ref (z + mm_ad 26 0)), (1, .int p1), (2, .int p2)]) C dX11_firstExtra_7 (by decide) rfl rfl ?_
  refine jr_iconst (q := 10) (v := (0 : Int32)) C dX11_firstExtra_9 (by decide) rfl ?_
  refine jr_istore (q := 12) (lv' := [(5, .int (0 : Int32)), (4, .int (-1 : Int32)), (3, .int r2), (0, .ref (z + mm_ad 26 0)), (1, .int p1), (2, .int p2)]) C dX11_firstExtra_10 (by decide) rfl rfl ?_
  have l12 : ∀ (E12_96 : mm_T → Int32 → Prop) (hE12_96 : ∀ (μ : mm_T) (c4 : Int32), E12_96 μ c4 → jJ p l e ({ frames := 1, cells := 0, slots := 0, locals := 21 }) s m args below meth c D cy z (MQ below (va_Qi Po (mm_Po D cy z) (mm_A z)) args s 0 0 (mm_A z)) 8 μ 96 [(4, .int c4)] []), ∀ t9 : mm_T × Int32 × Int32 × Int32, lp_ (fun (K9 : mm_T × Int32 × Int32 × Int32 → Prop) (t9 : mm_T × Int32 × Int32 × Int32) => pX11_firstExtra_l12 Po E12_96 (fun μ a3 a4 a5 => K9 (μ, a3, a4, a5)) t9.1 t9.2.1 t9.2.2.1 t9.2.2.2) t9 → jJ p l e ({ frames := 1, cells := 0, slots := 0, locals := 21 }) s m args below meth c D cy z (MQ below (va_Qi Po (mm_Po D cy z) (mm_A z)) args s 0 0 (mm_A z)) 8 t9.1 12 [(0, .ref (z + mm_ad 26 0)), (3, .int t9.2.1), (4, .int t9.2.2.1), (5, .int t9.2.2.2)] [] := by
    intro E12_96 hE12_96 t9 h
    refine lp_go (P := fun t9 : mm_T × Int32 × Int32 × Int32 => jJ p l e ({ frames := 1, cells := 0, slots := 0, locals := 21 }) s m args below meth c D cy z (MQ below (va_Qi Po (mm_Po D cy z) (mm_A z)) args s 0 0 (mm_A z)) 8 t9.1 12 [(0, .ref (z + mm_ad 26 0)), (3, .int t9.2.1), (4, .int t9.2.2.1), (5, .int t9.2.2.2)] []) (fun K9 t9 hK h => ?_) t9 h
    obtain ⟨μ, a3, a4, a5⟩ := t9
    obtain ⟨K12, eK12⟩ : ∃ K : mm_T → Int32 → Int32 → Int32 → Prop, K = (fun μ a3 a4 a5 => K9 (μ, a3, a4, a5)) := ⟨_, rfl⟩
    have hK12 : ∀ (μ : mm_T) (a3 : Int32) (a4 : Int32) (a5 : Int32), K12 μ a3 a4 a5 → jJ p l e ({ frames := 1, cells := 0, slots := 0, locals := 21 }) s m args below meth c D cy z (MQ below (va_Qi Po (mm_Po D cy z) (mm_A z)) args s 0 0 (mm_A z)) 8 μ 12 [(0, .ref (z + mm_ad 26 0)), (3, .int a3), (4, .int a4), (5, .int a5)] [] := fun μ a3 a4 a5 h9 => hK (μ, a3, a4, a5) (by rw [eK12] at h9; exact h9)
    replace h : pX11_firstExtra_l12 Po E12_96 K12 μ a3 a4 a5 := by rw [eK12]; exact h
    unfold pX11_firstExtra_l12 at h
    refine jr_iload (q := 14) C 3 dX11_firstExtra_12 rfl rfl ?_
    refine jr_aload_n (q := 15) C 0 dX11_firstExtra_14 rfl rfl rfl ?_
    refine jr_getR (q := 18) (ci := 11) (Cn := RX11) (T := TX11) (N := 42) (j := 11) C mf_26 rfl rfl (by decide) rfl 36 0 rfl rfl rfl nX11_firstExtra_11 mX11_firstExtra_1 dX11_firstExtra_15 rfl rfl ?_
    refine jr_iload_n (q := 19) C 1 dX11_firstExtra_18 rfl rfl rfl ?_
    obtain ⟨g3, h⟩ := h
    refine jr_iald (q := 20) C mf_36 rfl g3 dX11_firstExtra_19 rfl ?_
    refine jr_icmp_ge (q := 23) (tgt := 96) C dX11_firstExtra_20 (by decide) rfl (fun c11 => ?_) (fun c11 => ?_)
    · replace h := h.1 c11
      refine jr_sub [2] rfl ?_
      exact hE12_96 _ _ h
    · replace h := h.2 c11
      refine jr_aload_n (q := 24) C 0 dX11_firstExtra_23 rfl rfl rfl ?_
      refine jr_getR (q := 27) (ci := 11) (Cn := RX11) (T := TX11) (N := 42) (j := 12) C mf_26 rfl rfl (by decide) rfl 37 0 rfl rfl rfl nX11_firstExtra_11 mX11_firstExtra_2 dX11_firstExtra_24 rfl rfl ?_
      refine jr_bipush (q := 29) (v := (6 : Int32)) C dX11_firstExtra_27 (by decide) rfl ?_
      refine jr_iload_n (q := 30) C 1 dX11_firstExtra_29 rfl rfl rfl ?_
      refine jr_imul (q := 31) C dX11_firstExtra_30 rfl ?_
      refine jr_iload (q := 33) C 3 dX11_firstExtra_31 rfl rfl ?_
      refine jr_iadd (q := 34) C dX11_firstExtra_33 rfl ?_
      obtain ⟨g4, h⟩ := h
      refine jr_iald (q := 35) C mf_37 rfl g4 dX11_firstExtra_34 rfl ?_
      refine jn_int (fun x5 ex5 => ?_)
      replace h := h x5 ex5
      refine jr_istore (q := 37) (lv' := [(6, .int x5), (0, .ref (z + mm_ad 26 0)), (3, .int a3), (4, .int a4), (5, .int a5)]) C dX11_firstExtra_35 (by decide) rfl rfl ?_
      refine jr_aload_n (q := 38) C 1 dX11_firstExtra_37 rfl rfl rfl ?_
      refine jr_getR (q := 41) (ci := 11) (Cn := RX11) (T := TX11) (N := 42) (j := 13) C mf_26 rfl rfl (by decide) rfl 38 0 rfl rfl rfl nX11_firstExtra_11 mX11_firstExtra_3 dX11_firstExtra_38 rfl rfl ?_
      refine jr_bipush (q := 43) (v := (6 : Int32)) C dX11_firstExtra_41 (by decide) rfl ?_
      refine jr_iload_n (q := 44) C 2 dX11_firstExtra_43 rfl rfl rfl ?_
      refine jr_imul (q := 45) C dX11_firstExtra_44 rfl ?_
      refine jr_iload (q := 47) C 4 dX11_firstExtra_45 rfl rfl ?_
      refine jr_iadd (q := 48) C dX11_firstExtra_47 rfl ?_
      obtain ⟨g6, h⟩ := h
      refine jr_iald (q := 49) C mf_38 rfl g6 dX11_firstExtra_48 rfl ?_
      refine jr_aload_n (q := 50) C 1 dX11_firstExtra_49 rfl rfl rfl ?_
      refine jr_getI (q := 53) (ci := 11) (Cn := RX11) (T := TX11) (N := 42) (j := 18) C mf_26 rfl rfl (by decide) rfl rfl nX11_firstExtra_11 mX11_firstExtra_4 dX11_firstExtra_50 rfl rfl ?_
      have b74 : ∀ (μ : mm_T) (a3 : Int32) (a4 : Int32) (a5 : Int32) (a6 : Int32) (as0 : Int32), pX11_firstExtra_b74 K12 μ a3 a4 a5 a6 as0 → jJ p l e ({ frames := 1, cells := 0, slots := 0, locals := 21 }) s m args below meth c D cy z (MQ below (va_Qi Po (mm_Po D cy z) (mm_A z)) args s 0 0 (mm_A z)) 8 μ 74 [(0, .ref (z + mm_ad 26 0)), (3, .int a3), (4, .int a4), (5, .int a5), (6, .int a6)] [.int as0] := by
        intro μ a3 a4 a5 a6 as0 h
        unfold pX11_firstExtra_b74 at h
        refine jr_istore (q := 76) (lv' := [(7, .int as0), (0, .ref (z + mm_ad 26 0)), (3, .int a3), (4, .int a4), (5, .int a5), (6, .int a6)]) C dX11_firstExtra_74 (by decide) rfl rfl ?_
        refine jr_iload (q := 78) C 0 dX11_firstExtra_76 rfl rfl ?_
        refine jr_if_eq (q := 81) (tgt := 86) C dX11_firstExtra_78 (by decide) rfl (fun c7 => ?_) (fun c7 => ?_)
        · replace h := h.1 c7
          refine jr_iload (q := 88) C 3 dX11_firstExtra_86 rfl rfl ?_
          refine jr_istore (q := 90) (lv' := [(4, .int a4), (7, .int as0), (0, .ref (z + mm_ad 26 0)), (3, .int a3), (5, .int a5), (6, .int a6)]) C dX11_firstExtra_88 (by decide) rfl rfl ?_
          refine jr_iinc (q := 93) (lv' := [(5, .int (a5 + (1 : Int32))), (4, .int a4), (7, .int as0), (0, .ref (z + mm_ad 26 0)), (3, .int a3), (6, .int a6)]) C 4 dX11_firstExtra_90 rfl (by rfl) (by decide) rfl rfl ?_
          refine jr_goto (tgt := 12) C dX11_firstExtra_93 (by decide) ?_
          refine jr_sub [3, 4, 1, 0] rfl ?_
          exact hK12 _ _ _ _ h
        · replace h := h.2 c7
          refine jr_iload (q := 83) C 5 dX11_firstExtra_81 rfl rfl ?_
          refine jr_goto (tgt := 88) C dX11_firstExtra_83 (by decide) ?_
          refine jr_istore (q := 90) (lv' := [(4, .int a6), (7, .int as0), (0, .ref (z + mm_ad 26 0)), (3, .int a3), (5, .int a5), (6, .int a6)]) C dX11_firstExtra_88 (by decide) rfl rfl ?_
          refine jr_iinc (q := 93) (lv' := [(5, .int (a5 + (1 : Int32))), (4, .int a6), (7, .int as0), (0, .ref (z + mm_ad 26 0)), (3, .int a3), (6, .int a6)]) C 4 dX11_firstExtra_90 rfl (by rfl) (by decide) rfl rfl ?_
          refine jr_goto (tgt := 12) C dX11_firstExtra_93 (by decide) ?_
          refine jr_sub [3, 4, 1, 0] rfl ?_
          exact hK12 _ _ _ _ h
      have b73 : ∀ (μ : mm_T) (a3 : Int32) (a4 : Int32) (a5 : Int32) (a6 : Int32), pX11_firstExtra_b73 K12 μ a3 a4 a5 a6 → jJ p l e ({ frames := 1, cells := 0, slots := 0, locals := 21 }) s m args below meth c D cy z (MQ below (va_Qi Po (mm_Po D cy z) (mm_A z)) args s 0 0 (mm_A z)) 8 μ 73 [(0, .ref (z + mm_ad 26 0)), (3, .int a3), (4, .int a4), (5, .int a5), (6, .int a6)] [] := by
        intro μ a3 a4 a5 a6 h
        unfold pX11_firstExtra_b73 at h
        refine jr_iconst (q := 74) (v := (0 : Int32)) C dX11_firstExtra_73 (by decide) rfl ?_
        refine jr_sub [0, 1, 2, 3, 4] rfl ?_
        exact b74 _ _ _ _ _ _ h
      refine jr_icmp_lt (q := 56) (tgt := 73) C dX11_firstExtra_53 (by decide) rfl (fun c10 => ?_) (fun c10 => ?_)
      · replace h := h.1 c10
        refine jr_sub [1, 2, 3, 4, 0] rfl ?_
        exact b73 _ _ _ _ _ h
      · replace h := h.2 c10
        refine jr_iload (q := 58) C 3 dX11_firstExtra_56 rfl rfl ?_
        refine jr_iconst (q := 59) (v := (-1 : Int32)) C dX11_firstExtra_58 (by decide) rfl ?_
        have b69 : ∀ (μ : mm_T) (a3 : Int32) (a4 : Int32) (a5 : Int32) (a6 : Int32), pX11_firstExtra_b69 K12 μ a3 a4 a5 a6 → jJ p l e ({ frames := 1, cells := 0, slots := 0, locals := 21 }) s m args below meth c D cy z (MQ below (va_Qi Po (mm_Po D cy z) (mm_A z)) args s 0 0 (mm_A z)) 8 μ 69 [(0, .ref (z + mm_ad 26 0)), (3, .int a3), (4, .int a4), (5, .int a5), (6, .int a6)] [] := by
          intro μ a3 a4 a5 a6 h
          unfold pX11_firstExtra_b69 at h
          refine jr_iconst (q := 70) (v := (1 : Int32)) C dX11_firstExtra_69 (by decide) rfl ?_
          refine jr_goto (tgt := 74) C dX11_firstExtra_70 (by decide) ?_
          refine jr_sub [0, 1, 2, 3, 4] rfl ?_
          exact b74 _ _ _ _ _ _ h
        refine jr_icmp_eq (q := 62) (tgt := 69) C dX11_firstExtra_59 (by decide) rfl (fun c9 => ?_) (fun c9 => ?_)
        · replace h := h.1 c9
          refine jr_sub [1, 2, 3, 4, 0] rfl ?_
          exact b69 _ _ _ _ _ h
        · replace h := h.2 c9
          refine jr_iload (q := 64) C 0 dX11_firstExtra_62 rfl rfl ?_
          refine jr_iload (q := 66) C 3 dX11_firstExtra_64 rfl rfl ?_
          refine jr_icmp_ge (q := 69) (tgt := 73) C dX11_firstExtra_66 (by decide) rfl (fun c8 => ?_) (fun c8 => ?_)
          · replace h := h.1 c8
            refine jr_sub [1, 2, 3, 4, 0] rfl ?_
            exact b73 _ _ _ _ _ h
          · replace h := h.2 c8
            refine jr_sub [1, 2, 3, 4, 0] rfl ?_
            exact b69 _ _ _ _ _ h
  have x12_96 : ∀ (μ : mm_T) (c4 : Int32), (Po c4 μ) → jJ p l e ({ frames := 1, cells := 0, slots := 0, locals := 21 }) s m args below meth c D cy z (MQ below (va_Qi Po (mm_Po D cy z) (mm_A z)) args s 0 0 (mm_A z)) 8 μ 96 [(4, .int c4)] [] := by
    intro μ c4 h
    refine jr_iload (q := 98) C 0 dX11_firstExtra_96 rfl rfl ?_
    exact jr_iret C hr hk dX11_firstExtra_98 h
  refine jr_sub [3, 2, 1, 0] rfl ?_
  exact l12 _ x12_96 _ h
theorem mX11_firstPath_0 : Cond.constant RX11 178 (-1000001) ∈ wsX11_firstPath := List.mem_of_getElem? (i := 1) (by decide +kernel)
theorem dsc_X11_firstPath : yX11_firstPath.cls ≠ "java/lang/invoke/MethodHandle" ∧ yX11_firstPath.cls ≠ "java/lang/invoke/VarHandle" ∧ (parseMethodDescriptor yX11_firstPath.desc).map (fun d => d.parameters.length) = some 2 := by decide +kernel
def pX11_firstPath (Po : Int32 → mm_T → Prop) (μ : mm_T) (p1 : Int32) (p2 : Int32) : Prop := pX11_isPair (fun r2 μ1 => (r2 = 0 → Po (-1000001 : Int32) μ1) ∧ (¬ (r2 = 0) → pX11_firstExtra (fun r4 μ3 => Po r4 μ3) μ1 p1 p2)) μ p1 p2
set_option maxHeartbeats 4000000 in
set_option maxRecDepth 100000 in
theorem kX11_firstPath (l : Launch) (p1 : Int32) (p2 : Int32) : mm_CI l yX11_firstPath wsX11_firstPath ({ frames := 3, cells := 0, slots := 0, locals := 65 }) (fun z => [.ref (z + mm_ad 26 0), .int p1, .int p2]) (fun μ Po => pX11_firstPath Po μ p1 p2) := by
  refine je_I (cc := cX11_firstPath) (nL := 3) (own := RX11) (plainFor_of_name (by decide)) rfl rfl (fun _ => Nat.le_of_ble_eq_true rfl) ?_
  intro p e s m args below meth c D cy z μ Po C hr hk h
  change jJ p l e ({ frames := 3, cells := 0, slots := 0, locals := 65 }) s m args below meth c D cy z (MQ below (va_Qi Po (mm_Po D cy z) (mm_A z)) args s 0 0 (mm_A z)) 3 μ 0 [(0, .ref (z + mm_ad 26 0)), (1, .int p1), (2, .int p2)] []
  replace h : pX11_firstPath Po μ p1 p2 := h
  unfold pX11_firstPath at h
  refine jr_aload_n (q := 1) C 0 dX11_firstPath_0 rfl rfl rfl ?_
  refine jr_iload_n (q := 2) C 1 dX11_firstPath_1 rfl rfl rfl ?_
  refine jr_iload_n (q := 3) C 2 dX11_firstPath_2 rfl rfl rfl ?_
  refine jr_cvI (q := 6) (As := [.int p1, .int p2]) (rest := []) C (f := 26) (i := 0) (ci := 11) mf_26 rfl rfl rfl (kX11_isPair l p1 p2) rfl gX11_firstPath_X11_isPair rfl dsc_X11_isPair ⟨rfl, rfl⟩ ⟨by decide, by decide⟩ rfl rfl (Nat.le_of_ble_eq_true rfl) dX11_firstPath_3 rfl h (fun r2 μ1 h => ?_)
  refine jr_if_eq (q := 9) (tgt := 18) C dX11_firstPath_6 (by decide) rfl (fun c5 => ?_) (fun c5 => ?_)
  · replace h := h.1 c5
    refine jr_ldc (q := 20) (v := (-1000001 : Int32)) C dX11_firstPath_18 mX11_firstPath_0 rfl ?_
    exact jr_iret C hr hk dX11_firstPath_20 h
  · replace h := h.2 c5
    refine jr_aload_n (q := 10) C 0 dX11_firstPath_9 rfl rfl rfl ?_
    refine jr_iload_n (q := 11) C 1 dX11_firstPath_10 rfl rfl rfl ?_
    refine jr_iload_n (q := 12) C 2 dX11_firstPath_11 rfl rfl rfl ?_
    refine jr_cvI (q := 15) (As := [.int p1, .int p2]) (rest := []) C (f := 26) (i := 0) (ci := 11) mf_26 rfl rfl rfl (kX11_firstExtra l p1 p2) rfl gX11_firstPath_X11_firstExtra rfl dsc_X11_firstExtra ⟨rfl, rfl⟩ ⟨by decide, by decide⟩ rfl rfl (Nat.le_of_ble_eq_true rfl) dX11_firstPath_12 rfl h (fun r4 μ3 h => ?_)
    refine jr_goto (tgt := 20) C dX11_firstPath_15 (by decide) ?_
    exact jr_iret C hr hk dX11_firstPath_20 h
theorem nX11_level_11 : ∀ w ∈ wsX110, w ∈ wsX11_level := fun _ h => List.mem_cons_of_mem _ (List.mem_append_right _ h)
theorem mX11_level_1 : Cond.fieldLink RX11 143 RX11 (TX11 18).2.1 (TX11 18).2.2.1 ∈ wsX11_level := List.mem_of_getElem? (i := 3) (by decide +kernel)
theorem mX11_level_2 : Cond.constant RX11 81 (-1000002) ∈ wsX11_level := List.mem_of_getElem? (i := 2) (by decide +kernel)
theorem mX11_level_3 : Cond.constant RX11 152 (-1000003) ∈ wsX11_level := List.mem_of_getElem? (i := 1) (by decide +kernel)
theorem dsc_X11_level : yX11_level.cls ≠ "java/lang/invoke/MethodHandle" ∧ yX11_level.cls ≠ "java/lang/invoke/VarHandle" ∧ (parseMethodDescriptor yX11_level.desc).map (fun d => d.parameters.length) = some 1 := by decide +kernel
def pX11_level (Po : Int32 → mm_T → Prop) (μ : mm_T) (p1 : Int32) : Prop := pX11_isField (fun r2 μ1 => (¬ r2 = 0 → pX11_within (fun r4 μ3 => (¬ r4 = 0 → ∀ x5 : Int32, x5 = μ3.1 26 0 18 → (∀ μ6 : mm_T, μ6 = mm_I μ3 26 0 18 p1 → (Po x5 μ6))) ∧ (r4 = 0 → Po (-1000002 : Int32) μ3)) μ1 p1 (1 : Int32) (9 : Int32)) ∧ (r2 = 0 → Po (-1000003 : Int32) μ1)) μ 
set_option maxHeartbeats 4000000 in
set_option maxRecDepth 100000 in
theorem kX11_level (l : Launch) (p1 : Int32) : mm_CI l yX11_level wsX11_level ({ frames := 1, cells := 0, slots := 0, locals := 22 }) (fun z => [.ref (z + mm_ad 26 0), .int p1]) (fun μ Po => pX11_level Po μ p1) := by
  refine je_I (cc := cX11_level) (nL := 3) (own := RX11) (plainFor_of_name (by decide)) rfl rfl (fun _ => Nat.le_of_ble_eq_true rfl) ?_
  intro p e s m args below meth c D cy z μ Po C hr hk h
  change jJ p l e ({ frames := 1, cells := 0, slots := 0, locals := 22 }) s m args below meth c D cy z (MQ below (va_Qi Po (mm_Po D cy z) (mm_A z)) args s 0 0 (mm_A z)) 3 μ 0 [(0, .ref (z + mm_ad 26 0)), (1, .int p1)] []
  replace h : pX11_level Po μ p1 := h
  unfold pX11_level at h
  refine jr_aload_n (q := 1) C 0 dX11_level_0 rfl rfl rfl ?_
  refine jr_cvI (q := 4) (As := []) (rest := []) C (f := 26) (i := 0) (ci := 11) mf_26 rfl rfl rfl (kX11_isField l) rfl gX11_level_X11_isField rfl dsc_X11_isField ⟨rfl, rfl⟩ ⟨by decide, by decide⟩ rfl rfl (Nat.le_of_ble_eq_true rfl) dX11_level_1 rfl h (fun r2 μ1 h => ?_)
  refine jr_if_ne (q := 7) (tgt := 10) C dX11_level_4 (by decide) rfl (fun c8 => ?_) (fun c8 => ?_)
  · replace h := h.1 c8
    refine jr_iload_n (q := 11) C 1 dX11_level_10 rfl rfl rfl ?_
    refine jr_iconst (q := 12) (v := (1 : Int32)) C dX11_level_11 (by decide) rfl ?_
    refine jr_bipush (q := 14) (v := (9 : Int32)) C dX11_level_12 (by decide) rfl ?_
    refine jr_csI (q := 17) (As := [.int p1, .int (1 : Int32), .int (9 : Int32)]) (rest := []) C  (kX11_within l p1 (1 : Int32) (9 : Int32)) rfl gX11_level_X11_within rfl dsc_X11_within ⟨rfl, rfl⟩ ⟨by decide, by decide⟩ rfl rfl (Nat.le_of_ble_eq_true rfl) dX11_level_14 rfl h (fun r4 μ3 h => ?_)
    refine jr_if_ne (q := 20) (tgt := 23) C dX11_level_17 (by decide) rfl (fun c7 => ?_) (fun c7 => ?_)
    · replace h := h.1 c7
      refine jr_aload_n (q := 24) C 0 dX11_level_23 rfl rfl rfl ?_
      refine jr_getI (q := 27) (ci := 11) (Cn := RX11) (T := TX11) (N := 42) (j := 18) C mf_26 rfl rfl (by decide) rfl rfl nX11_level_11 mX11_level_1 dX11_level_24 rfl rfl ?_
      refine jn_int (fun x5 ex5 => ?_)
      replace h := h x5 ex5
      refine jr_istore_n (q := 28) (lv' := [(2, .int x5), (0, .ref (z + mm_ad 26 0)), (1, .int p1)]) C dX11_level_27 rfl (by decide) rfl rfl ?_
      refine jr_aload_n (q := 29) C 1 dX11_level_28 rfl rfl rfl ?_
      refine jr_iload_n (q := 30) C 2 dX11_level_29 rfl rfl rfl ?_
      refine jr_putI (q := 33) (ci := 11) (Cn := RX11) (T := TX11) (N := 42) (j := 18) C mf_26 rfl rfl (by decide) rfl rfl tyX11 tyX11_ok nmX11 rfl (by decide +kernel) nX11_level_11 mX11_level_1 dX11_level_30 rfl rfl ?_
      refine jn_mem (fun μ6 eμ6 => ?_)
      replace h := h μ6 eμ6
      refine jr_iload_n (q := 34) C 0 dX11_level_33 rfl rfl rfl ?_
      exact jr_iret C hr hk dX11_level_34 h
    · replace h := h.2 c7
      refine jr_ldc (q := 22) (v := (-1000002 : Int32)) C dX11_level_20 mX11_level_2 rfl ?_
      exact jr_iret C hr hk dX11_level_22 h
  · replace h := h.2 c8
    refine jr_ldc (q := 9) (v := (-1000003 : Int32)) C dX11_level_7 mX11_level_3 rfl ?_
    exact jr_iret C hr hk dX11_level_9 h
theorem nX11_layTimes_11 : ∀ w ∈ wsX110, w ∈ wsX11_layTimes := fun _ h => List.mem_cons_of_mem _ (List.mem_append_right _ h)
theorem mX11_layTimes_1 : Cond.fieldLink RX11 56 RX11 (TX11 25).2.1 (TX11 25).2.2.1 ∈ wsX11_layTimes := List.mem_of_getElem? (i := 1) (by decide +kernel)
theorem mX11_layTimes_2 : Cond.fieldLink RX11 140 RX11 (TX11 17).2.1 (TX11 17).2.2.1 ∈ wsX11_layTimes := List.mem_of_getElem? (i := 2) (by decide +kernel)
theorem mX11_layTimes_3 : Cond.fieldLink RX11 29 RX11 (TX11 8).2.1 (TX11 8).2.2.1 ∈ wsX11_layTimes := List.mem_of_getElem? (i := 3) (by decide +kernel)
theorem dsc_X11_layTimes : yX11_layTimes.cls ≠ "java/lang/invoke/MethodHandle" ∧ yX11_layTimes.cls ≠ "java/lang/invoke/VarHandle" ∧ (parseMethodDescriptor yX11_layTimes.desc).map (fun d => d.parameters.length) = some 3 := by decide +kernel
def pX11_layTimes (Po : mm_T → Prop) (μ : mm_T) (p1 : Int32) (p2 : Int32) (p3 : Int32) : Prop := (vp_in (1 : Int32) 7) ∧ (∀ μ2 : mm_T, μ2 = mm_I μ 42 0 (1 : Int32).toNatClampNeg (μ.1 26 0 17) → ((vp_in (1 : Int32) 7) ∧ ((vp_in (2 : Int32) 7) ∧ (∀ μ5 : mm_T, μ5 = mm_I μ2 42 0 (2 : Int32).toNatClampNeg ((μ2.1 42 0 (1 : Int32).toNatClampNeg) + p3) → ((vp_in (2 : Int32) 7) ∧ ((vp_in p2 7) ∧ ((vp_in (3 : Int32) 7) ∧ (∀ μ9 : mm_T, μ9 = mm_I μ5 42 0 (3 : Int32).toNatClampNeg ((μ5.1 42 0 (2 : Int32).toNatClampNeg) + (μ5.1 33 0 p2.toNatClampNeg)) → ((vp_in (3 : Int32) 7) ∧ ((vp_in (4 : Int32) 7) ∧ (∀ μ12 : mm_T, μ12 = mm_I μ9 42 0 (4 : Int32).toNatClampNeg ((μ9.1 42 0 (3 : Int32).toNatClampNeg) + p3) → ((vp_in (4 : Int32) 7) ∧ ((vp_in p1 7) ∧ ((vp_in (5 : Int32) 7) ∧ (∀ μ16 : mm_T, μ16 = mm_I μ12 42 0 (5 : Int32).toNatClampNeg ((μ12.1 42 0 (4 : Int32).toNatClampNeg) + (μ12.1 33 0 p1.toNatClampNeg)) → ((vp_in (5 : Int32) 7) ∧ ((vp_in (6 : Int32) 7) ∧ (∀ μ19 : mm_T, μ19 = mm_I μ16 42 0 (6 : Int32).toNatClampNeg ((μ16.1 42 0 (5 : Int32).toNatClampNeg) + p3) → (Po μ19)))))))))))))))))))
set_option maxHeartbeats 4000000 in
set_option maxRecDepth 100000 in
theorem kX11_layTimes (l : Launch) (p1 : Int32) (p2 : Int32) (p3 : Int32) : mm_CV l yX11_layTimes wsX11_layTimes ({ frames := 0, cells := 0, slots := 0, locals := 0 }) (fun z => [.ref (z + mm_ad 26 0), .int p1, .int p2, .int p3]) (fun μ Po => pX11_layTimes Po μ p1 p2 p3) := by
  refine je_V (cc := cX11_layTimes) (nL := 4) (own := RX11) (plainFor_of_name (by decide)) rfl rfl (fun _ => Nat.le_of_ble_eq_true rfl) ?_
  intro p e s m args below meth c D cy z μ Po C hr hk h
  change jJ p l e ({ frames := 0, cells := 0, slots := 0, locals := 0 }) s m args below meth c D cy z (MQ below (va_Qv Po (mm_Po D cy z) (mm_A z)) args s 0 0 (mm_A z)) 4 μ 0 [(0, .ref (z + mm_ad 26 0)), (1, .int p1), (2, .int p2), (3, .int p3)] []
  replace h : pX11_layTimes Po μ p1 p2 p3 := h
  unfold pX11_layTimes at h
  refine jr_aload_n (q := 1) C 0 dX11_layTimes_0 rfl rfl rfl ?_
  refine jr_getR (q := 4) (ci := 11) (Cn := RX11) (T := TX11) (N := 42) (j := 25) C mf_26 rfl rfl (by decide) rfl 42 0 rfl rfl rfl nX11_layTimes_11 mX11_layTimes_1 dX11_layTimes_1 rfl rfl ?_
  refine jr_iconst (q := 5) (v := (1 : Int32)) C dX11_layTimes_4 (by decide) rfl ?_
  refine jr_aload_n (q := 6) C 0 dX11_layTimes_5 rfl rfl rfl ?_
  refine jr_getI (q := 9) (ci := 11) (Cn := RX11) (T := TX11) (N := 42) (j := 17) C mf_26 rfl rfl (by decide) rfl rfl nX11_layTimes_11 mX11_layTimes_2 dX11_layTimes_6 rfl rfl ?_
  obtain ⟨g1, h⟩ := h
  refine jr_iast (q := 10) C mf_42 rfl g1 dX11_layTimes_9 rfl ?_
  refine jn_mem (fun μ2 eμ2 => ?_)
  replace h := h μ2 eμ2
  refine jr_aload_n (q := 11) C 0 dX11_layTimes_10 rfl rfl rfl ?_
  refine jr_getR (q := 14) (ci := 11) (Cn := RX11) (T := TX11) (N := 42) (j := 25) C mf_26 rfl rfl (by decide) rfl 42 0 rfl rfl rfl nX11_layTimes_11 mX11_layTimes_1 dX11_layTimes_11 rfl rfl ?_
  refine jr_iconst (q := 15) (v := (2 : Int32)) C dX11_layTimes_14 (by decide) rfl ?_
  refine jr_aload_n (q := 16) C 0 dX11_layTimes_15 rfl rfl rfl ?_
  refine jr_getR (q := 19) (ci := 11) (Cn := RX11) (T := TX11) (N := 42) (j := 25) C mf_26 rfl rfl (by decide) rfl 42 0 rfl rfl rfl nX11_layTimes_11 mX11_layTimes_1 dX11_layTimes_16 rfl rfl ?_
  refine jr_iconst (q := 20) (v := (1 : Int32)) C dX11_layTimes_19 (by decide) rfl ?_
  obtain ⟨g3, h⟩ := h
  refine jr_iald (q := 21) C mf_42 rfl g3 dX11_layTimes_20 rfl ?_
  refine jr_iload_n (q := 22) C 3 dX11_layTimes_21 rfl rfl rfl ?_
  refine jr_iadd (q := 23) C dX11_layTimes_22 rfl ?_
  obtain ⟨g4, h⟩ := h
  refine jr_iast (q := 24) C mf_42 rfl g4 dX11_layTimes_23 rfl ?_
  refine jn_mem (fun μ5 eμ5 => ?_)
  replace h := h μ5 eμ5
  refine jr_aload_n (q := 25) C 0 dX11_layTimes_24 rfl rfl rfl ?_
  refine jr_getR (q := 28) (ci := 11) (Cn := RX11) (T := TX11) (N := 42) (j := 25) C mf_26 rfl rfl (by decide) rfl 42 0 rfl rfl rfl nX11_layTimes_11 mX11_layTimes_1 dX11_layTimes_25 rfl rfl ?_
  refine jr_iconst (q := 29) (v := (3 : Int32)) C dX11_layTimes_28 (by decide) rfl ?_
  refine jr_aload_n (q := 30) C 0 dX11_layTimes_29 rfl rfl rfl ?_
  refine jr_getR (q := 33) (ci := 11) (Cn := RX11) (T := TX11) (N := 42) (j := 25) C mf_26 rfl rfl (by decide) rfl 42 0 rfl rfl rfl nX11_layTimes_11 mX11_layTimes_1 dX11_layTimes_30 rfl rfl ?_
  refine jr_iconst (q := 34) (v := (2 : Int32)) C dX11_layTimes_33 (by decide) rfl ?_
  obtain ⟨g6, h⟩ := h
  refine jr_iald (q := 35) C mf_42 rfl g6 dX11_layTimes_34 rfl ?_
  refine jr_aload_n (q := 36) C 0 dX11_layTimes_35 rfl rfl rfl ?_
  refine jr_getR (q := 39) (ci := 11) (Cn := RX11) (T := TX11) (N := 42) (j := 8) C mf_26 rfl rfl (by decide) rfl 33 0 rfl rfl rfl nX11_layTimes_11 mX11_layTimes_3 dX11_layTimes_36 rfl rfl ?_
  refine jr_iload_n (q := 40) C 2 dX11_layTimes_39 rfl rfl rfl ?_
  obtain ⟨g7, h⟩ := h
  refine jr_iald (q := 41) C mf_33 rfl g7 dX11_layTimes_40 rfl ?_
  refine jr_iadd (q := 42) C dX11_layTimes_41 rfl ?_
  obtain ⟨g8, h⟩ := h
  refine jr_iast (q := 43) C mf_42 rfl g8 dX11_layTimes_42 rfl ?_
  refine jn_mem (fun μ9 eμ9 => ?_)
  replace h := h μ9 eμ9
  refine jr_aload_n (q := 44) C 0 dX11_layTimes_43 rfl rfl rfl ?_
  refine jr_getR (q := 47) (ci := 11) (Cn := RX11) (T := TX11) (N := 42) (j := 25) C mf_26 rfl rfl (by decide) rfl 42 0 rfl rfl rfl nX11_layTimes_11 mX11_layTimes_1 dX11_layTimes_44 rfl rfl ?_
  refine jr_iconst (q := 48) (v := (4 : Int32)) C dX11_layTimes_47 (by decide) rfl ?_
  refine jr_aload_n (q := 49) C 0 dX11_layTimes_48 rfl rfl rfl ?_
  refine jr_getR (q := 52) (ci := 11) (Cn := RX11) (T := TX11) (N := 42) (j := 25) C mf_26 rfl rfl (by decide) rfl 42 0 rfl rfl rfl nX11_layTimes_11 mX11_layTimes_1 dX11_layTimes_49 rfl rfl ?_
  refine jr_iconst (q := 53) (v := (3 : Int32)) C dX11_layTimes_52 (by decide) rfl ?_
  obtain ⟨g10, h⟩ := h
  refine jr_iald (q := 54) C mf_42 rfl g10 dX11_layTimes_53 rfl ?_
  refine jr_iload_n (q := 55) C 3 dX11_layTimes_54 rfl rfl rfl ?_
  refine jr_iadd (q := 56) C dX11_layTimes_55 rfl ?_
  obtain ⟨g11, h⟩ := h
  refine jr_iast (q := 57) C mf_42 rfl g11 dX11_layTimes_56 rfl ?_
  refine jn_mem (fun μ12 eμ12 => ?_)
  replace h := h μ12 eμ12
  refine jr_aload_n (q := 58) C 0 dX11_layTimes_57 rfl rfl rfl ?_
  refine jr_getR (q := 61) (ci := 11) (Cn := RX11) (T := TX11) (N := 42) (j := 25) C mf_26 rfl rfl (by decide) rfl 42 0 rfl rfl rfl nX11_layTimes_11 mX11_layTimes_1 dX11_layTimes_58 rfl rfl ?_
  refine jr_iconst (q := 62) (v := (5 : Int32)) C dX11_layTimes_61 (by decide) rfl ?_
  refine jr_aload_n (q := 63) C 0 dX11_layTimes_62 rfl rfl rfl ?_
  refine jr_getR (q := 66) (ci := 11) (Cn := RX11) (T := TX11) (N := 42) (j := 25) C mf_26 rfl rfl (by decide) rfl 42 0 rfl rfl rfl nX11_layTimes_11 mX11_layTimes_1 dX11_layTimes_63 rfl rfl ?_
  refine jr_iconst (q := 67) (v := (4 : Int32)) C dX11_layTimes_66 (by decide) rfl ?_
  obtain ⟨g13, h⟩ := h
  refine jr_iald (q := 68) C mf_42 rfl g13 dX11_layTimes_67 rfl ?_
  refine jr_aload_n (q := 69) C 0 dX11_layTimes_68 rfl rfl rfl ?_
  refine jr_getR (q := 72) (ci := 11) (Cn := RX11) (T := TX11) (N := 42) (j := 8) C mf_26 rfl rfl (by decide) rfl 33 0 rfl rfl rfl nX11_layTimes_11 mX11_layTimes_3 dX11_layTimes_69 rfl rfl ?_
  refine jr_iload_n (q := 73) C 1 dX11_layTimes_72 rfl rfl rfl ?_
  obtain ⟨g14, h⟩ := h
  refine jr_iald (q := 74) C mf_33 rfl g14 dX11_layTimes_73 rfl ?_
  refine jr_iadd (q := 75) C dX11_layTimes_74 rfl ?_
  obtain ⟨g15, h⟩ := h
  refine jr_iast (q := 76) C mf_42 rfl g15 dX11_layTimes_75 rfl ?_
  refine jn_mem (fun μ16 eμ16 => ?_)
  replace h := h μ16 eμ16
  refine jr_aload_n (q := 77) C 0 dX11_layTimes_76 rfl rfl rfl ?_
  refine jr_getR (q := 80) (ci := 11) (Cn := RX11) (T := TX11) (N := 42) (j := 25) C mf_26 rfl rfl (by decide) rfl 42 0 rfl rfl rfl nX11_layTimes_11 mX11_layTimes_1 dX11_layTimes_77 rfl rfl ?_
  refine jr_bipush (q := 82) (v := (6 : Int32)) C dX11_layTimes_80 (by decide) rfl ?_
  refine jr_aload_n (q := 83) C 0 dX11_layTimes_82 rfl rfl rfl ?_
  refine jr_getR (q := 86) (ci := 11) (Cn := RX11) (T := TX11) (N := 42) (j := 25) C mf_26 rfl rfl (by decide) rfl 42 0 rfl rfl rfl nX11_layTimes_11 mX11_layTimes_1 dX11_layTimes_83 rfl rfl ?_
  refine jr_iconst (q := 87) (v := (5 : Int32)) C dX11_layTimes_86 (by decide) rfl ?_
  obtain ⟨g17, h⟩ := h
  refine jr_iald (q := 88) C mf_42 rfl g17 dX11_layTimes_87 rfl ?_
  refine jr_iload_n (q := 89) C 3 dX11_layTimes_88 rfl rfl rfl ?_
  refine jr_iadd (q := 90) C dX11_layTimes_89 rfl ?_
  obtain ⟨g18, h⟩ := h
  refine jr_iast (q := 91) C mf_42 rfl g18 dX11_layTimes_90 rfl ?_
  refine jn_mem (fun μ19 eμ19 => ?_)
  replace h := h μ19 eμ19
  exact jr_vret C hr hk dX11_layTimes_91 h
theorem nX11_layStamps_11 : ∀ w ∈ wsX110, w ∈ wsX11_layStamps := fun _ h => List.mem_cons_of_mem _ (List.mem_append_right _ h)
theorem mX11_layStamps_1 : Cond.fieldLink RX11 59 RX11 (TX11 26).2.1 (TX11 26).2.2.1 ∈ wsX11_layStamps := List.mem_of_getElem? (i := 1) (by decide +kernel)
theorem mX11_layStamps_2 : Cond.fieldLink RX11 56 RX11 (TX11 25).2.1 (TX11 25).2.2.1 ∈ wsX11_layStamps := List.mem_of_getElem? (i := 2) (by decide +kernel)
theorem dsc_X11_layStamps : yX11_layStamps.cls ≠ "java/lang/invoke/MethodHandle" ∧ yX11_layStamps.cls ≠ "java/lang/invoke/VarHandle" ∧ (parseMethodDescriptor yX11_layStamps.desc).map (fun d => d.parameters.length) = some 2 := by decide +kernel
def pX11_layStamps_b46 (K2 : mm_T → Int32 → Int32 → Int32 → Prop) (μ : mm_T) (a1 : Int32) (a2 : Int32) (a3 : Int32) (as0 : Int32) (as2 : Int32) : Prop := (vp_in a3 7) ∧ (pX11_clockOf (fun r3 μ2 => (vp_in as2 7) ∧ (∀ μ5 : mm_T, μ5 = mm_I μ2 43 0 as2.toNatClampNeg r3 → (K2 μ5 a1 a2 (a3 + (1 : Int32))))) μ as0 (μ.1 42 0 a3.toNatClampNeg))
def pX11_layStamps_b28 (K2 : mm_T → Int32 → Int32 → Int32 → Prop) (μ : mm_T) (a1 : Int32) (a2 : Int32) (a3 : Int32) (as0 : Int32) : Prop := (as0 = 0 → pX11_layStamps_b46 K2 μ a1 a2 a3 a2 a3) ∧ (¬ (as0 = 0) → pX11_layStamps_b46 K2 μ a1 a2 a3 a1 a3)
def pX11_layStamps_b23 (K2 : mm_T → Int32 → Int32 → Int32 → Prop) (μ : mm_T) (a1 : Int32) (a2 : Int32) (a3 : Int32) : Prop := pX11_layStamps_b28 K2 μ a1 a2 a3 (1 : Int32)
def pX11_layStamps_l2 (Po : mm_T → Prop) (E2_62 : mm_T → Prop) (K2 : mm_T → Int32 → Int32 → Int32 → Prop) (μ : mm_T) (a1 : Int32) (a2 : Int32) (a3 : Int32) : Prop := ((7 : Int32) ≤ a3 → E2_62 μ) ∧ (¬ ((7 : Int32) ≤ a3) → (a3 = (1 : Int32) → pX11_layStamps_b23 K2 μ a1 a2 a3) ∧ (¬ (a3 = (1 : Int32)) → (a3 = (4 : Int32) → pX11_layStamps_b23 K2 μ a1 a2 a3) ∧ (¬ (a3 = (4 : Int32)) → (¬ a3 = (5 : Int32) → pX11_layStamps_b28 K2 μ a1 a2 a3 (0 : Int32)) ∧ (a3 = (5 : Int32) → pX11_layStamps_b23 K2 μ a1 a2 a3))))
def pX11_layStamps (Po : mm_T → Prop) (μ : mm_T) (p1 : Int32) (p2 : Int32) : Prop := lp_ (fun (K9 : mm_T × Int32 × Int32 × Int32 → Prop) (t9 : mm_T × Int32 × Int32 × Int32) => pX11_layStamps_l2 Po (fun μ => Po μ) (fun μ a1 a2 a3 => K9 (μ, a1, a2, a3)) t9.1 t9.2.1 t9.2.2.1 t9.2.2.2) (μ, p1, p2, (1 : Int32))
set_option maxHeartbeats 4000000 in
set_option maxRecDepth 100000 in
theorem kX11_layStamps (l : Launch) (p1 : Int32) (p2 : Int32) : mm_CV l yX11_layStamps wsX11_layStamps ({ frames := 2, cells := 0, slots := 0, locals := 47 }) (fun z => [.ref (z + mm_ad 26 0), .int p1, .int p2]) (fun μ Po => pX11_layStamps Po μ p1 p2) := by
  refine je_V (cc := cX11_layStamps) (nL := 5) (own := RX11) (plainFor_of_name (by decide)) rfl rfl (fun _ => Nat.le_of_ble_eq_true rfl) ?_
  intro p e s m args below meth c D cy z μ Po C hr hk h
  change jJ p l e ({ frames := 2, cells := 0, slots := 0, locals := 47 }) s m args below meth c D cy z (MQ below (va_Qv Po (mm_Po D cy z) (mm_A z)) args s 0 0 (mm_A z)) 5 μ 0 [(0, .ref (z + mm_ad 26 0)), (1, .int p1), (2, .int p2)] []
  replace h : pX11_layStamps Po μ p1 p2 := h
  unfold pX11_layStamps at h
  refine jr_iconst (q := 1) (v := (1 : Int32)) C dX11_layStamps_0 (by decide) rfl ?_
  refine jr_istore_n (q := 2) (lv' := [(3, .int (1 : Int32)), (0, .ref (z + mm_ad 26 0)), (1, .int p1), (2, .int p2)]) C dX11_layStamps_1 rfl (by decide) rfl rfl ?_
  have l2 : ∀ (E2_62 : mm_T → Prop) (hE2_62 : ∀ (μ : mm_T), E2_62 μ → jJ p l e ({ frames := 2, cells := 0, slots := 0, locals := 47 }) s m args below meth c D cy z (MQ below (va_Qv Po (mm_Po D cy z) (mm_A z)) args s 0 0 (mm_A z)) 5 μ 62 [] []), ∀ t9 : mm_T × Int32 × Int32 × Int32, lp_ (fun (K9 : mm_T × Int32 × Int32 × Int32 → Prop) (t9 : mm_T × Int32 × Int32 × Int32) => pX11_layStamps_l2 Po E2_62 (fun μ a1 a2 a3 => K9 (μ, a1, a2, a3)) t9.1 t9.2.1 t9.2.2.1 t9.2.2.2) t9 → jJ p l e ({ frames := 2, cells := 0, slots := 0, locals := 47 }) s m args below meth c D cy z (MQ below (va_Qv Po (mm_Po D cy z) (mm_A z)) args s 0 0 (mm_A z)) 5 t9.1 2 [(0, .ref (z + mm_ad 26 0)), (1, .int t9.2.1), (2, .int t9.2.2.1), (3, .int t9.2.2.2)] [] := by
    intro E2_62 hE2_62 t9 h
    refine lp_go (P := fun t9 : mm_T × Int32 × Int32 × Int32 => jJ p l e ({ frames := 2, cells := 0, slots := 0, locals := 47 }) s m args below meth c D cy z (MQ below (va_Qv Po (mm_Po D cy z) (mm_A z)) args s 0 0 (mm_A z)) 5 t9.1 2 [(0, .ref (z + mm_ad 26 0)), (1, .int t9.2.1), (2, .int t9.2.2.1), (3, .int t9.2.2.2)] []) (fun K9 t9 hK h => ?_) t9 h
    obtain ⟨μ, a1, a2, a3⟩ := t9
    obtain ⟨K2, eK2⟩ : ∃ K : mm_T → Int32 → Int32 → Int32 → Prop, K = (fun μ a1 a2 a3 => K9 (μ, a1, a2, a3)) := ⟨_, rfl⟩
    have hK2 : ∀ (μ : mm_T) (a1 : Int32) (a2 : Int32) (a3 : Int32), K2 μ a1 a2 a3 → jJ p l e ({ frames := 2, cells := 0, slots := 0, locals := 47 }) s m args below meth c D cy z (MQ below (va_Qv Po (mm_Po D cy z) (mm_A z)) args s 0 0 (mm_A z)) 5 μ 2 [(0, .ref (z + mm_ad 26 0)), (1, .int a1), (2, .int a2), (3, .int a3)] [] := fun μ a1 a2 a3 h9 => hK (μ, a1, a2, a3) (by rw [eK2] at h9; exact h9)
    replace h : pX11_layStamps_l2 Po E2_62 K2 μ a1 a2 a3 := by rw [eK2]; exact h
    unfold pX11_layStamps_l2 at h
    refine jr_iload_n (q := 3) C 3 dX11_layStamps_2 rfl rfl rfl ?_
    refine jr_bipush (q := 5) (v := (7 : Int32)) C dX11_layStamps_3 (by decide) rfl ?_
    refine jr_icmp_ge (q := 8) (tgt := 62) C dX11_layStamps_5 (by decide) rfl (fun c10 => ?_) (fun c10 => ?_)
    · replace h := h.1 c10
      refine jr_sub [] rfl ?_
      exact hE2_62 _ h
    · replace h := h.2 c10
      refine jr_iload_n (q := 9) C 3 dX11_layStamps_8 rfl rfl rfl ?_
      refine jr_iconst (q := 10) (v := (1 : Int32)) C dX11_layStamps_9 (by decide) rfl ?_
      have b28 : ∀ (μ : mm_T) (a1 : Int32) (a2 : Int32) (a3 : Int32) (as0 : Int32), pX11_layStamps_b28 K2 μ a1 a2 a3 as0 → jJ p l e ({ frames := 2, cells := 0, slots := 0, locals := 47 }) s m args below meth c D cy z (MQ below (va_Qv Po (mm_Po D cy z) (mm_A z)) args s 0 0 (mm_A z)) 5 μ 28 [(0, .ref (z + mm_ad 26 0)), (1, .int a1), (2, .int a2), (3, .int a3)] [.int as0] := by
        intro μ a1 a2 a3 as0 h
        unfold pX11_layStamps_b28 at h
        refine jr_istore (q := 30) (lv' := [(4, .int as0), (0, .ref (z + mm_ad 26 0)), (1, .int a1), (2, .int a2), (3, .int a3)]) C dX11_layStamps_28 (by decide) rfl rfl ?_
        refine jr_aload_n (q := 31) C 1 dX11_layStamps_30 rfl rfl rfl ?_
        refine jr_getR (q := 34) (ci := 11) (Cn := RX11) (T := TX11) (N := 42) (j := 26) C mf_26 rfl rfl (by decide) rfl 43 0 rfl rfl rfl nX11_layStamps_11 mX11_layStamps_1 dX11_layStamps_31 rfl rfl ?_
        refine jr_iload_n (q := 35) C 4 dX11_layStamps_34 rfl rfl rfl ?_
        refine jr_aload_n (q := 36) C 1 dX11_layStamps_35 rfl rfl rfl ?_
        refine jr_iload (q := 38) C 0 dX11_layStamps_36 rfl rfl ?_
        have b46 : ∀ (μ : mm_T) (a1 : Int32) (a2 : Int32) (a3 : Int32) (as0 : Int32) (as2 : Int32), pX11_layStamps_b46 K2 μ a1 a2 a3 as0 as2 → jJ p l e ({ frames := 2, cells := 0, slots := 0, locals := 47 }) s m args below meth c D cy z (MQ below (va_Qv Po (mm_Po D cy z) (mm_A z)) args s 0 0 (mm_A z)) 5 μ 46 [(0, .ref (z + mm_ad 26 0)), (1, .int a1), (2, .int a2), (3, .int a3)] [.int as0, .ref (z + mm_ad 26 0), .int as2, .ref (z + mm_ad 43 0)] := by
          intro μ a1 a2 a3 as0 as2 h
          unfold pX11_layStamps_b46 at h
          refine jr_aload_n (q := 47) C 0 dX11_layStamps_46 rfl rfl rfl ?_
          refine jr_getR (q := 50) (ci := 11) (Cn := RX11) (T := TX11) (N := 42) (j := 25) C mf_26 rfl rfl (by decide) rfl 42 0 rfl rfl rfl nX11_layStamps_11 mX11_layStamps_2 dX11_layStamps_47 rfl rfl ?_
          refine jr_iload_n (q := 51) C 3 dX11_layStamps_50 rfl rfl rfl ?_
          obtain ⟨g1, h⟩ := h
          refine jr_iald (q := 52) C mf_42 rfl g1 dX11_layStamps_51 rfl ?_
          refine jr_cvI (q := 55) (As := [.int as0, .int (μ.1 42 0 a3.toNatClampNeg)]) (rest := [.int as2, .ref (z + mm_ad 43 0)]) C (f := 26) (i := 0) (ci := 11) mf_26 rfl rfl rfl (kX11_clockOf l as0 (μ.1 42 0 a3.toNatClampNeg)) rfl gX11_layStamps_X11_clockOf rfl dsc_X11_clockOf ⟨rfl, rfl⟩ ⟨by decide, by decide⟩ rfl rfl (Nat.le_of_ble_eq_true rfl) dX11_layStamps_52 rfl h (fun r3 μ2 h => ?_)
          obtain ⟨g4, h⟩ := h
          refine jr_iast (q := 56) C mf_43 rfl g4 dX11_layStamps_55 rfl ?_
          refine jn_mem (fun μ5 eμ5 => ?_)
          replace h := h μ5 eμ5
          refine jr_iinc (q := 59) (lv' := [(3, .int (a3 + (1 : Int32))), (0, .ref (z + mm_ad 26 0)), (1, .int a1), (2, .int a2)]) C 3 dX11_layStamps_56 rfl (by rfl) (by decide) rfl rfl ?_
          refine jr_goto (tgt := 2) C dX11_layStamps_59 (by decide) ?_
          refine jr_sub [1, 2, 3, 0] rfl ?_
          exact hK2 _ _ _ _ h
        refine jr_if_eq (q := 41) (tgt := 45) C dX11_layStamps_38 (by decide) rfl (fun c6 => ?_) (fun c6 => ?_)
        · replace h := h.1 c6
          refine jr_iload_n (q := 46) C 3 dX11_layStamps_45 rfl rfl rfl ?_
          refine jr_sub [1, 2, 3, 4] rfl ?_
          exact b46 _ _ _ _ _ _ h
        · replace h := h.2 c6
          refine jr_iload_n (q := 42) C 2 dX11_layStamps_41 rfl rfl rfl ?_
          refine jr_goto (tgt := 46) C dX11_layStamps_42 (by decide) ?_
          refine jr_sub [1, 2, 3, 4] rfl ?_
          exact b46 _ _ _ _ _ _ h
      have b23 : ∀ (μ : mm_T) (a1 : Int32) (a2 : Int32) (a3 : Int32), pX11_layStamps_b23 K2 μ a1 a2 a3 → jJ p l e ({ frames := 2, cells := 0, slots := 0, locals := 47 }) s m args below meth c D cy z (MQ below (va_Qv Po (mm_Po D cy z) (mm_A z)) args s 0 0 (mm_A z)) 5 μ 23 [(0, .ref (z + mm_ad 26 0)), (1, .int a1), (2, .int a2), (3, .int a3)] [] := by
        intro μ a1 a2 a3 h
        unfold pX11_layStamps_b23 at h
        refine jr_iconst (q := 24) (v := (1 : Int32)) C dX11_layStamps_23 (by decide) rfl ?_
        refine jr_goto (tgt := 28) C dX11_layStamps_24 (by decide) ?_
        refine jr_sub [0, 1, 2, 3] rfl ?_
        exact b28 _ _ _ _ _ h
      refine jr_icmp_eq (q := 13) (tgt := 23) C dX11_layStamps_10 (by decide) rfl (fun c9 => ?_) (fun c9 => ?_)
      · replace h := h.1 c9
        refine jr_sub [0, 1, 2, 3] rfl ?_
        exact b23 _ _ _ _ h
      · replace h := h.2 c9
        refine jr_iload_n (q := 14) C 3 dX11_layStamps_13 rfl rfl rfl ?_
        refine jr_iconst (q := 15) (v := (4 : Int32)) C dX11_layStamps_14 (by decide) rfl ?_
        refine jr_icmp_eq (q := 18) (tgt := 23) C dX11_layStamps_15 (by decide) rfl (fun c8 => ?_) (fun c8 => ?_)
        · replace h := h.1 c8
          refine jr_sub [0, 1, 2, 3] rfl ?_
          exact b23 _ _ _ _ h
        · replace h := h.2 c8
          refine jr_iload_n (q := 19) C 3 dX11_layStamps_18 rfl rfl rfl ?_
          refine jr_iconst (q := 20) (v := (5 : Int32)) C dX11_layStamps_19 (by decide) rfl ?_
          refine jr_icmp_ne (q := 23) (tgt := 27) C dX11_layStamps_20 (by decide) rfl (fun c7 => ?_) (fun c7 => ?_)
          · replace h := h.1 c7
            refine jr_iconst (q := 28) (v := (0 : Int32)) C dX11_layStamps_27 (by decide) rfl ?_
            refine jr_sub [0, 1, 2, 3] rfl ?_
            exact b28 _ _ _ _ _ h
          · replace h := h.2 c7
            refine jr_sub [0, 1, 2, 3] rfl ?_
            exact b23 _ _ _ _ h
  have x2_62 : ∀ (μ : mm_T), (Po μ) → jJ p l e ({ frames := 2, cells := 0, slots := 0, locals := 47 }) s m args below meth c D cy z (MQ below (va_Qv Po (mm_Po D cy z) (mm_A z)) args s 0 0 (mm_A z)) 5 μ 62 [] [] := by
    intro μ h
    exact jr_vret C hr hk dX11_layStamps_62 h
  refine jr_sub [1, 2, 3, 0] rfl ?_
  exact l2 _ x2_62 _ h
theorem nX11_layTold_11 : ∀ w ∈ wsX110, w ∈ wsX11_layTold := fun _ h => List.mem_cons_of_mem _ (List.mem_append_right _ h)
theorem mX11_layTold_1 : Cond.fieldLink RX11 59 RX11 (TX11 26).2.1 (TX11 26).2.2.1 ∈ wsX11_layTold := List.mem_of_getElem? (i := 1) (by decide +kernel)
theorem mX11_layTold_2 : Cond.constantLong RX11 200 (2) ∈ wsX11_layTold := List.mem_of_getElem? (i := 2) (by decide +kernel)
theorem mX11_layTold_3 : Cond.fieldLink RX11 202 RX11 (TX11 23).2.1 (TX11 23).2.2.1 ∈ wsX11_layTold := List.mem_of_getElem? (i := 3) (by decide +kernel)
theorem mX11_layTold_4 : Cond.fieldLink RX11 205 RX11 (TX11 24).2.1 (TX11 24).2.2.1 ∈ wsX11_layTold := List.mem_of_getElem? (i := 4) (by decide +kernel)
theorem dsc_X11_layTold : yX11_layTold.cls ≠ "java/lang/invoke/MethodHandle" ∧ yX11_layTold.cls ≠ "java/lang/invoke/VarHandle" ∧ (parseMethodDescriptor yX11_layTold.desc).map (fun d => d.parameters.length) = some 0 := by decide +kernel
def pX11_layTold (Po : mm_T → Prop) (μ : mm_T) : Prop := (vp_in (4 : Int32) 7) ∧ ((vp_in (1 : Int32) 7) ∧ (∀ x3 : Int64, x3 = ((μ.1 43 0 (4 : Int32).toNatClampNeg) - (μ.1 43 0 (1 : Int32).toNatClampNeg)).toInt64 → ((vp_in (3 : Int32) 7) ∧ ((vp_in (2 : Int32) 7) ∧ (∀ x6 : Int64, x6 = ((μ.1 43 0 (3 : Int32).toNatClampNeg) - (μ.1 43 0 (2 : Int32).toNatClampNeg)).toInt64 → ((vp_in (6 : Int32) 7) ∧ ((vp_in (3 : Int32) 7) ∧ (∀ x9 : Int64, x9 = ((μ.1 43 0 (6 : Int32).toNatClampNeg) - (μ.1 43 0 (3 : Int32).toNatClampNeg)).toInt64 → ((vp_in (5 : Int32) 7) ∧ ((vp_in (4 : Int32) 7) ∧ (∀ x12 : Int64, x12 = ((μ.1 43 0 (5 : Int32).toNatClampNeg) - (μ.1 43 0 (4 : Int32).toNatClampNeg)).toInt64 → (pX11_down (fun r14 μ13 => ∀ μ15 : mm_T, μ15 = mm_I μ13 26 0 23 r14 → (pX11_down (fun r17 μ16 => ∀ μ18 : mm_T, μ18 = mm_I μ16 26 0 24 r17 → (Po μ18)) μ15 ((x3 * x9) - (x6 * x12)) (((x3 + x9) + x6) + x12))) μ (x3 - x6) (2 : Int64)))))))))))))
set_option maxHeartbeats 4000000 in
set_option maxRecDepth 100000 in
theorem kX11_layTold (l : Launch) : mm_CV l yX11_layTold wsX11_layTold ({ frames := 1, cells := 0, slots := 0, locals := 25 }) (fun z => [.ref (z + mm_ad 26 0)]) (fun μ Po => pX11_layTold Po μ) := by
  refine je_V (cc := cX11_layTold) (nL := 9) (own := RX11) (plainFor_of_name (by decide)) rfl rfl (fun _ => Nat.le_of_ble_eq_true rfl) ?_
  intro p e s m args below meth c D cy z μ Po C hr hk h
  change jJ p l e ({ frames := 1, cells := 0, slots := 0, locals := 25 }) s m args below meth c D cy z (MQ below (va_Qv Po (mm_Po D cy z) (mm_A z)) args s 0 0 (mm_A z)) 9 μ 0 [(0, .ref (z + mm_ad 26 0))] []
  replace h : pX11_layTold Po μ := h
  unfold pX11_layTold at h
  refine jr_aload_n (q := 1) C 0 dX11_layTold_0 rfl rfl rfl ?_
  refine jr_getR (q := 4) (ci := 11) (Cn := RX11) (T := TX11) (N := 42) (j := 26) C mf_26 rfl rfl (by decide) rfl 43 0 rfl rfl rfl nX11_layTold_11 mX11_layTold_1 dX11_layTold_1 rfl rfl ?_
  refine jr_iconst (q := 5) (v := (4 : Int32)) C dX11_layTold_4 (by decide) rfl ?_
  obtain ⟨g1, h⟩ := h
  refine jr_iald (q := 6) C mf_43 rfl g1 dX11_layTold_5 rfl ?_
  refine jr_aload_n (q := 7) C 0 dX11_layTold_6 rfl rfl rfl ?_
  refine jr_getR (q := 10) (ci := 11) (Cn := RX11) (T := TX11) (N := 42) (j := 26) C mf_26 rfl rfl (by decide) rfl 43 0 rfl rfl rfl nX11_layTold_11 mX11_layTold_1 dX11_layTold_7 rfl rfl ?_
  refine jr_iconst (q := 11) (v := (1 : Int32)) C dX11_layTold_10 (by decide) rfl ?_
  obtain ⟨g2, h⟩ := h
  refine jr_iald (q := 12) C mf_43 rfl g2 dX11_layTold_11 rfl ?_
  refine jr_isub (q := 13) C dX11_layTold_12 rfl ?_
  refine jr_i2l (q := 14) C dX11_layTold_13 rfl ?_
  refine jn_lng (fun x3 ex3 => ?_)
  replace h := h x3 ex3
  refine jr_lstore_n (q := 15) (lv' := [(1, .long x3), (0, .ref (z + mm_ad 26 0))]) C dX11_layTold_14 rfl (by decide) rfl rfl ?_
  refine jr_aload_n (q := 16) C 1 dX11_layTold_15 rfl rfl rfl ?_
  refine jr_getR (q := 19) (ci := 11) (Cn := RX11) (T := TX11) (N := 42) (j := 26) C mf_26 rfl rfl (by decide) rfl 43 0 rfl rfl rfl nX11_layTold_11 mX11_layTold_1 dX11_layTold_16 rfl rfl ?_
  refine jr_iconst (q := 20) (v := (3 : Int32)) C dX11_layTold_19 (by decide) rfl ?_
  obtain ⟨g4, h⟩ := h
  refine jr_iald (q := 21) C mf_43 rfl g4 dX11_layTold_20 rfl ?_
  refine jr_aload_n (q := 22) C 1 dX11_layTold_21 rfl rfl rfl ?_
  refine jr_getR (q := 25) (ci := 11) (Cn := RX11) (T := TX11) (N := 42) (j := 26) C mf_26 rfl rfl (by decide) rfl 43 0 rfl rfl rfl nX11_layTold_11 mX11_layTold_1 dX11_layTold_22 rfl rfl ?_
  refine jr_iconst (q := 26) (v := (2 : Int32)) C dX11_layTold_25 (by decide) rfl ?_
  obtain ⟨g5, h⟩ := h
  refine jr_iald (q := 27) C mf_43 rfl g5 dX11_layTold_26 rfl ?_
  refine jr_isub (q := 28) C dX11_layTold_27 rfl ?_
  refine jr_i2l (q := 29) C dX11_layTold_28 rfl ?_
  refine jn_lng (fun x6 ex6 => ?_)
  replace h := h x6 ex6
  refine jr_lstore_n (q := 30) (lv' := [(3, .long x6), (1, .long x3), (0, .ref (z + mm_ad 26 0))]) C dX11_layTold_29 rfl (by decide) rfl rfl ?_
  refine jr_aload_n (q := 31) C 2 dX11_layTold_30 rfl rfl rfl ?_
  refine jr_getR (q := 34) (ci := 11) (Cn := RX11) (T := TX11) (N := 42) (j := 26) C mf_26 rfl rfl (by decide) rfl 43 0 rfl rfl rfl nX11_layTold_11 mX11_layTold_1 dX11_layTold_31 rfl rfl ?_
  refine jr_bipush (q := 36) (v := (6 : Int32)) C dX11_layTold_34 (by decide) rfl ?_
  obtain ⟨g7, h⟩ := h
  refine jr_iald (q := 37) C mf_43 rfl g7 dX11_layTold_36 rfl ?_
  refine jr_aload_n (q := 38) C 2 dX11_layTold_37 rfl rfl rfl ?_
  refine jr_getR (q := 41) (ci := 11) (Cn := RX11) (T := TX11) (N := 42) (j := 26) C mf_26 rfl rfl (by decide) rfl 43 0 rfl rfl rfl nX11_layTold_11 mX11_layTold_1 dX11_layTold_38 rfl rfl ?_
  refine jr_iconst (q := 42) (v := (3 : Int32)) C dX11_layTold_41 (by decide) rfl ?_
  obtain ⟨g8, h⟩ := h
  refine jr_iald (q := 43) C mf_43 rfl g8 dX11_layTold_42 rfl ?_
  refine jr_isub (q := 44) C dX11_layTold_43 rfl ?_
  refine jr_i2l (q := 45) C dX11_layTold_44 rfl ?_
  refine jn_lng (fun x9 ex9 => ?_)
  replace h := h x9 ex9
  refine jr_lstore (q := 47) (lv' := [(5, .long x9), (3, .long x6), (1, .long x3), (0, .ref (z + mm_ad 26 0))]) C dX11_layTold_45 (by decide) rfl rfl ?_
  refine jr_aload_n (q := 48) C 3 dX11_layTold_47 rfl rfl rfl ?_
  refine jr_getR (q := 51) (ci := 11) (Cn := RX11) (T := TX11) (N := 42) (j := 26) C mf_26 rfl rfl (by decide) rfl 43 0 rfl rfl rfl nX11_layTold_11 mX11_layTold_1 dX11_layTold_48 rfl rfl ?_
  refine jr_iconst (q := 52) (v := (5 : Int32)) C dX11_layTold_51 (by decide) rfl ?_
  obtain ⟨g10, h⟩ := h
  refine jr_iald (q := 53) C mf_43 rfl g10 dX11_layTold_52 rfl ?_
  refine jr_aload_n (q := 54) C 3 dX11_layTold_53 rfl rfl rfl ?_
  refine jr_getR (q := 57) (ci := 11) (Cn := RX11) (T := TX11) (N := 42) (j := 26) C mf_26 rfl rfl (by decide) rfl 43 0 rfl rfl rfl nX11_layTold_11 mX11_layTold_1 dX11_layTold_54 rfl rfl ?_
  refine jr_iconst (q := 58) (v := (4 : Int32)) C dX11_layTold_57 (by decide) rfl ?_
  obtain ⟨g11, h⟩ := h
  refine jr_iald (q := 59) C mf_43 rfl g11 dX11_layTold_58 rfl ?_
  refine jr_isub (q := 60) C dX11_layTold_59 rfl ?_
  refine jr_i2l (q := 61) C dX11_layTold_60 rfl ?_
  refine jn_lng (fun x12 ex12 => ?_)
  replace h := h x12 ex12
  refine jr_lstore (q := 63) (lv' := [(7, .long x12), (5, .long x9), (3, .long x6), (1, .long x3), (0, .ref (z + mm_ad 26 0))]) C dX11_layTold_61 (by decide) rfl rfl ?_
  refine jr_aload_n (q := 64) C 4 dX11_layTold_63 rfl rfl rfl ?_
  refine jr_lload_n (q := 65) C 3 dX11_layTold_64 rfl rfl rfl ?_
  refine jr_lload_n (q := 66) C 2 dX11_layTold_65 rfl rfl rfl ?_
  refine jr_lsub (q := 67) C dX11_layTold_66 rfl ?_
  refine jr_ldc2 (q := 70) (v := (2 : Int64)) C dX11_layTold_67 mX11_layTold_2 rfl ?_
  refine jr_csI (q := 73) (As := [.long (x3 - x6), .long (2 : Int64)]) (rest := [.ref (z + mm_ad 26 0)]) C  (kX11_down l (x3 - x6) (2 : Int64)) rfl gX11_layTold_X11_down rfl dsc_X11_down ⟨rfl, rfl⟩ ⟨by decide, by decide⟩ rfl rfl (Nat.le_of_ble_eq_true rfl) dX11_layTold_70 rfl h (fun r14 μ13 h => ?_)
  refine jr_putI (q := 76) (ci := 11) (Cn := RX11) (T := TX11) (N := 42) (j := 23) C mf_26 rfl rfl (by decide) rfl rfl tyX11 tyX11_ok nmX11 rfl (by decide +kernel) nX11_layTold_11 mX11_layTold_3 dX11_layTold_73 rfl rfl ?_
  refine jn_mem (fun μ15 eμ15 => ?_)
  replace h := h μ15 eμ15
  refine jr_aload_n (q := 77) C 4 dX11_layTold_76 rfl rfl rfl ?_
  refine jr_lload_n (q := 78) C 3 dX11_layTold_77 rfl rfl rfl ?_
  refine jr_lload (q := 80) C 1 dX11_layTold_78 rfl rfl ?_
  refine jr_lmul (q := 81) C dX11_layTold_80 rfl ?_
  refine jr_lload_n (q := 82) C 2 dX11_layTold_81 rfl rfl rfl ?_
  refine jr_lload (q := 84) C 0 dX11_layTold_82 rfl rfl ?_
  refine jr_lmul (q := 85) C dX11_layTold_84 rfl ?_
  refine jr_lsub (q := 86) C dX11_layTold_85 rfl ?_
  refine jr_lload_n (q := 87) C 3 dX11_layTold_86 rfl rfl rfl ?_
  refine jr_lload (q := 89) C 1 dX11_layTold_87 rfl rfl ?_
  refine jr_ladd (q := 90) C dX11_layTold_89 rfl ?_
  refine jr_lload_n (q := 91) C 2 dX11_layTold_90 rfl rfl rfl ?_
  refine jr_ladd (q := 92) C dX11_layTold_91 rfl ?_
  refine jr_lload (q := 94) C 0 dX11_layTold_92 rfl rfl ?_
  refine jr_ladd (q := 95) C dX11_layTold_94 rfl ?_
  refine jr_csI (q := 98) (As := [.long ((x3 * x9) - (x6 * x12)), .long (((x3 + x9) + x6) + x12)]) (rest := [.ref (z + mm_ad 26 0)]) C  (kX11_down l ((x3 * x9) - (x6 * x12)) (((x3 + x9) + x6) + x12)) rfl gX11_layTold_X11_down rfl dsc_X11_down ⟨rfl, rfl⟩ ⟨by decide, by decide⟩ rfl rfl (Nat.le_of_ble_eq_true rfl) dX11_layTold_95 rfl h (fun r17 μ16 h => ?_)
  refine jr_putI (q := 101) (ci := 11) (Cn := RX11) (T := TX11) (N := 42) (j := 24) C mf_26 rfl rfl (by decide) rfl rfl tyX11 tyX11_ok nmX11 rfl (by decide +kernel) nX11_layTold_11 mX11_layTold_4 dX11_layTold_98 rfl rfl ?_
  refine jn_mem (fun μ18 eμ18 => ?_)
  replace h := h μ18 eμ18
  exact jr_vret C hr hk dX11_layTold_101 h
theorem nX11_exchangeNow_11 : ∀ w ∈ wsX110, w ∈ wsX11_exchangeNow := fun _ h => List.mem_cons_of_mem _ (List.mem_append_right _ h)
theorem mX11_exchangeNow_1 : Cond.fieldLink RX11 208 RX11 (TX11 27).2.1 (TX11 27).2.2.1 ∈ wsX11_exchangeNow := List.mem_of_getElem? (i := 1) (by decide +kernel)
theorem mX11_exchangeNow_2 : Cond.fieldLink RX11 226 RX11 (TX11 21).2.1 (TX11 21).2.2.1 ∈ wsX11_exchangeNow := List.mem_of_getElem? (i := 5) (by decide +kernel)
theorem mX11_exchangeNow_3 : Cond.fieldLink RX11 229 RX11 (TX11 22).2.1 (TX11 22).2.2.1 ∈ wsX11_exchangeNow := List.mem_of_getElem? (i := 6) (by decide +kernel)
theorem mX11_exchangeNow_4 : Cond.fieldLink RX11 149 RX11 (TX11 20).2.1 (TX11 20).2.2.1 ∈ wsX11_exchangeNow := List.mem_of_getElem? (i := 7) (by decide +kernel)
theorem mX11_exchangeNow_5 : Cond.fieldLink RX11 50 RX11 (TX11 15).2.1 (TX11 15).2.2.1 ∈ wsX11_exchangeNow := List.mem_of_getElem? (i := 8) (by decide +kernel)
theorem mX11_exchangeNow_6 : Cond.fieldLink RX11 205 RX11 (TX11 24).2.1 (TX11 24).2.2.1 ∈ wsX11_exchangeNow := List.mem_of_getElem? (i := 9) (by decide +kernel)
theorem mX11_exchangeNow_7 : Cond.fieldLink RX11 47 RX11 (TX11 14).2.1 (TX11 14).2.2.1 ∈ wsX11_exchangeNow := List.mem_of_getElem? (i := 10) (by decide +kernel)
theorem mX11_exchangeNow_8 : Cond.fieldLink RX11 56 RX11 (TX11 25).2.1 (TX11 25).2.2.1 ∈ wsX11_exchangeNow := List.mem_of_getElem? (i := 11) (by decide +kernel)
theorem mX11_exchangeNow_9 : Cond.fieldLink RX11 140 RX11 (TX11 17).2.1 (TX11 17).2.2.1 ∈ wsX11_exchangeNow := List.mem_of_getElem? (i := 3) (by decide +kernel)
theorem mX11_exchangeNow_10 : Cond.fieldLink RX11 211 RX11 (TX11 28).2.1 (TX11 28).2.2.1 ∈ wsX11_exchangeNow := List.mem_of_getElem? (i := 2) (by decide +kernel)
theorem mX11_exchangeNow_11 : Cond.constant RX11 214 (-1000005) ∈ wsX11_exchangeNow := List.mem_of_getElem? (i := 4) (by decide +kernel)
theorem dsc_X11_exchangeNow : yX11_exchangeNow.cls ≠ "java/lang/invoke/MethodHandle" ∧ yX11_exchangeNow.cls ≠ "java/lang/invoke/VarHandle" ∧ (parseMethodDescriptor yX11_exchangeNow.desc).map (fun d => d.parameters.length) = some 2 := by decide +kernel
def pX11_exchangeNow (Po : Int32 → mm_T → Prop) (μ : mm_T) (p1 : Int32) (p2 : Int32) : Prop := pX11_firstExtra (fun r2 μ1 => ∀ μ3 : mm_T, μ3 = mm_I μ1 26 0 27 ((μ1.1 26 0 27) + (1 : Int32)) → ((¬ r2 = (-1 : Int32) → pX11_flightOf (fun r5 μ4 => pX11_layTimes (fun μ6 => pX11_layStamps (fun μ7 => pX11_layTold (fun μ8 => ∀ μ9 : mm_T, μ9 = mm_I μ8 26 0 21 p1 → (∀ μ10 : mm_T, μ10 = mm_I μ9 26 0 22 p2 → (∀ μ11 : mm_T, μ11 = mm_I μ10 26 0 20 (1 : Int32) → (pX11_pairOf (fun r13 μ12 => (vp_in r13 49) ∧ (∀ μ15 : mm_T, μ15 = mm_I μ12 40 0 r13.toNatClampNeg (μ12.1 26 0 24) → (pX11_pairOf (fun r17 μ16 => (vp_in r17 49) ∧ (∀ μ19 : mm_T, μ19 = mm_I μ16 39 0 r17.toNatClampNeg (1 : Int32) → ((vp_in (6 : Int32) 7) ∧ (∀ μ21 : mm_T, μ21 = mm_I μ19 26 0 17 ((μ19.1 42 0 (6 : Int32).toNatClampNeg) + (10 : Int32)) → (Po (μ21.1 26 0 24) μ21))))) μ15 p1 p2))) μ11 p1 p2)))) μ7 ) μ6 p1 p2) μ4 p1 p2 (r5 + r2)) μ3 p1 p2) ∧ (r2 = (-1 : Int32) → ∀ μ22 : mm_T, μ22 = mm_I μ3 26 0 28 ((μ3.1 26 0 28) + (1 : Int32)) → (∀ μ23 : mm_T, μ23 = mm_I μ22 26 0 17 ((μ22.1 26 0 17) + (1 : Int32)) → (Po (-1000005 : Int32) μ23))))) μ p1 p2
set_option maxHeartbeats 4000000 in
set_option maxRecDepth 100000 in
theorem kX11_exchangeNow (l : Launch) (p1 : Int32) (p2 : Int32) : mm_CI l yX11_exchangeNow wsX11_exchangeNow ({ frames := 3, cells := 0, slots := 0, locals := 71 }) (fun z => [.ref (z + mm_ad 26 0), .int p1, .int p2]) (fun μ Po => pX11_exchangeNow Po μ p1 p2) := by
  refine je_I (cc := cX11_exchangeNow) (nL := 4) (own := RX11) (plainFor_of_name (by decide)) rfl rfl (fun _ => Nat.le_of_ble_eq_true rfl) ?_
  intro p e s m args below meth c D cy z μ Po C hr hk h
  change jJ p l e ({ frames := 3, cells := 0, slots := 0, locals := 71 }) s m args below meth c D cy z (MQ below (va_Qi Po (mm_Po D cy z) (mm_A z)) args s 0 0 (mm_A z)) 4 μ 0 [(0, .ref (z + mm_ad 26 0)), (1, .int p1), (2, .int p2)] []
  replace h : pX11_exchangeNow Po μ p1 p2 := h
  unfold pX11_exchangeNow at h
  refine jr_aload_n (q := 1) C 0 dX11_exchangeNow_0 rfl rfl rfl ?_
  refine jr_iload_n (q := 2) C 1 dX11_exchangeNow_1 rfl rfl rfl ?_
  refine jr_iload_n (q := 3) C 2 dX11_exchangeNow_2 rfl rfl rfl ?_
  refine jr_cvI (q := 6) (As := [.int p1, .int p2]) (rest := []) C (f := 26) (i := 0) (ci := 11) mf_26 rfl rfl rfl (kX11_firstExtra l p1 p2) rfl gX11_exchangeNow_X11_firstExtra rfl dsc_X11_firstExtra ⟨rfl, rfl⟩ ⟨by decide, by decide⟩ rfl rfl (Nat.le_of_ble_eq_true rfl) dX11_exchangeNow_3 rfl h (fun r2 μ1 h => ?_)
  refine jr_istore_n (q := 7) (lv' := [(3, .int r2), (0, .ref (z + mm_ad 26 0)), (1, .int p1), (2, .int p2)]) C dX11_exchangeNow_6 rfl (by decide) rfl rfl ?_
  refine jr_aload_n (q := 8) C 1 dX11_exchangeNow_7 rfl rfl rfl ?_
  refine jr_dup (q := 9) C dX11_exchangeNow_8 rfl rfl ?_
  refine jr_getI (q := 12) (ci := 11) (Cn := RX11) (T := TX11) (N := 42) (j := 27) C mf_26 rfl rfl (by decide) rfl rfl nX11_exchangeNow_11 mX11_exchangeNow_1 dX11_exchangeNow_9 rfl rfl ?_
  refine jr_iconst (q := 13) (v := (1 : Int32)) C dX11_exchangeNow_12 (by decide) rfl ?_
  refine jr_iadd (q := 14) C dX11_exchangeNow_13 rfl ?_
  refine jr_putI (q := 17) (ci := 11) (Cn := RX11) (T := TX11) (N := 42) (j := 27) C mf_26 rfl rfl (by decide) rfl rfl tyX11 tyX11_ok nmX11 rfl (by decide +kernel) nX11_exchangeNow_11 mX11_exchangeNow_1 dX11_exchangeNow_14 rfl rfl ?_
  refine jn_mem (fun μ3 eμ3 => ?_)
  replace h := h μ3 eμ3
  refine jr_iload_n (q := 18) C 0 dX11_exchangeNow_17 rfl rfl rfl ?_
  refine jr_iconst (q := 19) (v := (-1 : Int32)) C dX11_exchangeNow_18 (by decide) rfl ?_
  refine jr_icmp_ne (q := 22) (tgt := 45) C dX11_exchangeNow_19 (by decide) rfl (fun c24 => ?_) (fun c24 => ?_)
  · replace h := h.1 c24
    refine jr_aload_n (q := 46) C 1 dX11_exchangeNow_45 rfl rfl rfl ?_
    refine jr_iload_n (q := 47) C 2 dX11_exchangeNow_46 rfl rfl rfl ?_
    refine jr_iload_n (q := 48) C 3 dX11_exchangeNow_47 rfl rfl rfl ?_
    refine jr_aload_n (q := 49) C 1 dX11_exchangeNow_48 rfl rfl rfl ?_
    refine jr_iload_n (q := 50) C 2 dX11_exchangeNow_49 rfl rfl rfl ?_
    refine jr_iload_n (q := 51) C 3 dX11_exchangeNow_50 rfl rfl rfl ?_
    refine jr_cvI (q := 54) (As := [.int p1, .int p2]) (rest := [.int p2, .int p1, .ref (z + mm_ad 26 0)]) C (f := 26) (i := 0) (ci := 11) mf_26 rfl rfl rfl (kX11_flightOf l p1 p2) rfl gX11_exchangeNow_X11_flightOf rfl dsc_X11_flightOf ⟨rfl, rfl⟩ ⟨by decide, by decide⟩ rfl rfl (Nat.le_of_ble_eq_true rfl) dX11_exchangeNow_51 rfl h (fun r5 μ4 h => ?_)
    refine jr_iload_n (q := 55) C 0 dX11_exchangeNow_54 rfl rfl rfl ?_
    refine jr_iadd (q := 56) C dX11_exchangeNow_55 rfl ?_
    refine jr_cvV (q := 59) (As := [.int p1, .int p2, .int (r5 + r2)]) (rest := []) C (f := 26) (i := 0) (ci := 11) mf_26 rfl rfl rfl (kX11_layTimes l p1 p2 (r5 + r2)) rfl gX11_exchangeNow_X11_layTimes rfl dsc_X11_layTimes ⟨rfl, rfl⟩ ⟨by decide, by decide⟩ rfl rfl (Nat.le_of_ble_eq_true rfl) dX11_exchangeNow_56 rfl h (fun μ6 h => ?_)
    refine jr_aload_n (q := 60) C 1 dX11_exchangeNow_59 rfl rfl rfl ?_
    refine jr_iload_n (q := 61) C 2 dX11_exchangeNow_60 rfl rfl rfl ?_
    refine jr_iload_n (q := 62) C 3 dX11_exchangeNow_61 rfl rfl rfl ?_
    refine jr_cvV (q := 65) (As := [.int p1, .int p2]) (rest := []) C (f := 26) (i := 0) (ci := 11) mf_26 rfl rfl rfl (kX11_layStamps l p1 p2) rfl gX11_exchangeNow_X11_layStamps rfl dsc_X11_layStamps ⟨rfl, rfl⟩ ⟨by decide, by decide⟩ rfl rfl (Nat.le_of_ble_eq_true rfl) dX11_exchangeNow_62 rfl h (fun μ7 h => ?_)
    refine jr_aload_n (q := 66) C 1 dX11_exchangeNow_65 rfl rfl rfl ?_
    refine jr_cvV (q := 69) (As := []) (rest := []) C (f := 26) (i := 0) (ci := 11) mf_26 rfl rfl rfl (kX11_layTold l) rfl gX11_exchangeNow_X11_layTold rfl dsc_X11_layTold ⟨rfl, rfl⟩ ⟨by decide, by decide⟩ rfl rfl (Nat.le_of_ble_eq_true rfl) dX11_exchangeNow_66 rfl h (fun μ8 h => ?_)
    refine jr_aload_n (q := 70) C 1 dX11_exchangeNow_69 rfl rfl rfl ?_
    refine jr_iload_n (q := 71) C 2 dX11_exchangeNow_70 rfl rfl rfl ?_
    refine jr_putI (q := 74) (ci := 11) (Cn := RX11) (T := TX11) (N := 42) (j := 21) C mf_26 rfl rfl (by decide) rfl rfl tyX11 tyX11_ok nmX11 rfl (by decide +kernel) nX11_exchangeNow_11 mX11_exchangeNow_2 dX11_exchangeNow_71 rfl rfl ?_
    refine jn_mem (fun μ9 eμ9 => ?_)
    replace h := h μ9 eμ9
    refine jr_aload_n (q := 75) C 1 dX11_exchangeNow_74 rfl rfl rfl ?_
    refine jr_iload_n (q := 76) C 3 dX11_exchangeNow_75 rfl rfl rfl ?_
    refine jr_putI (q := 79) (ci := 11) (Cn := RX11) (T := TX11) (N := 42) (j := 22) C mf_26 rfl rfl (by decide) rfl rfl tyX11 tyX11_ok nmX11 rfl (by decide +kernel) nX11_exchangeNow_11 mX11_exchangeNow_3 dX11_exchangeNow_76 rfl rfl ?_
    refine jn_mem (fun μ10 eμ10 => ?_)
    replace h := h μ10 eμ10
    refine jr_aload_n (q := 80) C 1 dX11_exchangeNow_79 rfl rfl rfl ?_
    refine jr_iconst (q := 81) (v := (1 : Int32)) C dX11_exchangeNow_80 (by decide) rfl ?_
    refine jr_putZ (q := 84) (ci := 11) (Cn := RX11) (T := TX11) (N := 42) (j := 20) C mf_26 rfl rfl (by decide) rfl (by decide) rfl tyX11 tyX11_ok nmX11 rfl (by decide +kernel) nX11_exchangeNow_11 mX11_exchangeNow_4 dX11_exchangeNow_81 rfl rfl ?_
    refine jn_mem (fun μ11 eμ11 => ?_)
    replace h := h μ11 eμ11
    refine jr_aload_n (q := 85) C 1 dX11_exchangeNow_84 rfl rfl rfl ?_
    refine jr_getR (q := 88) (ci := 11) (Cn := RX11) (T := TX11) (N := 42) (j := 15) C mf_26 rfl rfl (by decide) rfl 40 0 rfl rfl rfl nX11_exchangeNow_11 mX11_exchangeNow_5 dX11_exchangeNow_85 rfl rfl ?_
    refine jr_iload_n (q := 89) C 2 dX11_exchangeNow_88 rfl rfl rfl ?_
    refine jr_iload_n (q := 90) C 3 dX11_exchangeNow_89 rfl rfl rfl ?_
    refine jr_csI (q := 93) (As := [.int p1, .int p2]) (rest := [.ref (z + mm_ad 40 0)]) C  (kX11_pairOf l p1 p2) rfl gX11_exchangeNow_X11_pairOf rfl dsc_X11_pairOf ⟨rfl, rfl⟩ ⟨by decide, by decide⟩ rfl rfl (Nat.le_of_ble_eq_true rfl) dX11_exchangeNow_90 rfl h (fun r13 μ12 h => ?_)
    refine jr_aload_n (q := 94) C 1 dX11_exchangeNow_93 rfl rfl rfl ?_
    refine jr_getI (q := 97) (ci := 11) (Cn := RX11) (T := TX11) (N := 42) (j := 24) C mf_26 rfl rfl (by decide) rfl rfl nX11_exchangeNow_11 mX11_exchangeNow_6 dX11_exchangeNow_94 rfl rfl ?_
    obtain ⟨g14, h⟩ := h
    refine jr_iast (q := 98) C mf_40 rfl g14 dX11_exchangeNow_97 rfl ?_
    refine jn_mem (fun μ15 eμ15 => ?_)
    replace h := h μ15 eμ15
    refine jr_aload_n (q := 99) C 1 dX11_exchangeNow_98 rfl rfl rfl ?_
    refine jr_getR (q := 102) (ci := 11) (Cn := RX11) (T := TX11) (N := 42) (j := 14) C mf_26 rfl rfl (by decide) rfl 39 0 rfl rfl rfl nX11_exchangeNow_11 mX11_exchangeNow_7 dX11_exchangeNow_99 rfl rfl ?_
    refine jr_iload_n (q := 103) C 2 dX11_exchangeNow_102 rfl rfl rfl ?_
    refine jr_iload_n (q := 104) C 3 dX11_exchangeNow_103 rfl rfl rfl ?_
    refine jr_csI (q := 107) (As := [.int p1, .int p2]) (rest := [.ref (z + mm_ad 39 0)]) C  (kX11_pairOf l p1 p2) rfl gX11_exchangeNow_X11_pairOf rfl dsc_X11_pairOf ⟨rfl, rfl⟩ ⟨by decide, by decide⟩ rfl rfl (Nat.le_of_ble_eq_true rfl) dX11_exchangeNow_104 rfl h (fun r17 μ16 h => ?_)
    refine jr_iconst (q := 108) (v := (1 : Int32)) C dX11_exchangeNow_107 (by decide) rfl ?_
    obtain ⟨g18, h⟩ := h
    refine jr_zast (q := 109) C mf_39 (by decide) rfl g18 dX11_exchangeNow_108 rfl ?_
    refine jn_mem (fun μ19 eμ19 => ?_)
    replace h := h μ19 eμ19
    refine jr_aload_n (q := 110) C 1 dX11_exchangeNow_109 rfl rfl rfl ?_
    refine jr_aload_n (q := 111) C 1 dX11_exchangeNow_110 rfl rfl rfl ?_
    refine jr_getR (q := 114) (ci := 11) (Cn := RX11) (T := TX11) (N := 42) (j := 25) C mf_26 rfl rfl (by decide) rfl 42 0 rfl rfl rfl nX11_exchangeNow_11 mX11_exchangeNow_8 dX11_exchangeNow_111 rfl rfl ?_
    refine jr_bipush (q := 116) (v := (6 : Int32)) C dX11_exchangeNow_114 (by decide) rfl ?_
    obtain ⟨g20, h⟩ := h
    refine jr_iald (q := 117) C mf_42 rfl g20 dX11_exchangeNow_116 rfl ?_
    refine jr_bipush (q := 119) (v := (10 : Int32)) C dX11_exchangeNow_117 (by decide) rfl ?_
    refine jr_iadd (q := 120) C dX11_exchangeNow_119 rfl ?_
    refine jr_putI (q := 123) (ci := 11) (Cn := RX11) (T := TX11) (N := 42) (j := 17) C mf_26 rfl rfl (by decide) rfl rfl tyX11 tyX11_ok nmX11 rfl (by decide +kernel) nX11_exchangeNow_11 mX11_exchangeNow_9 dX11_exchangeNow_120 rfl rfl ?_
    refine jn_mem (fun μ21 eμ21 => ?_)
    replace h := h μ21 eμ21
    refine jr_aload_n (q := 124) C 1 dX11_exchangeNow_123 rfl rfl rfl ?_
    refine jr_getI (q := 127) (ci := 11) (Cn := RX11) (T := TX11) (N := 42) (j := 24) C mf_26 rfl rfl (by decide) rfl rfl nX11_exchangeNow_11 mX11_exchangeNow_6 dX11_exchangeNow_124 rfl rfl ?_
    exact jr_iret C hr hk dX11_exchangeNow_127 h
  · replace h := h.2 c24
    refine jr_aload_n (q := 23) C 1 dX11_exchangeNow_22 rfl rfl rfl ?_
    refine jr_dup (q := 24) C dX11_exchangeNow_23 rfl rfl ?_
    refine jr_getI (q := 27) (ci := 11) (Cn := RX11) (T := TX11) (N := 42) (j := 28) C mf_26 rfl rfl (by decide) rfl rfl nX11_exchangeNow_11 mX11_exchangeNow_10 dX11_exchangeNow_24 rfl rfl ?_
    refine jr_iconst (q := 28) (v := (1 : Int32)) C dX11_exchangeNow_27 (by decide) rfl ?_
    refine jr_iadd (q := 29) C dX11_exchangeNow_28 rfl ?_
    refine jr_putI (q := 32) (ci := 11) (Cn := RX11) (T := TX11) (N := 42) (j := 28) C mf_26 rfl rfl (by decide) rfl rfl tyX11 tyX11_ok nmX11 rfl (by decide +kernel) nX11_exchangeNow_11 mX11_exchangeNow_10 dX11_exchangeNow_29 rfl rfl ?_
    refine jn_mem (fun μ22 eμ22 => ?_)
    replace h := h μ22 eμ22
    refine jr_aload_n (q := 33) C 1 dX11_exchangeNow_32 rfl rfl rfl ?_
    refine jr_dup (q := 34) C dX11_exchangeNow_33 rfl rfl ?_
    refine jr_getI (q := 37) (ci := 11) (Cn := RX11) (T := TX11) (N := 42) (j := 17) C mf_26 rfl rfl (by decide) rfl rfl nX11_exchangeNow_11 mX11_exchangeNow_9 dX11_exchangeNow_34 rfl rfl ?_
    refine jr_iconst (q := 38) (v := (1 : Int32)) C dX11_exchangeNow_37 (by decide) rfl ?_
    refine jr_iadd (q := 39) C dX11_exchangeNow_38 rfl ?_
    refine jr_putI (q := 42) (ci := 11) (Cn := RX11) (T := TX11) (N := 42) (j := 17) C mf_26 rfl rfl (by decide) rfl rfl tyX11 tyX11_ok nmX11 rfl (by decide +kernel) nX11_exchangeNow_11 mX11_exchangeNow_9 dX11_exchangeNow_39 rfl rfl ?_
    refine jn_mem (fun μ23 eμ23 => ?_)
    replace h := h μ23 eμ23
    refine jr_ldc (q := 44) (v := (-1000005 : Int32)) C dX11_exchangeNow_42 mX11_exchangeNow_11 rfl ?_
    exact jr_iret C hr hk dX11_exchangeNow_44 h
theorem mX11_exchange_0 : Cond.constant RX11 178 (-1000001) ∈ wsX11_exchange := List.mem_of_getElem? (i := 1) (by decide +kernel)
theorem dsc_X11_exchange : yX11_exchange.cls ≠ "java/lang/invoke/MethodHandle" ∧ yX11_exchange.cls ≠ "java/lang/invoke/VarHandle" ∧ (parseMethodDescriptor yX11_exchange.desc).map (fun d => d.parameters.length) = some 2 := by decide +kernel
def pX11_exchange (Po : Int32 → mm_T → Prop) (μ : mm_T) (p1 : Int32) (p2 : Int32) : Prop := pX11_isPair (fun r2 μ1 => (r2 = 0 → Po (-1000001 : Int32) μ1) ∧ (¬ (r2 = 0) → pX11_exchangeNow (fun r4 μ3 => Po r4 μ3) μ1 p1 p2)) μ p1 p2
set_option maxHeartbeats 4000000 in
set_option maxRecDepth 100000 in
theorem kX11_exchange (l : Launch) (p1 : Int32) (p2 : Int32) : mm_CI l yX11_exchange wsX11_exchange ({ frames := 4, cells := 0, slots := 0, locals := 94 }) (fun z => [.ref (z + mm_ad 26 0), .int p1, .int p2]) (fun μ Po => pX11_exchange Po μ p1 p2) := by
  refine je_I (cc := cX11_exchange) (nL := 3) (own := RX11) (plainFor_of_name (by decide)) rfl rfl (fun _ => Nat.le_of_ble_eq_true rfl) ?_
  intro p e s m args below meth c D cy z μ Po C hr hk h
  change jJ p l e ({ frames := 4, cells := 0, slots := 0, locals := 94 }) s m args below meth c D cy z (MQ below (va_Qi Po (mm_Po D cy z) (mm_A z)) args s 0 0 (mm_A z)) 3 μ 0 [(0, .ref (z + mm_ad 26 0)), (1, .int p1), (2, .int p2)] []
  replace h : pX11_exchange Po μ p1 p2 := h
  unfold pX11_exchange at h
  refine jr_aload_n (q := 1) C 0 dX11_exchange_0 rfl rfl rfl ?_
  refine jr_iload_n (q := 2) C 1 dX11_exchange_1 rfl rfl rfl ?_
  refine jr_iload_n (q := 3) C 2 dX11_exchange_2 rfl rfl rfl ?_
  refine jr_cvI (q := 6) (As := [.int p1, .int p2]) (rest := []) C (f := 26) (i := 0) (ci := 11) mf_26 rfl rfl rfl (kX11_isPair l p1 p2) rfl gX11_exchange_X11_isPair rfl dsc_X11_isPair ⟨rfl, rfl⟩ ⟨by decide, by decide⟩ rfl rfl (Nat.le_of_ble_eq_true rfl) dX11_exchange_3 rfl h (fun r2 μ1 h => ?_)
  refine jr_if_eq (q := 9) (tgt := 18) C dX11_exchange_6 (by decide) rfl (fun c5 => ?_) (fun c5 => ?_)
  · replace h := h.1 c5
    refine jr_ldc (q := 20) (v := (-1000001 : Int32)) C dX11_exchange_18 mX11_exchange_0 rfl ?_
    exact jr_iret C hr hk dX11_exchange_20 h
  · replace h := h.2 c5
    refine jr_aload_n (q := 10) C 0 dX11_exchange_9 rfl rfl rfl ?_
    refine jr_iload_n (q := 11) C 1 dX11_exchange_10 rfl rfl rfl ?_
    refine jr_iload_n (q := 12) C 2 dX11_exchange_11 rfl rfl rfl ?_
    refine jr_cvI (q := 15) (As := [.int p1, .int p2]) (rest := []) C (f := 26) (i := 0) (ci := 11) mf_26 rfl rfl rfl (kX11_exchangeNow l p1 p2) rfl gX11_exchange_X11_exchangeNow rfl dsc_X11_exchangeNow ⟨rfl, rfl⟩ ⟨by decide, by decide⟩ rfl rfl (Nat.le_of_ble_eq_true rfl) dX11_exchange_12 rfl h (fun r4 μ3 h => ?_)
    refine jr_goto (tgt := 20) C dX11_exchange_15 (by decide) ?_
    exact jr_iret C hr hk dX11_exchange_20 h
theorem mX11_idle_0 : Cond.constant RX11 235 (99999) ∈ wsX11_idle := List.mem_of_getElem? (i := 2) (by decide +kernel)
theorem mX11_idle_1 : Cond.constant RX11 81 (-1000002) ∈ wsX11_idle := List.mem_of_getElem? (i := 5) (by decide +kernel)
theorem nX11_idle_11 : ∀ w ∈ wsX110, w ∈ wsX11_idle := fun _ h => List.mem_cons_of_mem _ (List.mem_append_right _ h)
theorem mX11_idle_3 : Cond.fieldLink RX11 140 RX11 (TX11 17).2.1 (TX11 17).2.2.1 ∈ wsX11_idle := List.mem_of_getElem? (i := 3) (by decide +kernel)
theorem mX11_idle_4 : Cond.constant RX11 236 (9999999) ∈ wsX11_idle := List.mem_of_getElem? (i := 4) (by decide +kernel)
theorem mX11_idle_5 : Cond.constant RX11 152 (-1000003) ∈ wsX11_idle := List.mem_of_getElem? (i := 1) (by decide +kernel)
theorem dsc_X11_idle : yX11_idle.cls ≠ "java/lang/invoke/MethodHandle" ∧ yX11_idle.cls ≠ "java/lang/invoke/VarHandle" ∧ (parseMethodDescriptor yX11_idle.desc).map (fun d => d.parameters.length) = some 1 := by decide +kernel
def pX11_idle (Po : Int32 → mm_T → Prop) (μ : mm_T) (p1 : Int32) : Prop := pX11_isField (fun r2 μ1 => (¬ r2 = 0 → pX11_within (fun r4 μ3 => (r4 = 0 → Po (-1000002 : Int32) μ3) ∧ (¬ (r4 = 0) → (((μ3.1 26 0 17) + p1) ≤ (9999999 : Int32) → ∀ μ5 : mm_T, μ5 = mm_I μ3 26 0 17 ((μ3.1 26 0 17) + p1) → (Po (μ5.1 26 0 17) μ5)) ∧ (¬ (((μ3.1 26 0 17) + p1) ≤ (9999999 : Int32)) → Po (-1000002 : Int32) μ3))) μ1 p1 (0 : Int32) (99999 : Int32)) ∧ (r2 = 0 → Po (-1000003 : Int32) μ1)) μ 
set_option maxHeartbeats 4000000 in
set_option maxRecDepth 100000 in
theorem kX11_idle (l : Launch) (p1 : Int32) : mm_CI l yX11_idle wsX11_idle ({ frames := 1, cells := 0, slots := 0, locals := 22 }) (fun z => [.ref (z + mm_ad 26 0), .int p1]) (fun μ Po => pX11_idle Po μ p1) := by
  refine je_I (cc := cX11_idle) (nL := 2) (own := RX11) (plainFor_of_name (by decide)) rfl rfl (fun _ => Nat.le_of_ble_eq_true rfl) ?_
  intro p e s m args below meth c D cy z μ Po C hr hk h
  change jJ p l e ({ frames := 1, cells := 0, slots := 0, locals := 22 }) s m args below meth c D cy z (MQ below (va_Qi Po (mm_Po D cy z) (mm_A z)) args s 0 0 (mm_A z)) 2 μ 0 [(0, .ref (z + mm_ad 26 0)), (1, .int p1)] []
  replace h : pX11_idle Po μ p1 := h
  unfold pX11_idle at h
  refine jr_aload_n (q := 1) C 0 dX11_idle_0 rfl rfl rfl ?_
  refine jr_cvI (q := 4) (As := []) (rest := []) C (f := 26) (i := 0) (ci := 11) mf_26 rfl rfl rfl (kX11_isField l) rfl gX11_idle_X11_isField rfl dsc_X11_isField ⟨rfl, rfl⟩ ⟨by decide, by decide⟩ rfl rfl (Nat.le_of_ble_eq_true rfl) dX11_idle_1 rfl h (fun r2 μ1 h => ?_)
  refine jr_if_ne (q := 7) (tgt := 10) C dX11_idle_4 (by decide) rfl (fun c8 => ?_) (fun c8 => ?_)
  · replace h := h.1 c8
    refine jr_iload_n (q := 11) C 1 dX11_idle_10 rfl rfl rfl ?_
    refine jr_iconst (q := 12) (v := (0 : Int32)) C dX11_idle_11 (by decide) rfl ?_
    refine jr_ldc (q := 14) (v := (99999 : Int32)) C dX11_idle_12 mX11_idle_0 rfl ?_
    refine jr_csI (q := 17) (As := [.int p1, .int (0 : Int32), .int (99999 : Int32)]) (rest := []) C  (kX11_within l p1 (0 : Int32) (99999 : Int32)) rfl gX11_idle_X11_within rfl dsc_X11_within ⟨rfl, rfl⟩ ⟨by decide, by decide⟩ rfl rfl (Nat.le_of_ble_eq_true rfl) dX11_idle_14 rfl h (fun r4 μ3 h => ?_)
    refine jr_if_eq (q := 20) (tgt := 31) C dX11_idle_17 (by decide) rfl (fun c7 => ?_) (fun c7 => ?_)
    · replace h := h.1 c7
      refine jr_ldc (q := 33) (v := (-1000002 : Int32)) C dX11_idle_31 mX11_idle_1 rfl ?_
      exact jr_iret C hr hk dX11_idle_33 h
    · replace h := h.2 c7
      refine jr_aload_n (q := 21) C 0 dX11_idle_20 rfl rfl rfl ?_
      refine jr_getI (q := 24) (ci := 11) (Cn := RX11) (T := TX11) (N := 42) (j := 17) C mf_26 rfl rfl (by decide) rfl rfl nX11_idle_11 mX11_idle_3 dX11_idle_21 rfl rfl ?_
      refine jr_iload_n (q := 25) C 1 dX11_idle_24 rfl rfl rfl ?_
      refine jr_iadd (q := 26) C dX11_idle_25 rfl ?_
      refine jr_ldc (q := 28) (v := (9999999 : Int32)) C dX11_idle_26 mX11_idle_4 rfl ?_
      refine jr_icmp_le (q := 31) (tgt := 34) C dX11_idle_28 (by decide) rfl (fun c6 => ?_) (fun c6 => ?_)
      · replace h := h.1 c6
        refine jr_aload_n (q := 35) C 0 dX11_idle_34 rfl rfl rfl ?_
        refine jr_dup (q := 36) C dX11_idle_35 rfl rfl ?_
        refine jr_getI (q := 39) (ci := 11) (Cn := RX11) (T := TX11) (N := 42) (j := 17) C mf_26 rfl rfl (by decide) rfl rfl nX11_idle_11 mX11_idle_3 dX11_idle_36 rfl rfl ?_
        refine jr_iload_n (q := 40) C 1 dX11_idle_39 rfl rfl rfl ?_
        refine jr_iadd (q := 41) C dX11_idle_40 rfl ?_
        refine jr_putI (q := 44) (ci := 11) (Cn := RX11) (T := TX11) (N := 42) (j := 17) C mf_26 rfl rfl (by decide) rfl rfl tyX11 tyX11_ok nmX11 rfl (by decide +kernel) nX11_idle_11 mX11_idle_3 dX11_idle_41 rfl rfl ?_
        refine jn_mem (fun μ5 eμ5 => ?_)
        replace h := h μ5 eμ5
        refine jr_aload_n (q := 45) C 0 dX11_idle_44 rfl rfl rfl ?_
        refine jr_getI (q := 48) (ci := 11) (Cn := RX11) (T := TX11) (N := 42) (j := 17) C mf_26 rfl rfl (by decide) rfl rfl nX11_idle_11 mX11_idle_3 dX11_idle_45 rfl rfl ?_
        exact jr_iret C hr hk dX11_idle_48 h
      · replace h := h.2 c6
        refine jr_ldc (q := 33) (v := (-1000002 : Int32)) C dX11_idle_31 mX11_idle_1 rfl ?_
        exact jr_iret C hr hk dX11_idle_33 h
  · replace h := h.2 c8
    refine jr_ldc (q := 9) (v := (-1000003 : Int32)) C dX11_idle_7 mX11_idle_5 rfl ?_
    exact jr_iret C hr hk dX11_idle_9 h
theorem nX11_lastNow_11 : ∀ w ∈ wsX110, w ∈ wsX11_lastNow := fun _ h => List.mem_cons_of_mem _ (List.mem_append_right _ h)
theorem mX11_lastNow_1 : Cond.fieldLink RX11 202 RX11 (TX11 23).2.1 (TX11 23).2.2.1 ∈ wsX11_lastNow := List.mem_of_getElem? (i := 1) (by decide +kernel)
theorem mX11_lastNow_2 : Cond.fieldLink RX11 205 RX11 (TX11 24).2.1 (TX11 24).2.2.1 ∈ wsX11_lastNow := List.mem_of_getElem? (i := 2) (by decide +kernel)
theorem mX11_lastNow_3 : Cond.fieldLink RX11 226 RX11 (TX11 21).2.1 (TX11 21).2.2.1 ∈ wsX11_lastNow := List.mem_of_getElem? (i := 3) (by decide +kernel)
theorem mX11_lastNow_4 : Cond.fieldLink RX11 229 RX11 (TX11 22).2.1 (TX11 22).2.2.1 ∈ wsX11_lastNow := List.mem_of_getElem? (i := 4) (by decide +kernel)
theorem mX11_lastNow_5 : Cond.fieldLink RX11 59 RX11 (TX11 26).2.1 (TX11 26).2.2.1 ∈ wsX11_lastNow := List.mem_of_getElem? (i := 5) (by decide +kernel)
theorem dsc_X11_lastNow : yX11_lastNow.cls ≠ "java/lang/invoke/MethodHandle" ∧ yX11_lastNow.cls ≠ "java/lang/invoke/VarHandle" ∧ (parseMethodDescriptor yX11_lastNow.desc).map (fun d => d.parameters.length) = some 1 := by decide +kernel
def pX11_lastNow (Po : Int32 → mm_T → Prop) (μ : mm_T) (p1 : Int32) : Prop := (p1 = (7 : Int32) → Po (μ.1 26 0 23) μ) ∧ (p1 = (8 : Int32) → Po (μ.1 26 0 24) μ) ∧ (p1 = (9 : Int32) → pX11_flightOf (fun r2 μ1 => Po r2 μ1) μ (μ.1 26 0 21) (μ.1 26 0 22)) ∧ (p1 = (10 : Int32) → Po (μ.1 26 0 21) μ) ∧ (p1 = (11 : Int32) → Po (μ.1 26 0 22) μ) ∧ (¬ p1 = (7 : Int32) → ¬ p1 = (8 : Int32) → ¬ p1 = (9 : Int32) → ¬ p1 = (10 : Int32) → ¬ p1 = (11 : Int32) → (vp_in p1 7) ∧ (Po (μ.1 43 0 p1.toNatClampNeg) μ))
set_option maxHeartbeats 4000000 in
set_option maxRecDepth 100000 in
theorem kX11_lastNow (l : Launch) (p1 : Int32) : mm_CI l yX11_lastNow wsX11_lastNow ({ frames := 3, cells := 0, slots := 0, locals := 64 }) (fun z => [.ref (z + mm_ad 26 0), .int p1]) (fun μ Po => pX11_lastNow Po μ p1) := by
  refine je_I (cc := cX11_lastNow) (nL := 2) (own := RX11) (plainFor_of_name (by decide)) rfl rfl (fun _ => Nat.le_of_ble_eq_true rfl) ?_
  intro p e s m args below meth c D cy z μ Po C hr hk h
  change jJ p l e ({ frames := 3, cells := 0, slots := 0, locals := 64 }) s m args below meth c D cy z (MQ below (va_Qi Po (mm_Po D cy z) (mm_A z)) args s 0 0 (mm_A z)) 2 μ 0 [(0, .ref (z + mm_ad 26 0)), (1, .int p1)] []
  replace h : pX11_lastNow Po μ p1 := h
  unfold pX11_lastNow at h
  refine jr_iload_n (q := 1) C 1 dX11_lastNow_0 rfl rfl rfl ?_
  by_cases w7 : p1 = (7 : Int32)
  · replace h := h.1 w7
    refine jr_tabI (tgt := 36) C (7 : Int32) w7 dX11_lastNow_1 (by decide) (by decide) rfl (by decide) ?_
    refine jr_aload_n (q := 37) C 0 dX11_lastNow_36 rfl rfl rfl ?_
    refine jr_getI (q := 40) (ci := 11) (Cn := RX11) (T := TX11) (N := 42) (j := 23) C mf_26 rfl rfl (by decide) rfl rfl nX11_lastNow_11 mX11_lastNow_1 dX11_lastNow_37 rfl rfl ?_
    exact jr_iret C hr hk dX11_lastNow_40 h
  by_cases w8 : p1 = (8 : Int32)
  · replace h := h.2.1 w8
    refine jr_tabI (tgt := 41) C (8 : Int32) w8 dX11_lastNow_1 (by decide) (by decide) rfl (by decide) ?_
    refine jr_aload_n (q := 42) C 0 dX11_lastNow_41 rfl rfl rfl ?_
    refine jr_getI (q := 45) (ci := 11) (Cn := RX11) (T := TX11) (N := 42) (j := 24) C mf_26 rfl rfl (by decide) rfl rfl nX11_lastNow_11 mX11_lastNow_2 dX11_lastNow_42 rfl rfl ?_
    exact jr_iret C hr hk dX11_lastNow_45 h
  by_cases w9 : p1 = (9 : Int32)
  · replace h := h.2.2.1 w9
    refine jr_tabI (tgt := 46) C (9 : Int32) w9 dX11_lastNow_1 (by decide) (by decide) rfl (by decide) ?_
    refine jr_aload_n (q := 47) C 0 dX11_lastNow_46 rfl rfl rfl ?_
    refine jr_aload_n (q := 48) C 0 dX11_lastNow_47 rfl rfl rfl ?_
    refine jr_getI (q := 51) (ci := 11) (Cn := RX11) (T := TX11) (N := 42) (j := 21) C mf_26 rfl rfl (by decide) rfl rfl nX11_lastNow_11 mX11_lastNow_3 dX11_lastNow_48 rfl rfl ?_
    refine jr_aload_n (q := 52) C 0 dX11_lastNow_51 rfl rfl rfl ?_
    refine jr_getI (q := 55) (ci := 11) (Cn := RX11) (T := TX11) (N := 42) (j := 22) C mf_26 rfl rfl (by decide) rfl rfl nX11_lastNow_11 mX11_lastNow_4 dX11_lastNow_52 rfl rfl ?_
    refine jr_cvI (q := 58) (As := [.int (μ.1 26 0 21), .int (μ.1 26 0 22)]) (rest := []) C (f := 26) (i := 0) (ci := 11) mf_26 rfl rfl rfl (kX11_flightOf l (μ.1 26 0 21) (μ.1 26 0 22)) rfl gX11_lastNow_X11_flightOf rfl dsc_X11_flightOf ⟨rfl, rfl⟩ ⟨by decide, by decide⟩ rfl rfl (Nat.le_of_ble_eq_true rfl) dX11_lastNow_55 rfl h (fun r2 μ1 h => ?_)
    exact jr_iret C hr hk dX11_lastNow_58 h
  by_cases w10 : p1 = (10 : Int32)
  · replace h := h.2.2.2.1 w10
    refine jr_tabI (tgt := 59) C (10 : Int32) w10 dX11_lastNow_1 (by decide) (by decide) rfl (by decide) ?_
    refine jr_aload_n (q := 60) C 0 dX11_lastNow_59 rfl rfl rfl ?_
    refine jr_getI (q := 63) (ci := 11) (Cn := RX11) (T := TX11) (N := 42) (j := 21) C mf_26 rfl rfl (by decide) rfl rfl nX11_lastNow_11 mX11_lastNow_3 dX11_lastNow_60 rfl rfl ?_
    exact jr_iret C hr hk dX11_lastNow_63 h
  by_cases w11 : p1 = (11 : Int32)
  · replace h := h.2.2.2.2.1 w11
    refine jr_tabI (tgt := 64) C (11 : Int32) w11 dX11_lastNow_1 (by decide) (by decide) rfl (by decide) ?_
    refine jr_aload_n (q := 65) C 0 dX11_lastNow_64 rfl rfl rfl ?_
    refine jr_getI (q := 68) (ci := 11) (Cn := RX11) (T := TX11) (N := 42) (j := 22) C mf_26 rfl rfl (by decide) rfl rfl nX11_lastNow_11 mX11_lastNow_4 dX11_lastNow_65 rfl rfl ?_
    exact jr_iret C hr hk dX11_lastNow_68 h
  replace h := h.2.2.2.2.2 w7 w8 w9 w10 w11
  have vw7 := lv_neT (a := 7) w7 (by decide)
  have vw8 := lv_neT (a := 8) w8 (by decide)
  have vw9 := lv_neT (a := 9) w9 (by decide)
  have vw10 := lv_neT (a := 10) w10 (by decide)
  have vw11 := lv_neT (a := 11) w11 (by decide)
  refine jr_tabO (tgt := 69) C dX11_lastNow_1 (by omega) (by decide) ?_
  refine jr_aload_n (q := 70) C 0 dX11_lastNow_69 rfl rfl rfl ?_
  refine jr_getR (q := 73) (ci := 11) (Cn := RX11) (T := TX11) (N := 42) (j := 26) C mf_26 rfl rfl (by decide) rfl 43 0 rfl rfl rfl nX11_lastNow_11 mX11_lastNow_5 dX11_lastNow_70 rfl rfl ?_
  refine jr_iload_n (q := 74) C 1 dX11_lastNow_73 rfl rfl rfl ?_
  obtain ⟨g3, h⟩ := h
  refine jr_iald (q := 75) C mf_43 rfl g3 dX11_lastNow_74 rfl ?_
  exact jr_iret C hr hk dX11_lastNow_75 h
theorem nX11_last_11 : ∀ w ∈ wsX110, w ∈ wsX11_last := fun _ h => List.mem_cons_of_mem _ (List.mem_append_right _ h)
theorem mX11_last_1 : Cond.fieldLink RX11 149 RX11 (TX11 20).2.1 (TX11 20).2.2.1 ∈ wsX11_last := List.mem_of_getElem? (i := 2) (by decide +kernel)
theorem mX11_last_2 : Cond.constant RX11 152 (-1000003) ∈ wsX11_last := List.mem_of_getElem? (i := 3) (by decide +kernel)
theorem mX11_last_3 : Cond.constant RX11 81 (-1000002) ∈ wsX11_last := List.mem_of_getElem? (i := 1) (by decide +kernel)
theorem dsc_X11_last : yX11_last.cls ≠ "java/lang/invoke/MethodHandle" ∧ yX11_last.cls ≠ "java/lang/invoke/VarHandle" ∧ (parseMethodDescriptor yX11_last.desc).map (fun d => d.parameters.length) = some 1 := by decide +kernel
def pX11_last (Po : Int32 → mm_T → Prop) (μ : mm_T) (p1 : Int32) : Prop := pX11_within (fun r2 μ1 => (¬ r2 = 0 → ((μ1.1 26 0 20) = 0 → Po (-1000003 : Int32) μ1) ∧ (¬ ((μ1.1 26 0 20) = 0) → pX11_lastNow (fun r4 μ3 => Po r4 μ3) μ1 p1)) ∧ (r2 = 0 → Po (-1000002 : Int32) μ1)) μ p1 (1 : Int32) (11 : Int32)
set_option maxHeartbeats 4000000 in
set_option maxRecDepth 100000 in
theorem kX11_last (l : Launch) (p1 : Int32) : mm_CI l yX11_last wsX11_last ({ frames := 4, cells := 0, slots := 0, locals := 85 }) (fun z => [.ref (z + mm_ad 26 0), .int p1]) (fun μ Po => pX11_last Po μ p1) := by
  refine je_I (cc := cX11_last) (nL := 2) (own := RX11) (plainFor_of_name (by decide)) rfl rfl (fun _ => Nat.le_of_ble_eq_true rfl) ?_
  intro p e s m args below meth c D cy z μ Po C hr hk h
  change jJ p l e ({ frames := 4, cells := 0, slots := 0, locals := 85 }) s m args below meth c D cy z (MQ below (va_Qi Po (mm_Po D cy z) (mm_A z)) args s 0 0 (mm_A z)) 2 μ 0 [(0, .ref (z + mm_ad 26 0)), (1, .int p1)] []
  replace h : pX11_last Po μ p1 := h
  unfold pX11_last at h
  refine jr_iload_n (q := 1) C 1 dX11_last_0 rfl rfl rfl ?_
  refine jr_iconst (q := 2) (v := (1 : Int32)) C dX11_last_1 (by decide) rfl ?_
  refine jr_bipush (q := 4) (v := (11 : Int32)) C dX11_last_2 (by decide) rfl ?_
  refine jr_csI (q := 7) (As := [.int p1, .int (1 : Int32), .int (11 : Int32)]) (rest := []) C  (kX11_within l p1 (1 : Int32) (11 : Int32)) rfl gX11_last_X11_within rfl dsc_X11_within ⟨rfl, rfl⟩ ⟨by decide, by decide⟩ rfl rfl (Nat.le_of_ble_eq_true rfl) dX11_last_4 rfl h (fun r2 μ1 h => ?_)
  refine jr_if_ne (q := 10) (tgt := 13) C dX11_last_7 (by decide) rfl (fun c6 => ?_) (fun c6 => ?_)
  · replace h := h.1 c6
    refine jr_aload_n (q := 14) C 0 dX11_last_13 rfl rfl rfl ?_
    refine jr_getI (q := 17) (ci := 11) (Cn := RX11) (T := TX11) (N := 42) (j := 20) C mf_26 rfl rfl (by decide) rfl rfl nX11_last_11 mX11_last_1 dX11_last_14 rfl rfl ?_
    refine jr_if_eq (q := 20) (tgt := 28) C dX11_last_17 (by decide) rfl (fun c5 => ?_) (fun c5 => ?_)
    · replace h := h.1 c5
      refine jr_ldc (q := 30) (v := (-1000003 : Int32)) C dX11_last_28 mX11_last_2 rfl ?_
      exact jr_iret C hr hk dX11_last_30 h
    · replace h := h.2 c5
      refine jr_aload_n (q := 21) C 0 dX11_last_20 rfl rfl rfl ?_
      refine jr_iload_n (q := 22) C 1 dX11_last_21 rfl rfl rfl ?_
      refine jr_cvI (q := 25) (As := [.int p1]) (rest := []) C (f := 26) (i := 0) (ci := 11) mf_26 rfl rfl rfl (kX11_lastNow l p1) rfl gX11_last_X11_lastNow rfl dsc_X11_lastNow ⟨rfl, rfl⟩ ⟨by decide, by decide⟩ rfl rfl (Nat.le_of_ble_eq_true rfl) dX11_last_22 rfl h (fun r4 μ3 h => ?_)
      refine jr_goto (tgt := 30) C dX11_last_25 (by decide) ?_
      exact jr_iret C hr hk dX11_last_30 h
  · replace h := h.2 c6
    refine jr_ldc (q := 12) (v := (-1000002 : Int32)) C dX11_last_10 mX11_last_3 rfl ?_
    exact jr_iret C hr hk dX11_last_12 h
theorem nX11_heardNow_11 : ∀ w ∈ wsX110, w ∈ wsX11_heardNow := fun _ h => List.mem_cons_of_mem _ (List.mem_append_right _ h)
theorem mX11_heardNow_1 : Cond.fieldLink RX11 56 RX11 (TX11 25).2.1 (TX11 25).2.2.1 ∈ wsX11_heardNow := List.mem_of_getElem? (i := 1) (by decide +kernel)
theorem mX11_heardNow_2 : Cond.fieldLink RX11 229 RX11 (TX11 22).2.1 (TX11 22).2.2.1 ∈ wsX11_heardNow := List.mem_of_getElem? (i := 2) (by decide +kernel)
theorem mX11_heardNow_3 : Cond.fieldLink RX11 226 RX11 (TX11 21).2.1 (TX11 21).2.2.1 ∈ wsX11_heardNow := List.mem_of_getElem? (i := 3) (by decide +kernel)
theorem mX11_heardNow_4 : Cond.fieldLink RX11 59 RX11 (TX11 26).2.1 (TX11 26).2.2.1 ∈ wsX11_heardNow := List.mem_of_getElem? (i := 4) (by decide +kernel)
theorem mX11_heardNow_5 : Cond.fieldLink RX11 205 RX11 (TX11 24).2.1 (TX11 24).2.2.1 ∈ wsX11_heardNow := List.mem_of_getElem? (i := 5) (by decide +kernel)
theorem dsc_X11_heardNow : yX11_heardNow.cls ≠ "java/lang/invoke/MethodHandle" ∧ yX11_heardNow.cls ≠ "java/lang/invoke/VarHandle" ∧ (parseMethodDescriptor yX11_heardNow.desc).map (fun d => d.parameters.length) = some 1 := by decide +kernel
def pX11_heardNow (Po : Int32 → mm_T → Prop) (μ : mm_T) (p1 : Int32) : Prop := (vp_in (3 : Int32) 7) ∧ (pX11_flightOf (fun r3 μ2 => pX11_clockOf (fun r5 μ4 => (vp_in (1 : Int32) 7) ∧ (pX11_flightOf (fun r8 μ7 => pX11_clockOf (fun r10 μ9 => (vp_in (3 : Int32) 7) ∧ ((vp_in (2 : Int32) 7) ∧ (Po (((r5 - r10) - ((μ9.1 43 0 (3 : Int32).toNatClampNeg) - (μ9.1 43 0 (2 : Int32).toNatClampNeg))) - (μ9.1 26 0 24)) μ9))) μ7 p1 ((μ4.1 42 0 (1 : Int32).toNatClampNeg) + r8)) μ4 p1 (μ4.1 26 0 21))) μ2 p1 ((μ.1 42 0 (3 : Int32).toNatClampNeg) + r3)) μ p1 (μ.1 26 0 22))
set_option maxHeartbeats 4000000 in
set_option maxRecDepth 100000 in
theorem kX11_heardNow (l : Launch) (p1 : Int32) : mm_CI l yX11_heardNow wsX11_heardNow ({ frames := 3, cells := 0, slots := 0, locals := 64 }) (fun z => [.ref (z + mm_ad 26 0), .int p1]) (fun μ Po => pX11_heardNow Po μ p1) := by
  refine je_I (cc := cX11_heardNow) (nL := 4) (own := RX11) (plainFor_of_name (by decide)) rfl rfl (fun _ => Nat.le_of_ble_eq_true rfl) ?_
  intro p e s m args below meth c D cy z μ Po C hr hk h
  change jJ p l e ({ frames := 3, cells := 0, slots := 0, locals := 64 }) s m args below meth c D cy z (MQ below (va_Qi Po (mm_Po D cy z) (mm_A z)) args s 0 0 (mm_A z)) 4 μ 0 [(0, .ref (z + mm_ad 26 0)), (1, .int p1)] []
  replace h : pX11_heardNow Po μ p1 := h
  unfold pX11_heardNow at h
  refine jr_aload_n (q := 1) C 0 dX11_heardNow_0 rfl rfl rfl ?_
  refine jr_iload_n (q := 2) C 1 dX11_heardNow_1 rfl rfl rfl ?_
  refine jr_aload_n (q := 3) C 0 dX11_heardNow_2 rfl rfl rfl ?_
  refine jr_getR (q := 6) (ci := 11) (Cn := RX11) (T := TX11) (N := 42) (j := 25) C mf_26 rfl rfl (by decide) rfl 42 0 rfl rfl rfl nX11_heardNow_11 mX11_heardNow_1 dX11_heardNow_3 rfl rfl ?_
  refine jr_iconst (q := 7) (v := (3 : Int32)) C dX11_heardNow_6 (by decide) rfl ?_
  obtain ⟨g1, h⟩ := h
  refine jr_iald (q := 8) C mf_42 rfl g1 dX11_heardNow_7 rfl ?_
  refine jr_aload_n (q := 9) C 0 dX11_heardNow_8 rfl rfl rfl ?_
  refine jr_iload_n (q := 10) C 1 dX11_heardNow_9 rfl rfl rfl ?_
  refine jr_aload_n (q := 11) C 0 dX11_heardNow_10 rfl rfl rfl ?_
  refine jr_getI (q := 14) (ci := 11) (Cn := RX11) (T := TX11) (N := 42) (j := 22) C mf_26 rfl rfl (by decide) rfl rfl nX11_heardNow_11 mX11_heardNow_2 dX11_heardNow_11 rfl rfl ?_
  refine jr_cvI (q := 17) (As := [.int p1, .int (μ.1 26 0 22)]) (rest := [.int (μ.1 42 0 (3 : Int32).toNatClampNeg), .int p1, .ref (z + mm_ad 26 0)]) C (f := 26) (i := 0) (ci := 11) mf_26 rfl rfl rfl (kX11_flightOf l p1 (μ.1 26 0 22)) rfl gX11_heardNow_X11_flightOf rfl dsc_X11_flightOf ⟨rfl, rfl⟩ ⟨by decide, by decide⟩ rfl rfl (Nat.le_of_ble_eq_true rfl) dX11_heardNow_14 rfl h (fun r3 μ2 h => ?_)
  refine jr_iadd (q := 18) C dX11_heardNow_17 rfl ?_
  refine jr_cvI (q := 21) (As := [.int p1, .int ((μ.1 42 0 (3 : Int32).toNatClampNeg) + r3)]) (rest := []) C (f := 26) (i := 0) (ci := 11) mf_26 rfl rfl rfl (kX11_clockOf l p1 ((μ.1 42 0 (3 : Int32).toNatClampNeg) + r3)) rfl gX11_heardNow_X11_clockOf rfl dsc_X11_clockOf ⟨rfl, rfl⟩ ⟨by decide, by decide⟩ rfl rfl (Nat.le_of_ble_eq_true rfl) dX11_heardNow_18 rfl h (fun r5 μ4 h => ?_)
  refine jr_istore_n (q := 22) (lv' := [(2, .int r5), (0, .ref (z + mm_ad 26 0)), (1, .int p1)]) C dX11_heardNow_21 rfl (by decide) rfl rfl ?_
  refine jr_aload_n (q := 23) C 1 dX11_heardNow_22 rfl rfl rfl ?_
  refine jr_iload_n (q := 24) C 2 dX11_heardNow_23 rfl rfl rfl ?_
  refine jr_aload_n (q := 25) C 1 dX11_heardNow_24 rfl rfl rfl ?_
  refine jr_getR (q := 28) (ci := 11) (Cn := RX11) (T := TX11) (N := 42) (j := 25) C mf_26 rfl rfl (by decide) rfl 42 0 rfl rfl rfl nX11_heardNow_11 mX11_heardNow_1 dX11_heardNow_25 rfl rfl ?_
  refine jr_iconst (q := 29) (v := (1 : Int32)) C dX11_heardNow_28 (by decide) rfl ?_
  obtain ⟨g6, h⟩ := h
  refine jr_iald (q := 30) C mf_42 rfl g6 dX11_heardNow_29 rfl ?_
  refine jr_aload_n (q := 31) C 1 dX11_heardNow_30 rfl rfl rfl ?_
  refine jr_iload_n (q := 32) C 2 dX11_heardNow_31 rfl rfl rfl ?_
  refine jr_aload_n (q := 33) C 1 dX11_heardNow_32 rfl rfl rfl ?_
  refine jr_getI (q := 36) (ci := 11) (Cn := RX11) (T := TX11) (N := 42) (j := 21) C mf_26 rfl rfl (by decide) rfl rfl nX11_heardNow_11 mX11_heardNow_3 dX11_heardNow_33 rfl rfl ?_
  refine jr_cvI (q := 39) (As := [.int p1, .int (μ4.1 26 0 21)]) (rest := [.int (μ4.1 42 0 (1 : Int32).toNatClampNeg), .int p1, .ref (z + mm_ad 26 0)]) C (f := 26) (i := 0) (ci := 11) mf_26 rfl rfl rfl (kX11_flightOf l p1 (μ4.1 26 0 21)) rfl gX11_heardNow_X11_flightOf rfl dsc_X11_flightOf ⟨rfl, rfl⟩ ⟨by decide, by decide⟩ rfl rfl (Nat.le_of_ble_eq_true rfl) dX11_heardNow_36 rfl h (fun r8 μ7 h => ?_)
  refine jr_iadd (q := 40) C dX11_heardNow_39 rfl ?_
  refine jr_cvI (q := 43) (As := [.int p1, .int ((μ4.1 42 0 (1 : Int32).toNatClampNeg) + r8)]) (rest := []) C (f := 26) (i := 0) (ci := 11) mf_26 rfl rfl rfl (kX11_clockOf l p1 ((μ4.1 42 0 (1 : Int32).toNatClampNeg) + r8)) rfl gX11_heardNow_X11_clockOf rfl dsc_X11_clockOf ⟨rfl, rfl⟩ ⟨by decide, by decide⟩ rfl rfl (Nat.le_of_ble_eq_true rfl) dX11_heardNow_40 rfl h (fun r10 μ9 h => ?_)
  refine jr_istore_n (q := 44) (lv' := [(3, .int r10), (2, .int r5), (0, .ref (z + mm_ad 26 0)), (1, .int p1)]) C dX11_heardNow_43 rfl (by decide) rfl rfl ?_
  refine jr_iload_n (q := 45) C 1 dX11_heardNow_44 rfl rfl rfl ?_
  refine jr_iload_n (q := 46) C 0 dX11_heardNow_45 rfl rfl rfl ?_
  refine jr_isub (q := 47) C dX11_heardNow_46 rfl ?_
  refine jr_aload_n (q := 48) C 2 dX11_heardNow_47 rfl rfl rfl ?_
  refine jr_getR (q := 51) (ci := 11) (Cn := RX11) (T := TX11) (N := 42) (j := 26) C mf_26 rfl rfl (by decide) rfl 43 0 rfl rfl rfl nX11_heardNow_11 mX11_heardNow_4 dX11_heardNow_48 rfl rfl ?_
  refine jr_iconst (q := 52) (v := (3 : Int32)) C dX11_heardNow_51 (by decide) rfl ?_
  obtain ⟨g11, h⟩ := h
  refine jr_iald (q := 53) C mf_43 rfl g11 dX11_heardNow_52 rfl ?_
  refine jr_aload_n (q := 54) C 2 dX11_heardNow_53 rfl rfl rfl ?_
  refine jr_getR (q := 57) (ci := 11) (Cn := RX11) (T := TX11) (N := 42) (j := 26) C mf_26 rfl rfl (by decide) rfl 43 0 rfl rfl rfl nX11_heardNow_11 mX11_heardNow_4 dX11_heardNow_54 rfl rfl ?_
  refine jr_iconst (q := 58) (v := (2 : Int32)) C dX11_heardNow_57 (by decide) rfl ?_
  obtain ⟨g12, h⟩ := h
  refine jr_iald (q := 59) C mf_43 rfl g12 dX11_heardNow_58 rfl ?_
  refine jr_isub (q := 60) C dX11_heardNow_59 rfl ?_
  refine jr_isub (q := 61) C dX11_heardNow_60 rfl ?_
  refine jr_aload_n (q := 62) C 2 dX11_heardNow_61 rfl rfl rfl ?_
  refine jr_getI (q := 65) (ci := 11) (Cn := RX11) (T := TX11) (N := 42) (j := 24) C mf_26 rfl rfl (by decide) rfl rfl nX11_heardNow_11 mX11_heardNow_5 dX11_heardNow_62 rfl rfl ?_
  refine jr_isub (q := 66) C dX11_heardNow_65 rfl ?_
  exact jr_iret C hr hk dX11_heardNow_66 h
theorem nX11_heard_11 : ∀ w ∈ wsX110, w ∈ wsX11_heard := fun _ h => List.mem_cons_of_mem _ (List.mem_append_right _ h)
theorem mX11_heard_1 : Cond.fieldLink RX11 149 RX11 (TX11 20).2.1 (TX11 20).2.2.1 ∈ wsX11_heard := List.mem_of_getElem? (i := 1) (by decide +kernel)
theorem mX11_heard_2 : Cond.constant RX11 178 (-1000001) ∈ wsX11_heard := List.mem_of_getElem? (i := 5) (by decide +kernel)
theorem mX11_heard_3 : Cond.fieldLink RX11 226 RX11 (TX11 21).2.1 (TX11 21).2.2.1 ∈ wsX11_heard := List.mem_of_getElem? (i := 3) (by decide +kernel)
theorem mX11_heard_4 : Cond.fieldLink RX11 229 RX11 (TX11 22).2.1 (TX11 22).2.2.1 ∈ wsX11_heard := List.mem_of_getElem? (i := 4) (by decide +kernel)
theorem mX11_heard_5 : Cond.constant RX11 152 (-1000003) ∈ wsX11_heard := List.mem_of_getElem? (i := 2) (by decide +kernel)
theorem dsc_X11_heard : yX11_heard.cls ≠ "java/lang/invoke/MethodHandle" ∧ yX11_heard.cls ≠ "java/lang/invoke/VarHandle" ∧ (parseMethodDescriptor yX11_heard.desc).map (fun d => d.parameters.length) = some 1 := by decide +kernel
def pX11_heard (Po : Int32 → mm_T → Prop) (μ : mm_T) (p1 : Int32) : Prop := (¬ (μ.1 26 0 20) = 0 → pX11_isNode (fun r2 μ1 => (r2 = 0 → Po (-1000001 : Int32) μ1) ∧ (¬ (r2 = 0) → (p1 = (μ1.1 26 0 21) → Po (-1000001 : Int32) μ1) ∧ (¬ (p1 = (μ1.1 26 0 21)) → (p1 = (μ1.1 26 0 22) → Po (-1000001 : Int32) μ1) ∧ (¬ (p1 = (μ1.1 26 0 22)) → pX11_heardNow (fun r4 μ3 => Po r4 μ3) μ1 p1)))) μ p1) ∧ ((μ.1 26 0 20) = 0 → Po (-1000003 : Int32) μ)
set_option maxHeartbeats 4000000 in
set_option maxRecDepth 100000 in
theorem kX11_heard (l : Launch) (p1 : Int32) : mm_CI l yX11_heard wsX11_heard ({ frames := 4, cells := 0, slots := 0, locals := 87 }) (fun z => [.ref (z + mm_ad 26 0), .int p1]) (fun μ Po => pX11_heard Po μ p1) := by
  refine je_I (cc := cX11_heard) (nL := 2) (own := RX11) (plainFor_of_name (by decide)) rfl rfl (fun _ => Nat.le_of_ble_eq_true rfl) ?_
  intro p e s m args below meth c D cy z μ Po C hr hk h
  change jJ p l e ({ frames := 4, cells := 0, slots := 0, locals := 87 }) s m args below meth c D cy z (MQ below (va_Qi Po (mm_Po D cy z) (mm_A z)) args s 0 0 (mm_A z)) 2 μ 0 [(0, .ref (z + mm_ad 26 0)), (1, .int p1)] []
  replace h : pX11_heard Po μ p1 := h
  unfold pX11_heard at h
  refine jr_aload_n (q := 1) C 0 dX11_heard_0 rfl rfl rfl ?_
  refine jr_getI (q := 4) (ci := 11) (Cn := RX11) (T := TX11) (N := 42) (j := 20) C mf_26 rfl rfl (by decide) rfl rfl nX11_heard_11 mX11_heard_1 dX11_heard_1 rfl rfl ?_
  refine jr_if_ne (q := 7) (tgt := 10) C dX11_heard_4 (by decide) rfl (fun c8 => ?_) (fun c8 => ?_)
  · replace h := h.1 c8
    refine jr_aload_n (q := 11) C 0 dX11_heard_10 rfl rfl rfl ?_
    refine jr_iload_n (q := 12) C 1 dX11_heard_11 rfl rfl rfl ?_
    refine jr_cvI (q := 15) (As := [.int p1]) (rest := []) C (f := 26) (i := 0) (ci := 11) mf_26 rfl rfl rfl (kX11_isNode l p1) rfl gX11_heard_X11_isNode rfl dsc_X11_isNode ⟨rfl, rfl⟩ ⟨by decide, by decide⟩ rfl rfl (Nat.le_of_ble_eq_true rfl) dX11_heard_12 rfl h (fun r2 μ1 h => ?_)
    refine jr_if_eq (q := 18) (tgt := 42) C dX11_heard_15 (by decide) rfl (fun c7 => ?_) (fun c7 => ?_)
    · replace h := h.1 c7
      refine jr_ldc (q := 44) (v := (-1000001 : Int32)) C dX11_heard_42 mX11_heard_2 rfl ?_
      exact jr_iret C hr hk dX11_heard_44 h
    · replace h := h.2 c7
      refine jr_iload_n (q := 19) C 1 dX11_heard_18 rfl rfl rfl ?_
      refine jr_aload_n (q := 20) C 0 dX11_heard_19 rfl rfl rfl ?_
      refine jr_getI (q := 23) (ci := 11) (Cn := RX11) (T := TX11) (N := 42) (j := 21) C mf_26 rfl rfl (by decide) rfl rfl nX11_heard_11 mX11_heard_3 dX11_heard_20 rfl rfl ?_
      refine jr_icmp_eq (q := 26) (tgt := 42) C dX11_heard_23 (by decide) rfl (fun c6 => ?_) (fun c6 => ?_)
      · replace h := h.1 c6
        refine jr_ldc (q := 44) (v := (-1000001 : Int32)) C dX11_heard_42 mX11_heard_2 rfl ?_
        exact jr_iret C hr hk dX11_heard_44 h
      · replace h := h.2 c6
        refine jr_iload_n (q := 27) C 1 dX11_heard_26 rfl rfl rfl ?_
        refine jr_aload_n (q := 28) C 0 dX11_heard_27 rfl rfl rfl ?_
        refine jr_getI (q := 31) (ci := 11) (Cn := RX11) (T := TX11) (N := 42) (j := 22) C mf_26 rfl rfl (by decide) rfl rfl nX11_heard_11 mX11_heard_4 dX11_heard_28 rfl rfl ?_
        refine jr_icmp_eq (q := 34) (tgt := 42) C dX11_heard_31 (by decide) rfl (fun c5 => ?_) (fun c5 => ?_)
        · replace h := h.1 c5
          refine jr_ldc (q := 44) (v := (-1000001 : Int32)) C dX11_heard_42 mX11_heard_2 rfl ?_
          exact jr_iret C hr hk dX11_heard_44 h
        · replace h := h.2 c5
          refine jr_aload_n (q := 35) C 0 dX11_heard_34 rfl rfl rfl ?_
          refine jr_iload_n (q := 36) C 1 dX11_heard_35 rfl rfl rfl ?_
          refine jr_cvI (q := 39) (As := [.int p1]) (rest := []) C (f := 26) (i := 0) (ci := 11) mf_26 rfl rfl rfl (kX11_heardNow l p1) rfl gX11_heard_X11_heardNow rfl dsc_X11_heardNow ⟨rfl, rfl⟩ ⟨by decide, by decide⟩ rfl rfl (Nat.le_of_ble_eq_true rfl) dX11_heard_36 rfl h (fun r4 μ3 h => ?_)
          refine jr_goto (tgt := 44) C dX11_heard_39 (by decide) ?_
          exact jr_iret C hr hk dX11_heard_44 h
  · replace h := h.2 c8
    refine jr_ldc (q := 9) (v := (-1000003 : Int32)) C dX11_heard_7 mX11_heard_5 rfl ?_
    exact jr_iret C hr hk dX11_heard_9 h
theorem nX11_rangeNow_11 : ∀ w ∈ wsX110, w ∈ wsX11_rangeNow := fun _ h => List.mem_cons_of_mem _ (List.mem_append_right _ h)
theorem mX11_rangeNow_1 : Cond.fieldLink RX11 47 RX11 (TX11 14).2.1 (TX11 14).2.2.1 ∈ wsX11_rangeNow := List.mem_of_getElem? (i := 1) (by decide +kernel)
theorem mX11_rangeNow_2 : Cond.fieldLink RX11 50 RX11 (TX11 15).2.1 (TX11 15).2.2.1 ∈ wsX11_rangeNow := List.mem_of_getElem? (i := 2) (by decide +kernel)
theorem dsc_X11_rangeNow : yX11_rangeNow.cls ≠ "java/lang/invoke/MethodHandle" ∧ yX11_rangeNow.cls ≠ "java/lang/invoke/VarHandle" ∧ (parseMethodDescriptor yX11_rangeNow.desc).map (fun d => d.parameters.length) = some 2 := by decide +kernel
def pX11_rangeNow (Po : Int32 → mm_T → Prop) (μ : mm_T) (p1 : Int32) (p2 : Int32) : Prop := pX11_pairOf (fun r2 μ1 => (vp_in r2 49) ∧ (((μ1.1 39 0 r2.toNatClampNeg) = 0 → Po (-1 : Int32) μ1) ∧ (¬ ((μ1.1 39 0 r2.toNatClampNeg) = 0) → pX11_pairOf (fun r5 μ4 => (vp_in r5 49) ∧ (Po (μ4.1 40 0 r5.toNatClampNeg) μ4)) μ1 p1 p2))) μ p1 p2
set_option maxHeartbeats 4000000 in
set_option maxRecDepth 100000 in
theorem kX11_rangeNow (l : Launch) (p1 : Int32) (p2 : Int32) : mm_CI l yX11_rangeNow wsX11_rangeNow ({ frames := 1, cells := 0, slots := 0, locals := 21 }) (fun z => [.ref (z + mm_ad 26 0), .int p1, .int p2]) (fun μ Po => pX11_rangeNow Po μ p1 p2) := by
  refine je_I (cc := cX11_rangeNow) (nL := 3) (own := RX11) (plainFor_of_name (by decide)) rfl rfl (fun _ => Nat.le_of_ble_eq_true rfl) ?_
  intro p e s m args below meth c D cy z μ Po C hr hk h
  change jJ p l e ({ frames := 1, cells := 0, slots := 0, locals := 21 }) s m args below meth c D cy z (MQ below (va_Qi Po (mm_Po D cy z) (mm_A z)) args s 0 0 (mm_A z)) 3 μ 0 [(0, .ref (z + mm_ad 26 0)), (1, .int p1), (2, .int p2)] []
  replace h : pX11_rangeNow Po μ p1 p2 := h
  unfold pX11_rangeNow at h
  refine jr_aload_n (q := 1) C 0 dX11_rangeNow_0 rfl rfl rfl ?_
  refine jr_getR (q := 4) (ci := 11) (Cn := RX11) (T := TX11) (N := 42) (j := 14) C mf_26 rfl rfl (by decide) rfl 39 0 rfl rfl rfl nX11_rangeNow_11 mX11_rangeNow_1 dX11_rangeNow_1 rfl rfl ?_
  refine jr_iload_n (q := 5) C 1 dX11_rangeNow_4 rfl rfl rfl ?_
  refine jr_iload_n (q := 6) C 2 dX11_rangeNow_5 rfl rfl rfl ?_
  refine jr_csI (q := 9) (As := [.int p1, .int p2]) (rest := [.ref (z + mm_ad 39 0)]) C  (kX11_pairOf l p1 p2) rfl gX11_rangeNow_X11_pairOf rfl dsc_X11_pairOf ⟨rfl, rfl⟩ ⟨by decide, by decide⟩ rfl rfl (Nat.le_of_ble_eq_true rfl) dX11_rangeNow_6 rfl h (fun r2 μ1 h => ?_)
  obtain ⟨g3, h⟩ := h
  refine jr_zald (q := 10) C mf_39 rfl g3 dX11_rangeNow_9 rfl ?_
  refine jr_if_eq (q := 13) (tgt := 26) C dX11_rangeNow_10 (by decide) rfl (fun c7 => ?_) (fun c7 => ?_)
  · replace h := h.1 c7
    refine jr_iconst (q := 27) (v := (-1 : Int32)) C dX11_rangeNow_26 (by decide) rfl ?_
    exact jr_iret C hr hk dX11_rangeNow_27 h
  · replace h := h.2 c7
    refine jr_aload_n (q := 14) C 0 dX11_rangeNow_13 rfl rfl rfl ?_
    refine jr_getR (q := 17) (ci := 11) (Cn := RX11) (T := TX11) (N := 42) (j := 15) C mf_26 rfl rfl (by decide) rfl 40 0 rfl rfl rfl nX11_rangeNow_11 mX11_rangeNow_2 dX11_rangeNow_14 rfl rfl ?_
    refine jr_iload_n (q := 18) C 1 dX11_rangeNow_17 rfl rfl rfl ?_
    refine jr_iload_n (q := 19) C 2 dX11_rangeNow_18 rfl rfl rfl ?_
    refine jr_csI (q := 22) (As := [.int p1, .int p2]) (rest := [.ref (z + mm_ad 40 0)]) C  (kX11_pairOf l p1 p2) rfl gX11_rangeNow_X11_pairOf rfl dsc_X11_pairOf ⟨rfl, rfl⟩ ⟨by decide, by decide⟩ rfl rfl (Nat.le_of_ble_eq_true rfl) dX11_rangeNow_19 rfl h (fun r5 μ4 h => ?_)
    obtain ⟨g6, h⟩ := h
    refine jr_iald (q := 23) C mf_40 rfl g6 dX11_rangeNow_22 rfl ?_
    refine jr_goto (tgt := 27) C dX11_rangeNow_23 (by decide) ?_
    exact jr_iret C hr hk dX11_rangeNow_27 h
theorem mX11_range_0 : Cond.constant RX11 178 (-1000001) ∈ wsX11_range := List.mem_of_getElem? (i := 1) (by decide +kernel)
theorem dsc_X11_range : yX11_range.cls ≠ "java/lang/invoke/MethodHandle" ∧ yX11_range.cls ≠ "java/lang/invoke/VarHandle" ∧ (parseMethodDescriptor yX11_range.desc).map (fun d => d.parameters.length) = some 2 := by decide +kernel
def pX11_range (Po : Int32 → mm_T → Prop) (μ : mm_T) (p1 : Int32) (p2 : Int32) : Prop := pX11_isPair (fun r2 μ1 => (r2 = 0 → Po (-1000001 : Int32) μ1) ∧ (¬ (r2 = 0) → pX11_rangeNow (fun r4 μ3 => Po r4 μ3) μ1 p1 p2)) μ p1 p2
set_option maxHeartbeats 4000000 in
set_option maxRecDepth 100000 in
theorem kX11_range (l : Launch) (p1 : Int32) (p2 : Int32) : mm_CI l yX11_range wsX11_range ({ frames := 3, cells := 0, slots := 0, locals := 65 }) (fun z => [.ref (z + mm_ad 26 0), .int p1, .int p2]) (fun μ Po => pX11_range Po μ p1 p2) := by
  refine je_I (cc := cX11_range) (nL := 3) (own := RX11) (plainFor_of_name (by decide)) rfl rfl (fun _ => Nat.le_of_ble_eq_true rfl) ?_
  intro p e s m args below meth c D cy z μ Po C hr hk h
  change jJ p l e ({ frames := 3, cells := 0, slots := 0, locals := 65 }) s m args below meth c D cy z (MQ below (va_Qi Po (mm_Po D cy z) (mm_A z)) args s 0 0 (mm_A z)) 3 μ 0 [(0, .ref (z + mm_ad 26 0)), (1, .int p1), (2, .int p2)] []
  replace h : pX11_range Po μ p1 p2 := h
  unfold pX11_range at h
  refine jr_aload_n (q := 1) C 0 dX11_range_0 rfl rfl rfl ?_
  refine jr_iload_n (q := 2) C 1 dX11_range_1 rfl rfl rfl ?_
  refine jr_iload_n (q := 3) C 2 dX11_range_2 rfl rfl rfl ?_
  refine jr_cvI (q := 6) (As := [.int p1, .int p2]) (rest := []) C (f := 26) (i := 0) (ci := 11) mf_26 rfl rfl rfl (kX11_isPair l p1 p2) rfl gX11_range_X11_isPair rfl dsc_X11_isPair ⟨rfl, rfl⟩ ⟨by decide, by decide⟩ rfl rfl (Nat.le_of_ble_eq_true rfl) dX11_range_3 rfl h (fun r2 μ1 h => ?_)
  refine jr_if_eq (q := 9) (tgt := 18) C dX11_range_6 (by decide) rfl (fun c5 => ?_) (fun c5 => ?_)
  · replace h := h.1 c5
    refine jr_ldc (q := 20) (v := (-1000001 : Int32)) C dX11_range_18 mX11_range_0 rfl ?_
    exact jr_iret C hr hk dX11_range_20 h
  · replace h := h.2 c5
    refine jr_aload_n (q := 10) C 0 dX11_range_9 rfl rfl rfl ?_
    refine jr_iload_n (q := 11) C 1 dX11_range_10 rfl rfl rfl ?_
    refine jr_iload_n (q := 12) C 2 dX11_range_11 rfl rfl rfl ?_
    refine jr_cvI (q := 15) (As := [.int p1, .int p2]) (rest := []) C (f := 26) (i := 0) (ci := 11) mf_26 rfl rfl rfl (kX11_rangeNow l p1 p2) rfl gX11_range_X11_rangeNow rfl dsc_X11_rangeNow ⟨rfl, rfl⟩ ⟨by decide, by decide⟩ rfl rfl (Nat.le_of_ble_eq_true rfl) dX11_range_12 rfl h (fun r4 μ3 h => ?_)
    refine jr_goto (tgt := 20) C dX11_range_15 (by decide) ?_
    exact jr_iret C hr hk dX11_range_20 h
theorem nX11_rangedBy_11 : ∀ w ∈ wsX110, w ∈ wsX11_rangedBy := fun _ h => List.mem_cons_of_mem _ (List.mem_append_right _ h)
theorem mX11_rangedBy_1 : Cond.fieldLink RX11 129 RX11 (TX11 2).2.1 (TX11 2).2.2.1 ∈ wsX11_rangedBy := List.mem_of_getElem? (i := 1) (by decide +kernel)
theorem mX11_rangedBy_2 : Cond.fieldLink RX11 13 RX11 (TX11 3).2.1 (TX11 3).2.2.1 ∈ wsX11_rangedBy := List.mem_of_getElem? (i := 2) (by decide +kernel)
theorem mX11_rangedBy_3 : Cond.fieldLink RX11 47 RX11 (TX11 14).2.1 (TX11 14).2.2.1 ∈ wsX11_rangedBy := List.mem_of_getElem? (i := 3) (by decide +kernel)
theorem dsc_X11_rangedBy : yX11_rangedBy.cls ≠ "java/lang/invoke/MethodHandle" ∧ yX11_rangedBy.cls ≠ "java/lang/invoke/VarHandle" ∧ (parseMethodDescriptor yX11_rangedBy.desc).map (fun d => d.parameters.length) = some 1 := by decide +kernel
def pX11_rangedBy_b41 (K4 : mm_T → Int32 → Int32 → Int32 → Prop) (μ : mm_T) (a1 : Int32) (a3 : Int32) (as0 : Int32) : Prop := ∀ x2 : Int32, x2 = as0 ||| (0 : Int32) → (K4 μ a1 x2 (a3 + (1 : Int32)))
def pX11_rangedBy_l4 (Po : Int32 → mm_T → Prop) (E4_50 : mm_T → Int32 → Prop) (K4 : mm_T → Int32 → Int32 → Int32 → Prop) (μ : mm_T) (a1 : Int32) (a2 : Int32) (a3 : Int32) : Prop := ((μ.1 26 0 2) ≤ a3 → E4_50 μ a2) ∧ (¬ ((μ.1 26 0 2) ≤ a3) → (vp_in a3 7) ∧ ((¬ (μ.1 28 0 a3.toNatClampNeg) = 0 → pX11_rangedBy_b41 K4 μ a1 a3 a2) ∧ ((μ.1 28 0 a3.toNatClampNeg) = 0 → pX11_pairOf (fun r4 μ3 => (vp_in r4 49) ∧ (((μ3.1 39 0 r4.toNatClampNeg) = 0 → pX11_rangedBy_b41 K4 μ3 a1 a3 a2) ∧ (¬ ((μ3.1 39 0 r4.toNatClampNeg) = 0) → ∀ x6 : Int32, x6 = a2 ||| ((1 : Int32) <<< (a3 &&& 31)) → (K4 μ3 a1 x6 (a3 + (1 : Int32)))))) μ a1 a3)))
def pX11_rangedBy (Po : Int32 → mm_T → Prop) (μ : mm_T) (p1 : Int32) : Prop := lp_ (fun (K9 : mm_T × Int32 × Int32 × Int32 → Prop) (t9 : mm_T × Int32 × Int32 × Int32) => pX11_rangedBy_l4 Po (fun μ c2 => Po c2 μ) (fun μ a1 a2 a3 => K9 (μ, a1, a2, a3)) t9.1 t9.2.1 t9.2.2.1 t9.2.2.2) (μ, p1, (0 : Int32), (0 : Int32))
set_option maxHeartbeats 4000000 in
set_option maxRecDepth 100000 in
theorem kX11_rangedBy (l : Launch) (p1 : Int32) : mm_CI l yX11_rangedBy wsX11_rangedBy ({ frames := 1, cells := 0, slots := 0, locals := 21 }) (fun z => [.ref (z + mm_ad 26 0), .int p1]) (fun μ Po => pX11_rangedBy Po μ p1) := by
  refine je_I (cc := cX11_rangedBy) (nL := 4) (own := RX11) (plainFor_of_name (by decide)) rfl rfl (fun _ => Nat.le_of_ble_eq_true rfl) ?_
  intro p e s m args below meth c D cy z μ Po C hr hk h
  change jJ p l e ({ frames := 1, cells := 0, slots := 0, locals := 21 }) s m args below meth c D cy z (MQ below (va_Qi Po (mm_Po D cy z) (mm_A z)) args s 0 0 (mm_A z)) 4 μ 0 [(0, .ref (z + mm_ad 26 0)), (1, .int p1)] []
  replace h : pX11_rangedBy Po μ p1 := h
  unfold pX11_rangedBy at h
  refine jr_iconst (q := 1) (v := (0 : Int32)) C dX11_rangedBy_0 (by decide) rfl ?_
  refine jr_istore_n (q := 2) (lv' := [(2, .int (0 : Int32)), (0, .ref (z + mm_ad 26 0)), (1, .int p1)]) C dX11_rangedBy_1 rfl (by decide) rfl rfl ?_
  refine jr_iconst (q := 3) (v := (0 : Int32)) C dX11_rangedBy_2 (by decide) rfl ?_
  refine jr_istore_n (q := 4) (lv' := [(3, .int (0 : Int32)), (2, .int (0 : Int32)), (0, .ref (z + mm_ad 26 0)), (1, .int p1)]) C dX11_rangedBy_3 rfl (by decide) rfl rfl ?_
  have l4 : ∀ (E4_50 : mm_T → Int32 → Prop) (hE4_50 : ∀ (μ : mm_T) (c2 : Int32), E4_50 μ c2 → jJ p l e ({ frames := 1, cells := 0, slots := 0, locals := 21 }) s m args below meth c D cy z (MQ below (va_Qi Po (mm_Po D cy z) (mm_A z)) args s 0 0 (mm_A z)) 4 μ 50 [(2, .int c2)] []), ∀ t9 : mm_T × Int32 × Int32 × Int32, lp_ (fun (K9 : mm_T × Int32 × Int32 × Int32 → Prop) (t9 : mm_T × Int32 × Int32 × Int32) => pX11_rangedBy_l4 Po E4_50 (fun μ a1 a2 a3 => K9 (μ, a1, a2, a3)) t9.1 t9.2.1 t9.2.2.1 t9.2.2.2) t9 → jJ p l e ({ frames := 1, cells := 0, slots := 0, locals := 21 }) s m args below meth c D cy z (MQ below (va_Qi Po (mm_Po D cy z) (mm_A z)) args s 0 0 (mm_A z)) 4 t9.1 4 [(0, .ref (z + mm_ad 26 0)), (1, .int t9.2.1), (2, .int t9.2.2.1), (3, .int t9.2.2.2)] [] := by
    intro E4_50 hE4_50 t9 h
    refine lp_go (P := fun t9 : mm_T × Int32 × Int32 × Int32 => jJ p l e ({ frames := 1, cells := 0, slots := 0, locals := 21 }) s m args below meth c D cy z (MQ below (va_Qi Po (mm_Po D cy z) (mm_A z)) args s 0 0 (mm_A z)) 4 t9.1 4 [(0, .ref (z + mm_ad 26 0)), (1, .int t9.2.1), (2, .int t9.2.2.1), (3, .int t9.2.2.2)] []) (fun K9 t9 hK h => ?_) t9 h
    obtain ⟨μ, a1, a2, a3⟩ := t9
    obtain ⟨K4, eK4⟩ : ∃ K : mm_T → Int32 → Int32 → Int32 → Prop, K = (fun μ a1 a2 a3 => K9 (μ, a1, a2, a3)) := ⟨_, rfl⟩
    have hK4 : ∀ (μ : mm_T) (a1 : Int32) (a2 : Int32) (a3 : Int32), K4 μ a1 a2 a3 → jJ p l e ({ frames := 1, cells := 0, slots := 0, locals := 21 }) s m args below meth c D cy z (MQ below (va_Qi Po (mm_Po D cy z) (mm_A z)) args s 0 0 (mm_A z)) 4 μ 4 [(0, .ref (z + mm_ad 26 0)), (1, .int a1), (2, .int a2), (3, .int a3)] [] := fun μ a1 a2 a3 h9 => hK (μ, a1, a2, a3) (by rw [eK4] at h9; exact h9)
    replace h : pX11_rangedBy_l4 Po E4_50 K4 μ a1 a2 a3 := by rw [eK4]; exact h
    unfold pX11_rangedBy_l4 at h
    refine jr_iload_n (q := 5) C 3 dX11_rangedBy_4 rfl rfl rfl ?_
    refine jr_aload_n (q := 6) C 0 dX11_rangedBy_5 rfl rfl rfl ?_
    refine jr_getI (q := 9) (ci := 11) (Cn := RX11) (T := TX11) (N := 42) (j := 2) C mf_26 rfl rfl (by decide) rfl rfl nX11_rangedBy_11 mX11_rangedBy_1 dX11_rangedBy_6 rfl rfl ?_
    refine jr_icmp_ge (q := 12) (tgt := 50) C dX11_rangedBy_9 (by decide) rfl (fun c9 => ?_) (fun c9 => ?_)
    · replace h := h.1 c9
      refine jr_sub [2] rfl ?_
      exact hE4_50 _ _ h
    · replace h := h.2 c9
      refine jr_iload_n (q := 13) C 2 dX11_rangedBy_12 rfl rfl rfl ?_
      refine jr_aload_n (q := 14) C 0 dX11_rangedBy_13 rfl rfl rfl ?_
      refine jr_getR (q := 17) (ci := 11) (Cn := RX11) (T := TX11) (N := 42) (j := 3) C mf_26 rfl rfl (by decide) rfl 28 0 rfl rfl rfl nX11_rangedBy_11 mX11_rangedBy_2 dX11_rangedBy_14 rfl rfl ?_
      refine jr_iload_n (q := 18) C 3 dX11_rangedBy_17 rfl rfl rfl ?_
      obtain ⟨g1, h⟩ := h
      refine jr_zald (q := 19) C mf_28 rfl g1 dX11_rangedBy_18 rfl ?_
      have b41 : ∀ (μ : mm_T) (a1 : Int32) (a3 : Int32) (as0 : Int32), pX11_rangedBy_b41 K4 μ a1 a3 as0 → jJ p l e ({ frames := 1, cells := 0, slots := 0, locals := 21 }) s m args below meth c D cy z (MQ below (va_Qi Po (mm_Po D cy z) (mm_A z)) args s 0 0 (mm_A z)) 4 μ 41 [(0, .ref (z + mm_ad 26 0)), (1, .int a1), (3, .int a3)] [.int as0] := by
        intro μ a1 a3 as0 h
        unfold pX11_rangedBy_b41 at h
        refine jr_iconst (q := 42) (v := (0 : Int32)) C dX11_rangedBy_41 (by decide) rfl ?_
        refine jr_ior (q := 43) C dX11_rangedBy_42 rfl ?_
        refine jn_int (fun x2 ex2 => ?_)
        replace h := h x2 ex2
        refine jr_istore_n (q := 44) (lv' := [(2, .int x2), (0, .ref (z + mm_ad 26 0)), (1, .int a1), (3, .int a3)]) C dX11_rangedBy_43 rfl (by decide) rfl rfl ?_
        refine jr_iinc (q := 47) (lv' := [(3, .int (a3 + (1 : Int32))), (2, .int x2), (0, .ref (z + mm_ad 26 0)), (1, .int a1)]) C 3 dX11_rangedBy_44 rfl (by rfl) (by decide) rfl rfl ?_
        refine jr_goto (tgt := 4) C dX11_rangedBy_47 (by decide) ?_
        refine jr_sub [2, 3, 1, 0] rfl ?_
        exact hK4 _ _ _ _ h
      refine jr_if_ne (q := 22) (tgt := 41) C dX11_rangedBy_19 (by decide) rfl (fun c8 => ?_) (fun c8 => ?_)
      · replace h := h.1 c8
        refine jr_sub [0, 1, 3] rfl ?_
        exact b41 _ _ _ _ h
      · replace h := h.2 c8
        refine jr_aload_n (q := 23) C 0 dX11_rangedBy_22 rfl rfl rfl ?_
        refine jr_getR (q := 26) (ci := 11) (Cn := RX11) (T := TX11) (N := 42) (j := 14) C mf_26 rfl rfl (by decide) rfl 39 0 rfl rfl rfl nX11_rangedBy_11 mX11_rangedBy_3 dX11_rangedBy_23 rfl rfl ?_
        refine jr_iload_n (q := 27) C 1 dX11_rangedBy_26 rfl rfl rfl ?_
        refine jr_iload_n (q := 28) C 3 dX11_rangedBy_27 rfl rfl rfl ?_
        refine jr_csI (q := 31) (As := [.int a1, .int a3]) (rest := [.ref (z + mm_ad 39 0), .int a2]) C  (kX11_pairOf l a1 a3) rfl gX11_rangedBy_X11_pairOf rfl dsc_X11_pairOf ⟨rfl, rfl⟩ ⟨by decide, by decide⟩ rfl rfl (Nat.le_of_ble_eq_true rfl) dX11_rangedBy_28 rfl h (fun r4 μ3 h => ?_)
        obtain ⟨g5, h⟩ := h
        refine jr_zald (q := 32) C mf_39 rfl g5 dX11_rangedBy_31 rfl ?_
        refine jr_if_eq (q := 35) (tgt := 41) C dX11_rangedBy_32 (by decide) rfl (fun c7 => ?_) (fun c7 => ?_)
        · replace h := h.1 c7
          refine jr_sub [0, 1, 3] rfl ?_
          exact b41 _ _ _ _ h
        · replace h := h.2 c7
          refine jr_iconst (q := 36) (v := (1 : Int32)) C dX11_rangedBy_35 (by decide) rfl ?_
          refine jr_iload_n (q := 37) C 3 dX11_rangedBy_36 rfl rfl rfl ?_
          refine jr_ishl (q := 38) C dX11_rangedBy_37 rfl ?_
          refine jr_goto (tgt := 42) C dX11_rangedBy_38 (by decide) ?_
          refine jr_ior (q := 43) C dX11_rangedBy_42 rfl ?_
          refine jn_int (fun x6 ex6 => ?_)
          replace h := h x6 ex6
          refine jr_istore_n (q := 44) (lv' := [(2, .int x6), (0, .ref (z + mm_ad 26 0)), (1, .int a1), (3, .int a3)]) C dX11_rangedBy_43 rfl (by decide) rfl rfl ?_
          refine jr_iinc (q := 47) (lv' := [(3, .int (a3 + (1 : Int32))), (2, .int x6), (0, .ref (z + mm_ad 26 0)), (1, .int a1)]) C 3 dX11_rangedBy_44 rfl (by rfl) (by decide) rfl rfl ?_
          refine jr_goto (tgt := 4) C dX11_rangedBy_47 (by decide) ?_
          refine jr_sub [2, 3, 1, 0] rfl ?_
          exact hK4 _ _ _ _ h
  have x4_50 : ∀ (μ : mm_T) (c2 : Int32), (Po c2 μ) → jJ p l e ({ frames := 1, cells := 0, slots := 0, locals := 21 }) s m args below meth c D cy z (MQ below (va_Qi Po (mm_Po D cy z) (mm_A z)) args s 0 0 (mm_A z)) 4 μ 50 [(2, .int c2)] [] := by
    intro μ c2 h
    refine jr_iload_n (q := 51) C 0 dX11_rangedBy_50 rfl rfl rfl ?_
    exact jr_iret C hr hk dX11_rangedBy_51 h
  refine jr_sub [2, 3, 1, 0] rfl ?_
  exact l4 _ x4_50 _ h
theorem nX11_misfitBy_11 : ∀ w ∈ wsX110, w ∈ wsX11_misfitBy := fun _ h => List.mem_cons_of_mem _ (List.mem_append_right _ h)
theorem mX11_misfitBy_1 : Cond.fieldLink RX11 129 RX11 (TX11 2).2.1 (TX11 2).2.2.1 ∈ wsX11_misfitBy := List.mem_of_getElem? (i := 1) (by decide +kernel)
theorem mX11_misfitBy_2 : Cond.fieldLink RX11 50 RX11 (TX11 15).2.1 (TX11 15).2.2.1 ∈ wsX11_misfitBy := List.mem_of_getElem? (i := 2) (by decide +kernel)
theorem mX11_misfitBy_3 : Cond.fieldLink RX11 17 RX11 (TX11 4).2.1 (TX11 4).2.2.1 ∈ wsX11_misfitBy := List.mem_of_getElem? (i := 3) (by decide +kernel)
theorem mX11_misfitBy_4 : Cond.fieldLink RX11 20 RX11 (TX11 5).2.1 (TX11 5).2.2.1 ∈ wsX11_misfitBy := List.mem_of_getElem? (i := 4) (by decide +kernel)
theorem dsc_X11_misfitBy : yX11_misfitBy.cls ≠ "java/lang/invoke/MethodHandle" ∧ yX11_misfitBy.cls ≠ "java/lang/invoke/VarHandle" ∧ (parseMethodDescriptor yX11_misfitBy.desc).map (fun d => d.parameters.length) = some 4 := by decide +kernel
def pX11_misfitBy_l6 (Po : Int32 → mm_T → Prop) (E6_77 : mm_T → Int32 → Prop) (K6 : mm_T → Int32 → Int32 → Int32 → Int32 → Int32 → Int32 → Prop) (μ : mm_T) (a1 : Int32) (a2 : Int32) (a3 : Int32) (a4 : Int32) (a5 : Int32) (a6 : Int32) : Prop := ((μ.1 26 0 2) ≤ a6 → E6_77 μ a5) ∧ (¬ ((μ.1 26 0 2) ≤ a6) → (¬ ((a2 >>> (a6 &&& 31)) &&& (1 : Int32)) = (1 : Int32) → K6 μ a1 a2 a3 a4 a5 (a6 + (1 : Int32))) ∧ (((a2 >>> (a6 &&& 31)) &&& (1 : Int32)) = (1 : Int32) → pX11_pairOf (fun r2 μ1 => (vp_in r2 49) ∧ ((vp_in a6 7) ∧ ((vp_in a6 7) ∧ (pX11_flightBy (fun r7 μ6 => ∀ x8 : Int32, x8 = (μ1.1 40 0 r2.toNatClampNeg) - r7 → (∀ x9 : Int32, x9 = a5 + (x8 * x8) → (K6 μ6 a1 a2 a3 a4 x9 (a6 + (1 : Int32))))) μ1 (a3 - (μ1.1 29 0 a6.toNatClampNeg)) (a4 - (μ1.1 30 0 a6.toNatClampNeg)))))) μ a1 a6))
def pX11_misfitBy (Po : Int32 → mm_T → Prop) (μ : mm_T) (p1 : Int32) (p2 : Int32) (p3 : Int32) (p4 : Int32) : Prop := lp_ (fun (K9 : mm_T × Int32 × Int32 × Int32 × Int32 × Int32 × Int32 → Prop) (t9 : mm_T × Int32 × Int32 × Int32 × Int32 × Int32 × Int32) => pX11_misfitBy_l6 Po (fun μ c5 => Po c5 μ) (fun μ a1 a2 a3 a4 a5 a6 => K9 (μ, a1, a2, a3, a4, a5, a6)) t9.1 t9.2.1 t9.2.2.1 t9.2.2.2.1 t9.2.2.2.2.1 t9.2.2.2.2.2.1 t9.2.2.2.2.2.2) (μ, p1, p2, p3, p4, (0 : Int32), (0 : Int32))
set_option maxHeartbeats 4000000 in
set_option maxRecDepth 100000 in
theorem kX11_misfitBy (l : Launch) (p1 : Int32) (p2 : Int32) (p3 : Int32) (p4 : Int32) : mm_CI l yX11_misfitBy wsX11_misfitBy ({ frames := 2, cells := 0, slots := 0, locals := 42 }) (fun z => [.ref (z + mm_ad 26 0), .int p1, .int p2, .int p3, .int p4]) (fun μ Po => pX11_misfitBy Po μ p1 p2 p3 p4) := by
  refine je_I (cc := cX11_misfitBy) (nL := 8) (own := RX11) (plainFor_of_name (by decide)) rfl rfl (fun _ => Nat.le_of_ble_eq_true rfl) ?_
  intro p e s m args below meth c D cy z μ Po C hr hk h
  change jJ p l e ({ frames := 2, cells := 0, slots := 0, locals := 42 }) s m args below meth c D cy z (MQ below (va_Qi Po (mm_Po D cy z) (mm_A z)) args s 0 0 (mm_A z)) 8 μ 0 [(0, .ref (z + mm_ad 26 0)), (1, .int p1), (2, .int p2), (3, .int p3), (4, .int p4)] []
  replace h : pX11_misfitBy Po μ p1 p2 p3 p4 := h
  unfold pX11_misfitBy at h
  refine jr_iconst (q := 1) (v := (0 : Int32)) C dX11_misfitBy_0 (by decide) rfl ?_
  refine jr_istore (q := 3) (lv' := [(5, .int (0 : Int32)), (0, .ref (z + mm_ad 26 0)), (1, .int p1), (2, .int p2), (3, .int p3), (4, .int p4)]) C dX11_misfitBy_1 (by decide) rfl rfl ?_
  refine jr_iconst (q := 4) (v := (0 : Int32)) C dX11_misfitBy_3 (by decide) rfl ?_
  refine jr_istore (q := 6) (lv' := [(6, .int (0 : Int32)), (5, .int (0 : Int32)), (0, .ref (z + mm_ad 26 0)), (1, .int p1), (2, .int p2), (3, .int p3), (4, .int p4)]) C dX11_misfitBy_4 (by decide) rfl rfl ?_
  have l6 : ∀ (E6_77 : mm_T → Int32 → Prop) (hE6_77 : ∀ (μ : mm_T) (c5 : Int32), E6_77 μ c5 → jJ p l e ({ frames := 2, cells := 0, slots := 0, locals := 42 }) s m args below meth c D cy z (MQ below (va_Qi Po (mm_Po D cy z) (mm_A z)) args s 0 0 (mm_A z)) 8 μ 77 [(5, .int c5)] []), ∀ t9 : mm_T × Int32 × Int32 × Int32 × Int32 × Int32 × Int32, lp_ (fun (K9 : mm_T × Int32 × Int32 × Int32 × Int32 × Int32 × Int32 → Prop) (t9 : mm_T × Int32 × Int32 × Int32 × Int32 × Int32 × Int32) => pX11_misfitBy_l6 Po E6_77 (fun μ a1 a2 a3 a4 a5 a6 => K9 (μ, a1, a2, a3, a4, a5, a6)) t9.1 t9.2.1 t9.2.2.1 t9.2.2.2.1 t9.2.2.2.2.1 t9.2.2.2.2.2.1 t9.2.2.2.2.2.2) t9 → jJ p l e ({ frames := 2, cells := 0, slots := 0, locals := 42 }) s m args below meth c D cy z (MQ below (va_Qi Po (mm_Po D cy z) (mm_A z)) args s 0 0 (mm_A z)) 8 t9.1 6 [(0, .ref (z + mm_ad 26 0)), (1, .int t9.2.1), (2, .int t9.2.2.1), (3, .int t9.2.2.2.1), (4, .int t9.2.2.2.2.1), (5, .int t9.2.2.2.2.2.1), (6, .int t9.2.2.2.2.2.2)] [] := by
    intro E6_77 hE6_77 t9 h
    refine lp_go (P := fun t9 : mm_T × Int32 × Int32 × Int32 × Int32 × Int32 × Int32 => jJ p l e ({ frames := 2, cells := 0, slots := 0, locals := 42 }) s m args below meth c D cy z (MQ below (va_Qi Po (mm_Po D cy z) (mm_A z)) args s 0 0 (mm_A z)) 8 t9.1 6 [(0, .ref (z + mm_ad 26 0)), (1, .int t9.2.1), (2, .int t9.2.2.1), (3, .int t9.2.2.2.1), (4, .int t9.2.2.2.2.1), (5, .int t9.2.2.2.2.2.1), (6, .int t9.2.2.2.2.2.2)] []) (fun K9 t9 hK h => ?_) t9 h
    obtain ⟨μ, a1, a2, a3, a4, a5, a6⟩ := t9
    obtain ⟨K6, eK6⟩ : ∃ K : mm_T → Int32 → Int32 → Int32 → Int32 → Int32 → Int32 → Prop, K = (fun μ a1 a2 a3 a4 a5 a6 => K9 (μ, a1, a2, a3, a4, a5, a6)) := ⟨_, rfl⟩
    have hK6 : ∀ (μ : mm_T) (a1 : Int32) (a2 : Int32) (a3 : Int32) (a4 : Int32) (a5 : Int32) (a6 : Int32), K6 μ a1 a2 a3 a4 a5 a6 → jJ p l e ({ frames := 2, cells := 0, slots := 0, locals := 42 }) s m args below meth c D cy z (MQ below (va_Qi Po (mm_Po D cy z) (mm_A z)) args s 0 0 (mm_A z)) 8 μ 6 [(0, .ref (z + mm_ad 26 0)), (1, .int a1), (2, .int a2), (3, .int a3), (4, .int a4), (5, .int a5), (6, .int a6)] [] := fun μ a1 a2 a3 a4 a5 a6 h9 => hK (μ, a1, a2, a3, a4, a5, a6) (by rw [eK6] at h9; exact h9)
    replace h : pX11_misfitBy_l6 Po E6_77 K6 μ a1 a2 a3 a4 a5 a6 := by rw [eK6]; exact h
    unfold pX11_misfitBy_l6 at h
    refine jr_iload (q := 8) C 6 dX11_misfitBy_6 rfl rfl ?_
    refine jr_aload_n (q := 9) C 0 dX11_misfitBy_8 rfl rfl rfl ?_
    refine jr_getI (q := 12) (ci := 11) (Cn := RX11) (T := TX11) (N := 42) (j := 2) C mf_26 rfl rfl (by decide) rfl rfl nX11_misfitBy_11 mX11_misfitBy_1 dX11_misfitBy_9 rfl rfl ?_
    refine jr_icmp_ge (q := 15) (tgt := 77) C dX11_misfitBy_12 (by decide) rfl (fun c11 => ?_) (fun c11 => ?_)
    · replace h := h.1 c11
      refine jr_sub [5] rfl ?_
      exact hE6_77 _ _ h
    · replace h := h.2 c11
      refine jr_iload_n (q := 16) C 2 dX11_misfitBy_15 rfl rfl rfl ?_
      refine jr_iload (q := 18) C 6 dX11_misfitBy_16 rfl rfl ?_
      refine jr_ishr (q := 19) C dX11_misfitBy_18 rfl ?_
      refine jr_iconst (q := 20) (v := (1 : Int32)) C dX11_misfitBy_19 (by decide) rfl ?_
      refine jr_iand (q := 21) C dX11_misfitBy_20 rfl ?_
      refine jr_iconst (q := 22) (v := (1 : Int32)) C dX11_misfitBy_21 (by decide) rfl ?_
      refine jr_icmp_ne (q := 25) (tgt := 71) C dX11_misfitBy_22 (by decide) rfl (fun c10 => ?_) (fun c10 => ?_)
      · replace h := h.1 c10
        refine jr_iinc (q := 74) (lv' := [(6, .int (a6 + (1 : Int32))), (0, .ref (z + mm_ad 26 0)), (1, .int a1), (2, .int a2), (3, .int a3), (4, .int a4), (5, .int a5)]) C 6 dX11_misfitBy_71 rfl (by rfl) (by decide) rfl rfl ?_
        refine jr_goto (tgt := 6) C dX11_misfitBy_74 (by decide) ?_
        refine jr_sub [1, 2, 3, 4, 5, 6, 0] rfl ?_
        exact hK6 _ _ _ _ _ _ _ h
      · replace h := h.2 c10
        refine jr_aload_n (q := 26) C 0 dX11_misfitBy_25 rfl rfl rfl ?_
        refine jr_getR (q := 29) (ci := 11) (Cn := RX11) (T := TX11) (N := 42) (j := 15) C mf_26 rfl rfl (by decide) rfl 40 0 rfl rfl rfl nX11_misfitBy_11 mX11_misfitBy_2 dX11_misfitBy_26 rfl rfl ?_
        refine jr_iload_n (q := 30) C 1 dX11_misfitBy_29 rfl rfl rfl ?_
        refine jr_iload (q := 32) C 6 dX11_misfitBy_30 rfl rfl ?_
        refine jr_csI (q := 35) (As := [.int a1, .int a6]) (rest := [.ref (z + mm_ad 40 0)]) C  (kX11_pairOf l a1 a6) rfl gX11_misfitBy_X11_pairOf rfl dsc_X11_pairOf ⟨rfl, rfl⟩ ⟨by decide, by decide⟩ rfl rfl (Nat.le_of_ble_eq_true rfl) dX11_misfitBy_32 rfl h (fun r2 μ1 h => ?_)
        obtain ⟨g3, h⟩ := h
        refine jr_iald (q := 36) C mf_40 rfl g3 dX11_misfitBy_35 rfl ?_
        refine jr_iload_n (q := 37) C 3 dX11_misfitBy_36 rfl rfl rfl ?_
        refine jr_aload_n (q := 38) C 0 dX11_misfitBy_37 rfl rfl rfl ?_
        refine jr_getR (q := 41) (ci := 11) (Cn := RX11) (T := TX11) (N := 42) (j := 4) C mf_26 rfl rfl (by decide) rfl 29 0 rfl rfl rfl nX11_misfitBy_11 mX11_misfitBy_3 dX11_misfitBy_38 rfl rfl ?_
        refine jr_iload (q := 43) C 6 dX11_misfitBy_41 rfl rfl ?_
        obtain ⟨g4, h⟩ := h
        refine jr_iald (q := 44) C mf_29 rfl g4 dX11_misfitBy_43 rfl ?_
        refine jr_isub (q := 45) C dX11_misfitBy_44 rfl ?_
        refine jr_iload (q := 47) C 4 dX11_misfitBy_45 rfl rfl ?_
        refine jr_aload_n (q := 48) C 0 dX11_misfitBy_47 rfl rfl rfl ?_
        refine jr_getR (q := 51) (ci := 11) (Cn := RX11) (T := TX11) (N := 42) (j := 5) C mf_26 rfl rfl (by decide) rfl 30 0 rfl rfl rfl nX11_misfitBy_11 mX11_misfitBy_4 dX11_misfitBy_48 rfl rfl ?_
        refine jr_iload (q := 53) C 6 dX11_misfitBy_51 rfl rfl ?_
        obtain ⟨g5, h⟩ := h
        refine jr_iald (q := 54) C mf_30 rfl g5 dX11_misfitBy_53 rfl ?_
        refine jr_isub (q := 55) C dX11_misfitBy_54 rfl ?_
        refine jr_csI (q := 58) (As := [.int (a3 - (μ1.1 29 0 a6.toNatClampNeg)), .int (a4 - (μ1.1 30 0 a6.toNatClampNeg))]) (rest := [.int (μ1.1 40 0 r2.toNatClampNeg)]) C  (kX11_flightBy l (a3 - (μ1.1 29 0 a6.toNatClampNeg)) (a4 - (μ1.1 30 0 a6.toNatClampNeg))) rfl gX11_misfitBy_X11_flightBy rfl dsc_X11_flightBy ⟨rfl, rfl⟩ ⟨by decide, by decide⟩ rfl rfl (Nat.le_of_ble_eq_true rfl) dX11_misfitBy_55 rfl h (fun r7 μ6 h => ?_)
        refine jr_isub (q := 59) C dX11_misfitBy_58 rfl ?_
        refine jn_int (fun x8 ex8 => ?_)
        replace h := h x8 ex8
        refine jr_istore (q := 61) (lv' := [(7, .int x8), (0, .ref (z + mm_ad 26 0)), (1, .int a1), (2, .int a2), (3, .int a3), (4, .int a4), (5, .int a5), (6, .int a6)]) C dX11_misfitBy_59 (by decide) rfl rfl ?_
        refine jr_iload (q := 63) C 6 dX11_misfitBy_61 rfl rfl ?_
        refine jr_iload (q := 65) C 0 dX11_misfitBy_63 rfl rfl ?_
        refine jr_iload (q := 67) C 0 dX11_misfitBy_65 rfl rfl ?_
        refine jr_imul (q := 68) C dX11_misfitBy_67 rfl ?_
        refine jr_iadd (q := 69) C dX11_misfitBy_68 rfl ?_
        refine jn_int (fun x9 ex9 => ?_)
        replace h := h x9 ex9
        refine jr_istore (q := 71) (lv' := [(5, .int x9), (7, .int x8), (0, .ref (z + mm_ad 26 0)), (1, .int a1), (2, .int a2), (3, .int a3), (4, .int a4), (6, .int a6)]) C dX11_misfitBy_69 (by decide) rfl rfl ?_
        refine jr_iinc (q := 74) (lv' := [(6, .int (a6 + (1 : Int32))), (5, .int x9), (7, .int x8), (0, .ref (z + mm_ad 26 0)), (1, .int a1), (2, .int a2), (3, .int a3), (4, .int a4)]) C 7 dX11_misfitBy_71 rfl (by rfl) (by decide) rfl rfl ?_
        refine jr_goto (tgt := 6) C dX11_misfitBy_74 (by decide) ?_
        refine jr_sub [3, 4, 5, 6, 7, 1, 0] rfl ?_
        exact hK6 _ _ _ _ _ _ _ h
  have x6_77 : ∀ (μ : mm_T) (c5 : Int32), (Po c5 μ) → jJ p l e ({ frames := 2, cells := 0, slots := 0, locals := 42 }) s m args below meth c D cy z (MQ below (va_Qi Po (mm_Po D cy z) (mm_A z)) args s 0 0 (mm_A z)) 8 μ 77 [(5, .int c5)] [] := by
    intro μ c5 h
    refine jr_iload (q := 79) C 0 dX11_misfitBy_77 rfl rfl ?_
    exact jr_iret C hr hk dX11_misfitBy_79 h
  refine jr_sub [2, 3, 4, 5, 6, 1, 0] rfl ?_
  exact l6 _ x6_77 _ h
theorem dsc_X11_fitBy : yX11_fitBy.cls ≠ "java/lang/invoke/MethodHandle" ∧ yX11_fitBy.cls ≠ "java/lang/invoke/VarHandle" ∧ (parseMethodDescriptor yX11_fitBy.desc).map (fun d => d.parameters.length) = some 2 := by decide +kernel
def pX11_fitBy_b54 (K15 : mm_T → Int32 → Int32 → Int32 → Int32 → Int32 → Prop) (μ : mm_T) (a1 : Int32) (a2 : Int32) (a4 : Int32) (a5 : Int32) (a6 : Int32) (as0 : Int32) : Prop := (a4 ≤ a6 → K15 μ a1 a2 as0 a4 (a5 + (1 : Int32))) ∧ (¬ (a4 ≤ a6) → K15 μ a1 a2 as0 a6 (a5 + (1 : Int32)))
def pX11_fitBy_l15 (Po : Int32 → mm_T → Prop) (E15_77 : mm_T → Int32 → Prop) (K15 : mm_T → Int32 → Int32 → Int32 → Int32 → Int32 → Prop) (μ : mm_T) (a1 : Int32) (a2 : Int32) (a3 : Int32) (a4 : Int32) (a5 : Int32) : Prop := ((1024 : Int32) ≤ a5 → E15_77 μ a3) ∧ (¬ ((1024 : Int32) ≤ a5) → pX11_misfitBy (fun r4 μ3 => (a4 ≤ r4 → pX11_fitBy_b54 K15 μ3 a1 a2 a4 a5 r4 a3) ∧ (¬ (a4 ≤ r4) → pX11_fitBy_b54 K15 μ3 a1 a2 a4 a5 r4 a5)) μ a1 a2 (a5 - a5 / (32 : Int32) * (32 : Int32)) (a5 / (32 : Int32)))
def pX11_fitBy (Po : Int32 → mm_T → Prop) (μ : mm_T) (p1 : Int32) (p2 : Int32) : Prop := pX11_misfitBy (fun r2 μ1 => lp_ (fun (K9 : mm_T × Int32 × Int32 × Int32 × Int32 × Int32 → Prop) (t9 : mm_T × Int32 × Int32 × Int32 × Int32 × Int32) => pX11_fitBy_l15 Po (fun μ c3 => Po c3 μ) (fun μ a1 a2 a3 a4 a5 => K9 (μ, a1, a2, a3, a4, a5)) t9.1 t9.2.1 t9.2.2.1 t9.2.2.2.1 t9.2.2.2.2.1 t9.2.2.2.2.2) (μ1, p1, p2, (0 : Int32), r2, (1 : Int32))) μ p1 p2 (0 : Int32) (0 : Int32)
set_option maxHeartbeats 4000000 in
set_option maxRecDepth 100000 in
theorem kX11_fitBy (l : Launch) (p1 : Int32) (p2 : Int32) : mm_CI l yX11_fitBy wsX11_fitBy ({ frames := 3, cells := 0, slots := 0, locals := 69 }) (fun z => [.ref (z + mm_ad 26 0), .int p1, .int p2]) (fun μ Po => pX11_fitBy Po μ p1 p2) := by
  refine je_I (cc := cX11_fitBy) (nL := 7) (own := RX11) (plainFor_of_name (by decide)) rfl rfl (fun _ => Nat.le_of_ble_eq_true rfl) ?_
  intro p e s m args below meth c D cy z μ Po C hr hk h
  change jJ p l e ({ frames := 3, cells := 0, slots := 0, locals := 69 }) s m args below meth c D cy z (MQ below (va_Qi Po (mm_Po D cy z) (mm_A z)) args s 0 0 (mm_A z)) 7 μ 0 [(0, .ref (z + mm_ad 26 0)), (1, .int p1), (2, .int p2)] []
  replace h : pX11_fitBy Po μ p1 p2 := h
  unfold pX11_fitBy at h
  refine jr_iconst (q := 1) (v := (0 : Int32)) C dX11_fitBy_0 (by decide) rfl ?_
  refine jr_istore_n (q := 2) (lv' := [(3, .int (0 : Int32)), (0, .ref (z + mm_ad 26 0)), (1, .int p1), (2, .int p2)]) C dX11_fitBy_1 rfl (by decide) rfl rfl ?_
  refine jr_aload_n (q := 3) C 1 dX11_fitBy_2 rfl rfl rfl ?_
  refine jr_iload_n (q := 4) C 2 dX11_fitBy_3 rfl rfl rfl ?_
  refine jr_iload_n (q := 5) C 3 dX11_fitBy_4 rfl rfl rfl ?_
  refine jr_iconst (q := 6) (v := (0 : Int32)) C dX11_fitBy_5 (by decide) rfl ?_
  refine jr_iconst (q := 7) (v := (0 : Int32)) C dX11_fitBy_6 (by decide) rfl ?_
  refine jr_cvI (q := 10) (As := [.int p1, .int p2, .int (0 : Int32), .int (0 : Int32)]) (rest := []) C (f := 26) (i := 0) (ci := 11) mf_26 rfl rfl rfl (kX11_misfitBy l p1 p2 (0 : Int32) (0 : Int32)) rfl gX11_fitBy_X11_misfitBy rfl dsc_X11_misfitBy ⟨rfl, rfl⟩ ⟨by decide, by decide⟩ rfl rfl (Nat.le_of_ble_eq_true rfl) dX11_fitBy_7 rfl h (fun r2 μ1 h => ?_)
  refine jr_istore (q := 12) (lv' := [(4, .int r2), (3, .int (0 : Int32)), (0, .ref (z + mm_ad 26 0)), (1, .int p1), (2, .int p2)]) C dX11_fitBy_10 (by decide) rfl rfl ?_
  refine jr_iconst (q := 13) (v := (1 : Int32)) C dX11_fitBy_12 (by decide) rfl ?_
  refine jr_istore (q := 15) (lv' := [(5, .int (1 : Int32)), (4, .int r2), (3, .int (0 : Int32)), (0, .ref (z + mm_ad 26 0)), (1, .int p1), (2, .int p2)]) C dX11_fitBy_13 (by decide) rfl rfl ?_
  have l15 : ∀ (E15_77 : mm_T → Int32 → Prop) (hE15_77 : ∀ (μ : mm_T) (c3 : Int32), E15_77 μ c3 → jJ p l e ({ frames := 3, cells := 0, slots := 0, locals := 69 }) s m args below meth c D cy z (MQ below (va_Qi Po (mm_Po D cy z) (mm_A z)) args s 0 0 (mm_A z)) 7 μ 77 [(3, .int c3)] []), ∀ t9 : mm_T × Int32 × Int32 × Int32 × Int32 × Int32, lp_ (fun (K9 : mm_T × Int32 × Int32 × Int32 × Int32 × Int32 → Prop) (t9 : mm_T × Int32 × Int32 × Int32 × Int32 × Int32) => pX11_fitBy_l15 Po E15_77 (fun μ a1 a2 a3 a4 a5 => K9 (μ, a1, a2, a3, a4, a5)) t9.1 t9.2.1 t9.2.2.1 t9.2.2.2.1 t9.2.2.2.2.1 t9.2.2.2.2.2) t9 → jJ p l e ({ frames := 3, cells := 0, slots := 0, locals := 69 }) s m args below meth c D cy z (MQ below (va_Qi Po (mm_Po D cy z) (mm_A z)) args s 0 0 (mm_A z)) 7 t9.1 15 [(0, .ref (z + mm_ad 26 0)), (1, .int t9.2.1), (2, .int t9.2.2.1), (3, .int t9.2.2.2.1), (4, .int t9.2.2.2.2.1), (5, .int t9.2.2.2.2.2)] [] := by
    intro E15_77 hE15_77 t9 h
    refine lp_go (P := fun t9 : mm_T × Int32 × Int32 × Int32 × Int32 × Int32 => jJ p l e ({ frames := 3, cells := 0, slots := 0, locals := 69 }) s m args below meth c D cy z (MQ below (va_Qi Po (mm_Po D cy z) (mm_A z)) args s 0 0 (mm_A z)) 7 t9.1 15 [(0, .ref (z + mm_ad 26 0)), (1, .int t9.2.1), (2, .int t9.2.2.1), (3, .int t9.2.2.2.1), (4, .int t9.2.2.2.2.1), (5, .int t9.2.2.2.2.2)] []) (fun K9 t9 hK h => ?_) t9 h
    obtain ⟨μ, a1, a2, a3, a4, a5⟩ := t9
    obtain ⟨K15, eK15⟩ : ∃ K : mm_T → Int32 → Int32 → Int32 → Int32 → Int32 → Prop, K = (fun μ a1 a2 a3 a4 a5 => K9 (μ, a1, a2, a3, a4, a5)) := ⟨_, rfl⟩
    have hK15 : ∀ (μ : mm_T) (a1 : Int32) (a2 : Int32) (a3 : Int32) (a4 : Int32) (a5 : Int32), K15 μ a1 a2 a3 a4 a5 → jJ p l e ({ frames := 3, cells := 0, slots := 0, locals := 69 }) s m args below meth c D cy z (MQ below (va_Qi Po (mm_Po D cy z) (mm_A z)) args s 0 0 (mm_A z)) 7 μ 15 [(0, .ref (z + mm_ad 26 0)), (1, .int a1), (2, .int a2), (3, .int a3), (4, .int a4), (5, .int a5)] [] := fun μ a1 a2 a3 a4 a5 h9 => hK (μ, a1, a2, a3, a4, a5) (by rw [eK15] at h9; exact h9)
    replace h : pX11_fitBy_l15 Po E15_77 K15 μ a1 a2 a3 a4 a5 := by rw [eK15]; exact h
    unfold pX11_fitBy_l15 at h
    refine jr_iload (q := 17) C 5 dX11_fitBy_15 rfl rfl ?_
    refine jr_sipush (q := 20) (v := (1024 : Int32)) C dX11_fitBy_17 (by decide) rfl ?_
    refine jr_icmp_ge (q := 23) (tgt := 77) C dX11_fitBy_20 (by decide) rfl (fun c7 => ?_) (fun c7 => ?_)
    · replace h := h.1 c7
      refine jr_sub [3] rfl ?_
      exact hE15_77 _ _ h
    · replace h := h.2 c7
      refine jr_aload_n (q := 24) C 0 dX11_fitBy_23 rfl rfl rfl ?_
      refine jr_iload_n (q := 25) C 1 dX11_fitBy_24 rfl rfl rfl ?_
      refine jr_iload_n (q := 26) C 2 dX11_fitBy_25 rfl rfl rfl ?_
      refine jr_iload (q := 28) C 5 dX11_fitBy_26 rfl rfl ?_
      refine jr_bipush (q := 30) (v := (32 : Int32)) C dX11_fitBy_28 (by decide) rfl ?_
      refine jr_irem (q := 31) C dX11_fitBy_30 (by decide) rfl ?_
      refine jr_iload (q := 33) C 5 dX11_fitBy_31 rfl rfl ?_
      refine jr_bipush (q := 35) (v := (32 : Int32)) C dX11_fitBy_33 (by decide) rfl ?_
      refine jr_idiv (q := 36) C dX11_fitBy_35 (by decide) rfl ?_
      refine jr_cvI (q := 39) (As := [.int a1, .int a2, .int (a5 - a5 / (32 : Int32) * (32 : Int32)), .int (a5 / (32 : Int32))]) (rest := []) C (f := 26) (i := 0) (ci := 11) mf_26 rfl rfl rfl (kX11_misfitBy l a1 a2 (a5 - a5 / (32 : Int32) * (32 : Int32)) (a5 / (32 : Int32))) rfl gX11_fitBy_X11_misfitBy rfl dsc_X11_misfitBy ⟨rfl, rfl⟩ ⟨by decide, by decide⟩ rfl rfl (Nat.le_of_ble_eq_true rfl) dX11_fitBy_36 rfl h (fun r4 μ3 h => ?_)
      refine jr_istore (q := 41) (lv' := [(6, .int r4), (0, .ref (z + mm_ad 26 0)), (1, .int a1), (2, .int a2), (3, .int a3), (4, .int a4), (5, .int a5)]) C dX11_fitBy_39 (by decide) rfl rfl ?_
      refine jr_iload (q := 43) C 0 dX11_fitBy_41 rfl rfl ?_
      refine jr_iload (q := 45) C 5 dX11_fitBy_43 rfl rfl ?_
      have b54 : ∀ (μ : mm_T) (a1 : Int32) (a2 : Int32) (a4 : Int32) (a5 : Int32) (a6 : Int32) (as0 : Int32), pX11_fitBy_b54 K15 μ a1 a2 a4 a5 a6 as0 → jJ p l e ({ frames := 3, cells := 0, slots := 0, locals := 69 }) s m args below meth c D cy z (MQ below (va_Qi Po (mm_Po D cy z) (mm_A z)) args s 0 0 (mm_A z)) 7 μ 54 [(0, .ref (z + mm_ad 26 0)), (1, .int a1), (2, .int a2), (4, .int a4), (5, .int a5), (6, .int a6)] [.int as0] := by
        intro μ a1 a2 a4 a5 a6 as0 h
        unfold pX11_fitBy_b54 at h
        refine jr_istore_n (q := 55) (lv' := [(3, .int as0), (0, .ref (z + mm_ad 26 0)), (1, .int a1), (2, .int a2), (4, .int a4), (5, .int a5), (6, .int a6)]) C dX11_fitBy_54 rfl (by decide) rfl rfl ?_
        refine jr_iload (q := 57) C 6 dX11_fitBy_55 rfl rfl ?_
        refine jr_iload (q := 59) C 4 dX11_fitBy_57 rfl rfl ?_
        refine jr_icmp_ge (q := 62) (tgt := 67) C dX11_fitBy_59 (by decide) rfl (fun c5 => ?_) (fun c5 => ?_)
        · replace h := h.1 c5
          refine jr_iload (q := 69) C 4 dX11_fitBy_67 rfl rfl ?_
          refine jr_istore (q := 71) (lv' := [(4, .int a4), (3, .int as0), (0, .ref (z + mm_ad 26 0)), (1, .int a1), (2, .int a2), (5, .int a5), (6, .int a6)]) C dX11_fitBy_69 (by decide) rfl rfl ?_
          refine jr_iinc (q := 74) (lv' := [(5, .int (a5 + (1 : Int32))), (4, .int a4), (3, .int as0), (0, .ref (z + mm_ad 26 0)), (1, .int a1), (2, .int a2), (6, .int a6)]) C 5 dX11_fitBy_71 rfl (by rfl) (by decide) rfl rfl ?_
          refine jr_goto (tgt := 15) C dX11_fitBy_74 (by decide) ?_
          refine jr_sub [3, 4, 5, 2, 1, 0] rfl ?_
          exact hK15 _ _ _ _ _ _ h
        · replace h := h.2 c5
          refine jr_iload (q := 64) C 6 dX11_fitBy_62 rfl rfl ?_
          refine jr_goto (tgt := 69) C dX11_fitBy_64 (by decide) ?_
          refine jr_istore (q := 71) (lv' := [(4, .int a6), (3, .int as0), (0, .ref (z + mm_ad 26 0)), (1, .int a1), (2, .int a2), (5, .int a5), (6, .int a6)]) C dX11_fitBy_69 (by decide) rfl rfl ?_
          refine jr_iinc (q := 74) (lv' := [(5, .int (a5 + (1 : Int32))), (4, .int a6), (3, .int as0), (0, .ref (z + mm_ad 26 0)), (1, .int a1), (2, .int a2), (6, .int a6)]) C 5 dX11_fitBy_71 rfl (by rfl) (by decide) rfl rfl ?_
          refine jr_goto (tgt := 15) C dX11_fitBy_74 (by decide) ?_
          refine jr_sub [3, 4, 5, 2, 1, 0] rfl ?_
          exact hK15 _ _ _ _ _ _ h
      refine jr_icmp_ge (q := 48) (tgt := 53) C dX11_fitBy_45 (by decide) rfl (fun c6 => ?_) (fun c6 => ?_)
      · replace h := h.1 c6
        refine jr_iload_n (q := 54) C 4 dX11_fitBy_53 rfl rfl rfl ?_
        refine jr_sub [1, 2, 3, 5, 6, 0] rfl ?_
        exact b54 _ _ _ _ _ _ _ h
      · replace h := h.2 c6
        refine jr_iload (q := 50) C 6 dX11_fitBy_48 rfl rfl ?_
        refine jr_goto (tgt := 54) C dX11_fitBy_50 (by decide) ?_
        refine jr_sub [1, 2, 3, 5, 6, 0] rfl ?_
        exact b54 _ _ _ _ _ _ _ h
  have x15_77 : ∀ (μ : mm_T) (c3 : Int32), (Po c3 μ) → jJ p l e ({ frames := 3, cells := 0, slots := 0, locals := 69 }) s m args below meth c D cy z (MQ below (va_Qi Po (mm_Po D cy z) (mm_A z)) args s 0 0 (mm_A z)) 7 μ 77 [(3, .int c3)] [] := by
    intro μ c3 h
    refine jr_iload_n (q := 78) C 0 dX11_fitBy_77 rfl rfl rfl ?_
    exact jr_iret C hr hk dX11_fitBy_78 h
  refine jr_sub [3, 4, 5, 2, 1, 0] rfl ?_
  exact l15 _ x15_77 _ h
theorem dsc_X11_leastBy : yX11_leastBy.cls ≠ "java/lang/invoke/MethodHandle" ∧ yX11_leastBy.cls ≠ "java/lang/invoke/VarHandle" ∧ (parseMethodDescriptor yX11_leastBy.desc).map (fun d => d.parameters.length) = some 2 := by decide +kernel
def pX11_leastBy (Po : Int32 → mm_T → Prop) (μ : mm_T) (p1 : Int32) (p2 : Int32) : Prop := pX11_fitBy (fun r2 μ1 => pX11_misfitBy (fun r4 μ3 => Po r4 μ3) μ1 p1 p2 (r2 - r2 / (32 : Int32) * (32 : Int32)) (r2 / (32 : Int32))) μ p1 p2
set_option maxHeartbeats 4000000 in
set_option maxRecDepth 100000 in
theorem kX11_leastBy (l : Launch) (p1 : Int32) (p2 : Int32) : mm_CI l yX11_leastBy wsX11_leastBy ({ frames := 4, cells := 0, slots := 0, locals := 95 }) (fun z => [.ref (z + mm_ad 26 0), .int p1, .int p2]) (fun μ Po => pX11_leastBy Po μ p1 p2) := by
  refine je_I (cc := cX11_leastBy) (nL := 4) (own := RX11) (plainFor_of_name (by decide)) rfl rfl (fun _ => Nat.le_of_ble_eq_true rfl) ?_
  intro p e s m args below meth c D cy z μ Po C hr hk h
  change jJ p l e ({ frames := 4, cells := 0, slots := 0, locals := 95 }) s m args below meth c D cy z (MQ below (va_Qi Po (mm_Po D cy z) (mm_A z)) args s 0 0 (mm_A z)) 4 μ 0 [(0, .ref (z + mm_ad 26 0)), (1, .int p1), (2, .int p2)] []
  replace h : pX11_leastBy Po μ p1 p2 := h
  unfold pX11_leastBy at h
  refine jr_aload_n (q := 1) C 0 dX11_leastBy_0 rfl rfl rfl ?_
  refine jr_iload_n (q := 2) C 1 dX11_leastBy_1 rfl rfl rfl ?_
  refine jr_iload_n (q := 3) C 2 dX11_leastBy_2 rfl rfl rfl ?_
  refine jr_cvI (q := 6) (As := [.int p1, .int p2]) (rest := []) C (f := 26) (i := 0) (ci := 11) mf_26 rfl rfl rfl (kX11_fitBy l p1 p2) rfl gX11_leastBy_X11_fitBy rfl dsc_X11_fitBy ⟨rfl, rfl⟩ ⟨by decide, by decide⟩ rfl rfl (Nat.le_of_ble_eq_true rfl) dX11_leastBy_3 rfl h (fun r2 μ1 h => ?_)
  refine jr_istore_n (q := 7) (lv' := [(3, .int r2), (0, .ref (z + mm_ad 26 0)), (1, .int p1), (2, .int p2)]) C dX11_leastBy_6 rfl (by decide) rfl rfl ?_
  refine jr_aload_n (q := 8) C 1 dX11_leastBy_7 rfl rfl rfl ?_
  refine jr_iload_n (q := 9) C 2 dX11_leastBy_8 rfl rfl rfl ?_
  refine jr_iload_n (q := 10) C 3 dX11_leastBy_9 rfl rfl rfl ?_
  refine jr_iload_n (q := 11) C 0 dX11_leastBy_10 rfl rfl rfl ?_
  refine jr_bipush (q := 13) (v := (32 : Int32)) C dX11_leastBy_11 (by decide) rfl ?_
  refine jr_irem (q := 14) C dX11_leastBy_13 (by decide) rfl ?_
  refine jr_iload_n (q := 15) C 0 dX11_leastBy_14 rfl rfl rfl ?_
  refine jr_bipush (q := 17) (v := (32 : Int32)) C dX11_leastBy_15 (by decide) rfl ?_
  refine jr_idiv (q := 18) C dX11_leastBy_17 (by decide) rfl ?_
  refine jr_cvI (q := 21) (As := [.int p1, .int p2, .int (r2 - r2 / (32 : Int32) * (32 : Int32)), .int (r2 / (32 : Int32))]) (rest := []) C (f := 26) (i := 0) (ci := 11) mf_26 rfl rfl rfl (kX11_misfitBy l p1 p2 (r2 - r2 / (32 : Int32) * (32 : Int32)) (r2 / (32 : Int32))) rfl gX11_leastBy_X11_misfitBy rfl dsc_X11_misfitBy ⟨rfl, rfl⟩ ⟨by decide, by decide⟩ rfl rfl (Nat.le_of_ble_eq_true rfl) dX11_leastBy_18 rfl h (fun r4 μ3 h => ?_)
  exact jr_iret C hr hk dX11_leastBy_21 h
theorem dsc_X11_many : yX11_many.cls ≠ "java/lang/invoke/MethodHandle" ∧ yX11_many.cls ≠ "java/lang/invoke/VarHandle" ∧ (parseMethodDescriptor yX11_many.desc).map (fun d => d.parameters.length) = some 1 := by decide +kernel
def pX11_many_l4 (Po : Int32 → mm_T → Prop) (E4_24 : mm_T → Int32 → Prop) (K4 : mm_T → Int32 → Int32 → Int32 → Prop) (μ : mm_T) (a0 : Int32) (a1 : Int32) (a2 : Int32) : Prop := ((7 : Int32) ≤ a2 → E4_24 μ a1) ∧ (¬ ((7 : Int32) ≤ a2) → ∀ x1 : Int32, x1 = a1 + ((a0 >>> (a2 &&& 31)) &&& (1 : Int32)) → (K4 μ a0 x1 (a2 + (1 : Int32))))
def pX11_many (Po : Int32 → mm_T → Prop) (μ : mm_T) (p1 : Int32) : Prop := lp_ (fun (K9 : mm_T × Int32 × Int32 × Int32 → Prop) (t9 : mm_T × Int32 × Int32 × Int32) => pX11_many_l4 Po (fun μ c1 => Po c1 μ) (fun μ a0 a1 a2 => K9 (μ, a0, a1, a2)) t9.1 t9.2.1 t9.2.2.1 t9.2.2.2) (μ, p1, (0 : Int32), (0 : Int32))
set_option maxHeartbeats 4000000 in
set_option maxRecDepth 100000 in
theorem kX11_many (l : Launch) (p1 : Int32) : mm_CI l yX11_many wsX11_many ({ frames := 0, cells := 0, slots := 0, locals := 0 }) (fun z => [.int p1]) (fun μ Po => pX11_many Po μ p1) := by
  refine je_I (cc := cX11_many) (nL := 3) (own := RX11) (plainFor_of_name (by decide)) rfl rfl (fun _ => Nat.le_of_ble_eq_true rfl) ?_
  intro p e s m args below meth c D cy z μ Po C hr hk h
  change jJ p l e ({ frames := 0, cells := 0, slots := 0, locals := 0 }) s m args below meth c D cy z (MQ below (va_Qi Po (mm_Po D cy z) (mm_A z)) args s 0 0 (mm_A z)) 3 μ 0 [(0, .int p1)] []
  replace h : pX11_many Po μ p1 := h
  unfold pX11_many at h
  refine jr_iconst (q := 1) (v := (0 : Int32)) C dX11_many_0 (by decide) rfl ?_
  refine jr_istore_n (q := 2) (lv' := [(1, .int (0 : Int32)), (0, .int p1)]) C dX11_many_1 rfl (by decide) rfl rfl ?_
  refine jr_iconst (q := 3) (v := (0 : Int32)) C dX11_many_2 (by decide) rfl ?_
  refine jr_istore_n (q := 4) (lv' := [(2, .int (0 : Int32)), (1, .int (0 : Int32)), (0, .int p1)]) C dX11_many_3 rfl (by decide) rfl rfl ?_
  have l4 : ∀ (E4_24 : mm_T → Int32 → Prop) (hE4_24 : ∀ (μ : mm_T) (c1 : Int32), E4_24 μ c1 → jJ p l e ({ frames := 0, cells := 0, slots := 0, locals := 0 }) s m args below meth c D cy z (MQ below (va_Qi Po (mm_Po D cy z) (mm_A z)) args s 0 0 (mm_A z)) 3 μ 24 [(1, .int c1)] []), ∀ t9 : mm_T × Int32 × Int32 × Int32, lp_ (fun (K9 : mm_T × Int32 × Int32 × Int32 → Prop) (t9 : mm_T × Int32 × Int32 × Int32) => pX11_many_l4 Po E4_24 (fun μ a0 a1 a2 => K9 (μ, a0, a1, a2)) t9.1 t9.2.1 t9.2.2.1 t9.2.2.2) t9 → jJ p l e ({ frames := 0, cells := 0, slots := 0, locals := 0 }) s m args below meth c D cy z (MQ below (va_Qi Po (mm_Po D cy z) (mm_A z)) args s 0 0 (mm_A z)) 3 t9.1 4 [(0, .int t9.2.1), (1, .int t9.2.2.1), (2, .int t9.2.2.2)] [] := by
    intro E4_24 hE4_24 t9 h
    refine lp_go (P := fun t9 : mm_T × Int32 × Int32 × Int32 => jJ p l e ({ frames := 0, cells := 0, slots := 0, locals := 0 }) s m args below meth c D cy z (MQ below (va_Qi Po (mm_Po D cy z) (mm_A z)) args s 0 0 (mm_A z)) 3 t9.1 4 [(0, .int t9.2.1), (1, .int t9.2.2.1), (2, .int t9.2.2.2)] []) (fun K9 t9 hK h => ?_) t9 h
    obtain ⟨μ, a0, a1, a2⟩ := t9
    obtain ⟨K4, eK4⟩ : ∃ K : mm_T → Int32 → Int32 → Int32 → Prop, K = (fun μ a0 a1 a2 => K9 (μ, a0, a1, a2)) := ⟨_, rfl⟩
    have hK4 : ∀ (μ : mm_T) (a0 : Int32) (a1 : Int32) (a2 : Int32), K4 μ a0 a1 a2 → jJ p l e ({ frames := 0, cells := 0, slots := 0, locals := 0 }) s m args below meth c D cy z (MQ below (va_Qi Po (mm_Po D cy z) (mm_A z)) args s 0 0 (mm_A z)) 3 μ 4 [(0, .int a0), (1, .int a1), (2, .int a2)] [] := fun μ a0 a1 a2 h9 => hK (μ, a0, a1, a2) (by rw [eK4] at h9; exact h9)
    replace h : pX11_many_l4 Po E4_24 K4 μ a0 a1 a2 := by rw [eK4]; exact h
    unfold pX11_many_l4 at h
    refine jr_iload_n (q := 5) C 2 dX11_many_4 rfl rfl rfl ?_
    refine jr_bipush (q := 7) (v := (7 : Int32)) C dX11_many_5 (by decide) rfl ?_
    refine jr_icmp_ge (q := 10) (tgt := 24) C dX11_many_7 (by decide) rfl (fun c2 => ?_) (fun c2 => ?_)
    · replace h := h.1 c2
      refine jr_sub [1] rfl ?_
      exact hE4_24 _ _ h
    · replace h := h.2 c2
      refine jr_iload_n (q := 11) C 1 dX11_many_10 rfl rfl rfl ?_
      refine jr_iload_n (q := 12) C 0 dX11_many_11 rfl rfl rfl ?_
      refine jr_iload_n (q := 13) C 2 dX11_many_12 rfl rfl rfl ?_
      refine jr_ishr (q := 14) C dX11_many_13 rfl ?_
      refine jr_iconst (q := 15) (v := (1 : Int32)) C dX11_many_14 (by decide) rfl ?_
      refine jr_iand (q := 16) C dX11_many_15 rfl ?_
      refine jr_iadd (q := 17) C dX11_many_16 rfl ?_
      refine jn_int (fun x1 ex1 => ?_)
      replace h := h x1 ex1
      refine jr_istore_n (q := 18) (lv' := [(1, .int x1), (0, .int a0), (2, .int a2)]) C dX11_many_17 rfl (by decide) rfl rfl ?_
      refine jr_iinc (q := 21) (lv' := [(2, .int (a2 + (1 : Int32))), (1, .int x1), (0, .int a0)]) C 2 dX11_many_18 rfl (by rfl) (by decide) rfl rfl ?_
      refine jr_goto (tgt := 4) C dX11_many_21 (by decide) ?_
      refine jr_sub [2, 1, 0] rfl ?_
      exact hK4 _ _ _ _ h
  have x4_24 : ∀ (μ : mm_T) (c1 : Int32), (Po c1 μ) → jJ p l e ({ frames := 0, cells := 0, slots := 0, locals := 0 }) s m args below meth c D cy z (MQ below (va_Qi Po (mm_Po D cy z) (mm_A z)) args s 0 0 (mm_A z)) 3 μ 24 [(1, .int c1)] [] := by
    intro μ c1 h
    refine jr_iload_n (q := 25) C 0 dX11_many_24 rfl rfl rfl ?_
    exact jr_iret C hr hk dX11_many_25 h
  refine jr_sub [2, 1, 0] rfl ?_
  exact l4 _ x4_24 _ h
theorem mX11_misfit_0 : Cond.constant RX11 178 (-1000001) ∈ wsX11_misfit := List.mem_of_getElem? (i := 2) (by decide +kernel)
theorem nX11_misfit_11 : ∀ w ∈ wsX110, w ∈ wsX11_misfit := fun _ h => List.mem_cons_of_mem _ (List.mem_append_right _ h)
theorem mX11_misfit_2 : Cond.fieldLink RX11 13 RX11 (TX11 3).2.1 (TX11 3).2.2.1 ∈ wsX11_misfit := List.mem_of_getElem? (i := 1) (by decide +kernel)
theorem mX11_misfit_3 : Cond.constant RX11 81 (-1000002) ∈ wsX11_misfit := List.mem_of_getElem? (i := 3) (by decide +kernel)
theorem dsc_X11_misfit : yX11_misfit.cls ≠ "java/lang/invoke/MethodHandle" ∧ yX11_misfit.cls ≠ "java/lang/invoke/VarHandle" ∧ (parseMethodDescriptor yX11_misfit.desc).map (fun d => d.parameters.length) = some 3 := by decide +kernel
def pX11_misfit (Po : Int32 → mm_T → Prop) (μ : mm_T) (p1 : Int32) (p2 : Int32) (p3 : Int32) : Prop := pX11_isNode (fun r2 μ1 => (r2 = 0 → Po (-1000001 : Int32) μ1) ∧ (¬ (r2 = 0) → (vp_in p1 7) ∧ ((¬ (μ1.1 28 0 p1.toNatClampNeg) = 0 → pX11_within (fun r5 μ4 => (r5 = 0 → Po (-1000002 : Int32) μ4) ∧ (¬ (r5 = 0) → pX11_within (fun r7 μ6 => (r7 = 0 → Po (-1000002 : Int32) μ6) ∧ (¬ (r7 = 0) → pX11_rangedBy (fun r9 μ8 => pX11_misfitBy (fun r11 μ10 => Po r11 μ10) μ8 p1 r9 p2 p3) μ6 p1)) μ4 p3 (0 : Int32) (31 : Int32))) μ1 p2 (0 : Int32) (31 : Int32)) ∧ ((μ1.1 28 0 p1.toNatClampNeg) = 0 → Po (-1000001 : Int32) μ1)))) μ p1
set_option maxHeartbeats 4000000 in
set_option maxRecDepth 100000 in
theorem kX11_misfit (l : Launch) (p1 : Int32) (p2 : Int32) (p3 : Int32) : mm_CI l yX11_misfit wsX11_misfit ({ frames := 3, cells := 0, slots := 0, locals := 69 }) (fun z => [.ref (z + mm_ad 26 0), .int p1, .int p2, .int p3]) (fun μ Po => pX11_misfit Po μ p1 p2 p3) := by
  refine je_I (cc := cX11_misfit) (nL := 4) (own := RX11) (plainFor_of_name (by decide)) rfl rfl (fun _ => Nat.le_of_ble_eq_true rfl) ?_
  intro p e s m args below meth c D cy z μ Po C hr hk h
  change jJ p l e ({ frames := 3, cells := 0, slots := 0, locals := 69 }) s m args below meth c D cy z (MQ below (va_Qi Po (mm_Po D cy z) (mm_A z)) args s 0 0 (mm_A z)) 4 μ 0 [(0, .ref (z + mm_ad 26 0)), (1, .int p1), (2, .int p2), (3, .int p3)] []
  replace h : pX11_misfit Po μ p1 p2 p3 := h
  unfold pX11_misfit at h
  refine jr_aload_n (q := 1) C 0 dX11_misfit_0 rfl rfl rfl ?_
  refine jr_iload_n (q := 2) C 1 dX11_misfit_1 rfl rfl rfl ?_
  refine jr_cvI (q := 5) (As := [.int p1]) (rest := []) C (f := 26) (i := 0) (ci := 11) mf_26 rfl rfl rfl (kX11_isNode l p1) rfl gX11_misfit_X11_isNode rfl dsc_X11_isNode ⟨rfl, rfl⟩ ⟨by decide, by decide⟩ rfl rfl (Nat.le_of_ble_eq_true rfl) dX11_misfit_2 rfl h (fun r2 μ1 h => ?_)
  refine jr_if_eq (q := 8) (tgt := 17) C dX11_misfit_5 (by decide) rfl (fun c15 => ?_) (fun c15 => ?_)
  · replace h := h.1 c15
    refine jr_ldc (q := 19) (v := (-1000001 : Int32)) C dX11_misfit_17 mX11_misfit_0 rfl ?_
    exact jr_iret C hr hk dX11_misfit_19 h
  · replace h := h.2 c15
    refine jr_aload_n (q := 9) C 0 dX11_misfit_8 rfl rfl rfl ?_
    refine jr_getR (q := 12) (ci := 11) (Cn := RX11) (T := TX11) (N := 42) (j := 3) C mf_26 rfl rfl (by decide) rfl 28 0 rfl rfl rfl nX11_misfit_11 mX11_misfit_2 dX11_misfit_9 rfl rfl ?_
    refine jr_iload_n (q := 13) C 1 dX11_misfit_12 rfl rfl rfl ?_
    obtain ⟨g3, h⟩ := h
    refine jr_zald (q := 14) C mf_28 rfl g3 dX11_misfit_13 rfl ?_
    refine jr_if_ne (q := 17) (tgt := 20) C dX11_misfit_14 (by decide) rfl (fun c14 => ?_) (fun c14 => ?_)
    · replace h := h.1 c14
      refine jr_iload_n (q := 21) C 2 dX11_misfit_20 rfl rfl rfl ?_
      refine jr_iconst (q := 22) (v := (0 : Int32)) C dX11_misfit_21 (by decide) rfl ?_
      refine jr_bipush (q := 24) (v := (31 : Int32)) C dX11_misfit_22 (by decide) rfl ?_
      refine jr_csI (q := 27) (As := [.int p2, .int (0 : Int32), .int (31 : Int32)]) (rest := []) C  (kX11_within l p2 (0 : Int32) (31 : Int32)) rfl gX11_misfit_X11_within rfl dsc_X11_within ⟨rfl, rfl⟩ ⟨by decide, by decide⟩ rfl rfl (Nat.le_of_ble_eq_true rfl) dX11_misfit_24 rfl h (fun r5 μ4 h => ?_)
      refine jr_if_eq (q := 30) (tgt := 55) C dX11_misfit_27 (by decide) rfl (fun c13 => ?_) (fun c13 => ?_)
      · replace h := h.1 c13
        refine jr_ldc (q := 57) (v := (-1000002 : Int32)) C dX11_misfit_55 mX11_misfit_3 rfl ?_
        exact jr_iret C hr hk dX11_misfit_57 h
      · replace h := h.2 c13
        refine jr_iload_n (q := 31) C 3 dX11_misfit_30 rfl rfl rfl ?_
        refine jr_iconst (q := 32) (v := (0 : Int32)) C dX11_misfit_31 (by decide) rfl ?_
        refine jr_bipush (q := 34) (v := (31 : Int32)) C dX11_misfit_32 (by decide) rfl ?_
        refine jr_csI (q := 37) (As := [.int p3, .int (0 : Int32), .int (31 : Int32)]) (rest := []) C  (kX11_within l p3 (0 : Int32) (31 : Int32)) rfl gX11_misfit_X11_within rfl dsc_X11_within ⟨rfl, rfl⟩ ⟨by decide, by decide⟩ rfl rfl (Nat.le_of_ble_eq_true rfl) dX11_misfit_34 rfl h (fun r7 μ6 h => ?_)
        refine jr_if_eq (q := 40) (tgt := 55) C dX11_misfit_37 (by decide) rfl (fun c12 => ?_) (fun c12 => ?_)
        · replace h := h.1 c12
          refine jr_ldc (q := 57) (v := (-1000002 : Int32)) C dX11_misfit_55 mX11_misfit_3 rfl ?_
          exact jr_iret C hr hk dX11_misfit_57 h
        · replace h := h.2 c12
          refine jr_aload_n (q := 41) C 0 dX11_misfit_40 rfl rfl rfl ?_
          refine jr_iload_n (q := 42) C 1 dX11_misfit_41 rfl rfl rfl ?_
          refine jr_aload_n (q := 43) C 0 dX11_misfit_42 rfl rfl rfl ?_
          refine jr_iload_n (q := 44) C 1 dX11_misfit_43 rfl rfl rfl ?_
          refine jr_cvI (q := 47) (As := [.int p1]) (rest := [.int p1, .ref (z + mm_ad 26 0)]) C (f := 26) (i := 0) (ci := 11) mf_26 rfl rfl rfl (kX11_rangedBy l p1) rfl gX11_misfit_X11_rangedBy rfl dsc_X11_rangedBy ⟨rfl, rfl⟩ ⟨by decide, by decide⟩ rfl rfl (Nat.le_of_ble_eq_true rfl) dX11_misfit_44 rfl h (fun r9 μ8 h => ?_)
          refine jr_iload_n (q := 48) C 2 dX11_misfit_47 rfl rfl rfl ?_
          refine jr_iload_n (q := 49) C 3 dX11_misfit_48 rfl rfl rfl ?_
          refine jr_cvI (q := 52) (As := [.int p1, .int r9, .int p2, .int p3]) (rest := []) C (f := 26) (i := 0) (ci := 11) mf_26 rfl rfl rfl (kX11_misfitBy l p1 r9 p2 p3) rfl gX11_misfit_X11_misfitBy rfl dsc_X11_misfitBy ⟨rfl, rfl⟩ ⟨by decide, by decide⟩ rfl rfl (Nat.le_of_ble_eq_true rfl) dX11_misfit_49 rfl h (fun r11 μ10 h => ?_)
          refine jr_goto (tgt := 57) C dX11_misfit_52 (by decide) ?_
          exact jr_iret C hr hk dX11_misfit_57 h
    · replace h := h.2 c14
      refine jr_ldc (q := 19) (v := (-1000001 : Int32)) C dX11_misfit_17 mX11_misfit_0 rfl ?_
      exact jr_iret C hr hk dX11_misfit_19 h
theorem nX11_worstOf_11 : ∀ w ∈ wsX110, w ∈ wsX11_worstOf := fun _ h => List.mem_cons_of_mem _ (List.mem_append_right _ h)
theorem mX11_worstOf_1 : Cond.fieldLink RX11 129 RX11 (TX11 2).2.1 (TX11 2).2.2.1 ∈ wsX11_worstOf := List.mem_of_getElem? (i := 1) (by decide +kernel)
theorem dsc_X11_worstOf : yX11_worstOf.cls ≠ "java/lang/invoke/MethodHandle" ∧ yX11_worstOf.cls ≠ "java/lang/invoke/VarHandle" ∧ (parseMethodDescriptor yX11_worstOf.desc).map (fun d => d.parameters.length) = some 2 := by decide +kernel
def pX11_worstOf_b72 (K8 : mm_T → Int32 → Int32 → Int32 → Int32 → Int32 → Prop) (μ : mm_T) (a1 : Int32) (a2 : Int32) (a4 : Int32) (a5 : Int32) (a6 : Int32) (a7 : Int32) (as0 : Int32) : Prop := (a7 = 0 → K8 μ a1 a2 as0 a4 (a5 + (1 : Int32))) ∧ (¬ (a7 = 0) → K8 μ a1 a2 as0 a6 (a5 + (1 : Int32)))
def pX11_worstOf_b59 (K8 : mm_T → Int32 → Int32 → Int32 → Int32 → Int32 → Prop) (μ : mm_T) (a1 : Int32) (a2 : Int32) (a3 : Int32) (a4 : Int32) (a5 : Int32) (a6 : Int32) (as0 : Int32) : Prop := (as0 = 0 → pX11_worstOf_b72 K8 μ a1 a2 a4 a5 a6 as0 a3) ∧ (¬ (as0 = 0) → pX11_worstOf_b72 K8 μ a1 a2 a4 a5 a6 as0 a5)
def pX11_worstOf_b54 (K8 : mm_T → Int32 → Int32 → Int32 → Int32 → Int32 → Prop) (μ : mm_T) (a1 : Int32) (a2 : Int32) (a3 : Int32) (a4 : Int32) (a5 : Int32) (a6 : Int32) : Prop := pX11_worstOf_b59 K8 μ a1 a2 a3 a4 a5 a6 (1 : Int32)
def pX11_worstOf_l8 (Po : Int32 → mm_T → Prop) (E8_93 : mm_T → Int32 → Prop) (K8 : mm_T → Int32 → Int32 → Int32 → Int32 → Int32 → Prop) (μ : mm_T) (a1 : Int32) (a2 : Int32) (a3 : Int32) (a4 : Int32) (a5 : Int32) : Prop := ((μ.1 26 0 2) ≤ a5 → E8_93 μ a3) ∧ (¬ ((μ.1 26 0 2) ≤ a5) → (¬ ((a2 >>> (a5 &&& 31)) &&& (1 : Int32)) = (1 : Int32) → K8 μ a1 a2 a3 a4 (a5 + (1 : Int32))) ∧ (((a2 >>> (a5 &&& 31)) &&& (1 : Int32)) = (1 : Int32) → pX11_leastBy (fun r2 μ1 => (a3 = (-1 : Int32) → pX11_worstOf_b54 K8 μ1 a1 a2 a3 a4 a5 r2) ∧ (¬ (a3 = (-1 : Int32)) → (a4 ≤ r2 → pX11_worstOf_b59 K8 μ1 a1 a2 a3 a4 a5 r2 (0 : Int32)) ∧ (¬ (a4 ≤ r2) → pX11_worstOf_b54 K8 μ1 a1 a2 a3 a4 a5 r2))) μ a1 (a2 &&& (((1 : Int32) <<< (a5 &&& 31)) ^^^ (-1 : Int32)))))
def pX11_worstOf (Po : Int32 → mm_T → Prop) (μ : mm_T) (p1 : Int32) (p2 : Int32) : Prop := lp_ (fun (K9 : mm_T × Int32 × Int32 × Int32 × Int32 × Int32 → Prop) (t9 : mm_T × Int32 × Int32 × Int32 × Int32 × Int32) => pX11_worstOf_l8 Po (fun μ c3 => Po c3 μ) (fun μ a1 a2 a3 a4 a5 => K9 (μ, a1, a2, a3, a4, a5)) t9.1 t9.2.1 t9.2.2.1 t9.2.2.2.1 t9.2.2.2.2.1 t9.2.2.2.2.2) (μ, p1, p2, (-1 : Int32), (0 : Int32), (0 : Int32))
set_option maxHeartbeats 4000000 in
set_option maxRecDepth 100000 in
theorem kX11_worstOf (l : Launch) (p1 : Int32) (p2 : Int32) : mm_CI l yX11_worstOf wsX11_worstOf ({ frames := 5, cells := 0, slots := 0, locals := 118 }) (fun z => [.ref (z + mm_ad 26 0), .int p1, .int p2]) (fun μ Po => pX11_worstOf Po μ p1 p2) := by
  refine je_I (cc := cX11_worstOf) (nL := 8) (own := RX11) (plainFor_of_name (by decide)) rfl rfl (fun _ => Nat.le_of_ble_eq_true rfl) ?_
  intro p e s m args below meth c D cy z μ Po C hr hk h
  change jJ p l e ({ frames := 5, cells := 0, slots := 0, locals := 118 }) s m args below meth c D cy z (MQ below (va_Qi Po (mm_Po D cy z) (mm_A z)) args s 0 0 (mm_A z)) 8 μ 0 [(0, .ref (z + mm_ad 26 0)), (1, .int p1), (2, .int p2)] []
  replace h : pX11_worstOf Po μ p1 p2 := h
  unfold pX11_worstOf at h
  refine jr_iconst (q := 1) (v := (-1 : Int32)) C dX11_worstOf_0 (by decide) rfl ?_
  refine jr_istore_n (q := 2) (lv' := [(3, .int (-1 : Int32)), (0, .ref (z + mm_ad 26 0)), (1, .int p1), (2, .int p2)]) C dX11_worstOf_1 rfl (by decide) rfl rfl ?_
  refine jr_iconst (q := 3) (v := (0 : Int32)) C dX11_worstOf_2 (by decide) rfl ?_
  refine jr_istore (q := 5) (lv' := [(4, .int (0 : Int32)), (3, .int (-1 : Int32)), (0, .ref (z + mm_ad 26 0)), (1, .int p1), (2, .int p2)]) C dX11_worstOf_3 (by decide) rfl rfl ?_
  refine jr_iconst (q := 6) (v := (0 : Int32)) C dX11_worstOf_5 (by decide) rfl ?_
  refine jr_istore (q := 8) (lv' := [(5, .int (0 : Int32)), (4, .int (0 : Int32)), (3, .int (-1 : Int32)), (0, .ref (z + mm_ad 26 0)), (1, .int p1), (2, .int p2)]) C dX11_worstOf_6 (by decide) rfl rfl ?_
  have l8 : ∀ (E8_93 : mm_T → Int32 → Prop) (hE8_93 : ∀ (μ : mm_T) (c3 : Int32), E8_93 μ c3 → jJ p l e ({ frames := 5, cells := 0, slots := 0, locals := 118 }) s m args below meth c D cy z (MQ below (va_Qi Po (mm_Po D cy z) (mm_A z)) args s 0 0 (mm_A z)) 8 μ 93 [(3, .int c3)] []), ∀ t9 : mm_T × Int32 × Int32 × Int32 × Int32 × Int32, lp_ (fun (K9 : mm_T × Int32 × Int32 × Int32 × Int32 × Int32 → Prop) (t9 : mm_T × Int32 × Int32 × Int32 × Int32 × Int32) => pX11_worstOf_l8 Po E8_93 (fun μ a1 a2 a3 a4 a5 => K9 (μ, a1, a2, a3, a4, a5)) t9.1 t9.2.1 t9.2.2.1 t9.2.2.2.1 t9.2.2.2.2.1 t9.2.2.2.2.2) t9 → jJ p l e ({ frames := 5, cells := 0, slots := 0, locals := 118 }) s m args below meth c D cy z (MQ below (va_Qi Po (mm_Po D cy z) (mm_A z)) args s 0 0 (mm_A z)) 8 t9.1 8 [(0, .ref (z + mm_ad 26 0)), (1, .int t9.2.1), (2, .int t9.2.2.1), (3, .int t9.2.2.2.1), (4, .int t9.2.2.2.2.1), (5, .int t9.2.2.2.2.2)] [] := by
    intro E8_93 hE8_93 t9 h
    refine lp_go (P := fun t9 : mm_T × Int32 × Int32 × Int32 × Int32 × Int32 => jJ p l e ({ frames := 5, cells := 0, slots := 0, locals := 118 }) s m args below meth c D cy z (MQ below (va_Qi Po (mm_Po D cy z) (mm_A z)) args s 0 0 (mm_A z)) 8 t9.1 8 [(0, .ref (z + mm_ad 26 0)), (1, .int t9.2.1), (2, .int t9.2.2.1), (3, .int t9.2.2.2.1), (4, .int t9.2.2.2.2.1), (5, .int t9.2.2.2.2.2)] []) (fun K9 t9 hK h => ?_) t9 h
    obtain ⟨μ, a1, a2, a3, a4, a5⟩ := t9
    obtain ⟨K8, eK8⟩ : ∃ K : mm_T → Int32 → Int32 → Int32 → Int32 → Int32 → Prop, K = (fun μ a1 a2 a3 a4 a5 => K9 (μ, a1, a2, a3, a4, a5)) := ⟨_, rfl⟩
    have hK8 : ∀ (μ : mm_T) (a1 : Int32) (a2 : Int32) (a3 : Int32) (a4 : Int32) (a5 : Int32), K8 μ a1 a2 a3 a4 a5 → jJ p l e ({ frames := 5, cells := 0, slots := 0, locals := 118 }) s m args below meth c D cy z (MQ below (va_Qi Po (mm_Po D cy z) (mm_A z)) args s 0 0 (mm_A z)) 8 μ 8 [(0, .ref (z + mm_ad 26 0)), (1, .int a1), (2, .int a2), (3, .int a3), (4, .int a4), (5, .int a5)] [] := fun μ a1 a2 a3 a4 a5 h9 => hK (μ, a1, a2, a3, a4, a5) (by rw [eK8] at h9; exact h9)
    replace h : pX11_worstOf_l8 Po E8_93 K8 μ a1 a2 a3 a4 a5 := by rw [eK8]; exact h
    unfold pX11_worstOf_l8 at h
    refine jr_iload (q := 10) C 5 dX11_worstOf_8 rfl rfl ?_
    refine jr_aload_n (q := 11) C 0 dX11_worstOf_10 rfl rfl rfl ?_
    refine jr_getI (q := 14) (ci := 11) (Cn := RX11) (T := TX11) (N := 42) (j := 2) C mf_26 rfl rfl (by decide) rfl rfl nX11_worstOf_11 mX11_worstOf_1 dX11_worstOf_11 rfl rfl ?_
    refine jr_icmp_ge (q := 17) (tgt := 93) C dX11_worstOf_14 (by decide) rfl (fun c8 => ?_) (fun c8 => ?_)
    · replace h := h.1 c8
      refine jr_sub [3] rfl ?_
      exact hE8_93 _ _ h
    · replace h := h.2 c8
      refine jr_iload_n (q := 18) C 2 dX11_worstOf_17 rfl rfl rfl ?_
      refine jr_iload (q := 20) C 5 dX11_worstOf_18 rfl rfl ?_
      refine jr_ishr (q := 21) C dX11_worstOf_20 rfl ?_
      refine jr_iconst (q := 22) (v := (1 : Int32)) C dX11_worstOf_21 (by decide) rfl ?_
      refine jr_iand (q := 23) C dX11_worstOf_22 rfl ?_
      refine jr_iconst (q := 24) (v := (1 : Int32)) C dX11_worstOf_23 (by decide) rfl ?_
      refine jr_icmp_ne (q := 27) (tgt := 87) C dX11_worstOf_24 (by decide) rfl (fun c7 => ?_) (fun c7 => ?_)
      · replace h := h.1 c7
        refine jr_iinc (q := 90) (lv' := [(5, .int (a5 + (1 : Int32))), (0, .ref (z + mm_ad 26 0)), (1, .int a1), (2, .int a2), (3, .int a3), (4, .int a4)]) C 5 dX11_worstOf_87 rfl (by rfl) (by decide) rfl rfl ?_
        refine jr_goto (tgt := 8) C dX11_worstOf_90 (by decide) ?_
        refine jr_sub [1, 2, 3, 4, 5, 0] rfl ?_
        exact hK8 _ _ _ _ _ _ h
      · replace h := h.2 c7
        refine jr_aload_n (q := 28) C 0 dX11_worstOf_27 rfl rfl rfl ?_
        refine jr_iload_n (q := 29) C 1 dX11_worstOf_28 rfl rfl rfl ?_
        refine jr_iload_n (q := 30) C 2 dX11_worstOf_29 rfl rfl rfl ?_
        refine jr_iconst (q := 31) (v := (1 : Int32)) C dX11_worstOf_30 (by decide) rfl ?_
        refine jr_iload (q := 33) C 5 dX11_worstOf_31 rfl rfl ?_
        refine jr_ishl (q := 34) C dX11_worstOf_33 rfl ?_
        refine jr_iconst (q := 35) (v := (-1 : Int32)) C dX11_worstOf_34 (by decide) rfl ?_
        refine jr_ixor (q := 36) C dX11_worstOf_35 rfl ?_
        refine jr_iand (q := 37) C dX11_worstOf_36 rfl ?_
        refine jr_cvI (q := 40) (As := [.int a1, .int (a2 &&& (((1 : Int32) <<< (a5 &&& 31)) ^^^ (-1 : Int32)))]) (rest := []) C (f := 26) (i := 0) (ci := 11) mf_26 rfl rfl rfl (kX11_leastBy l a1 (a2 &&& (((1 : Int32) <<< (a5 &&& 31)) ^^^ (-1 : Int32)))) rfl gX11_worstOf_X11_leastBy rfl dsc_X11_leastBy ⟨rfl, rfl⟩ ⟨by decide, by decide⟩ rfl rfl (Nat.le_of_ble_eq_true rfl) dX11_worstOf_37 rfl h (fun r2 μ1 h => ?_)
        refine jr_istore (q := 42) (lv' := [(6, .int r2), (0, .ref (z + mm_ad 26 0)), (1, .int a1), (2, .int a2), (3, .int a3), (4, .int a4), (5, .int a5)]) C dX11_worstOf_40 (by decide) rfl rfl ?_
        refine jr_iload_n (q := 43) C 4 dX11_worstOf_42 rfl rfl rfl ?_
        refine jr_iconst (q := 44) (v := (-1 : Int32)) C dX11_worstOf_43 (by decide) rfl ?_
        have b59 : ∀ (μ : mm_T) (a1 : Int32) (a2 : Int32) (a3 : Int32) (a4 : Int32) (a5 : Int32) (a6 : Int32) (as0 : Int32), pX11_worstOf_b59 K8 μ a1 a2 a3 a4 a5 a6 as0 → jJ p l e ({ frames := 5, cells := 0, slots := 0, locals := 118 }) s m args below meth c D cy z (MQ below (va_Qi Po (mm_Po D cy z) (mm_A z)) args s 0 0 (mm_A z)) 8 μ 59 [(0, .ref (z + mm_ad 26 0)), (1, .int a1), (2, .int a2), (3, .int a3), (4, .int a4), (5, .int a5), (6, .int a6)] [.int as0] := by
          intro μ a1 a2 a3 a4 a5 a6 as0 h
          unfold pX11_worstOf_b59 at h
          refine jr_istore (q := 61) (lv' := [(7, .int as0), (0, .ref (z + mm_ad 26 0)), (1, .int a1), (2, .int a2), (3, .int a3), (4, .int a4), (5, .int a5), (6, .int a6)]) C dX11_worstOf_59 (by decide) rfl rfl ?_
          refine jr_iload (q := 63) C 0 dX11_worstOf_61 rfl rfl ?_
          have b72 : ∀ (μ : mm_T) (a1 : Int32) (a2 : Int32) (a4 : Int32) (a5 : Int32) (a6 : Int32) (a7 : Int32) (as0 : Int32), pX11_worstOf_b72 K8 μ a1 a2 a4 a5 a6 a7 as0 → jJ p l e ({ frames := 5, cells := 0, slots := 0, locals := 118 }) s m args below meth c D cy z (MQ below (va_Qi Po (mm_Po D cy z) (mm_A z)) args s 0 0 (mm_A z)) 8 μ 72 [(0, .ref (z + mm_ad 26 0)), (1, .int a1), (2, .int a2), (4, .int a4), (5, .int a5), (6, .int a6), (7, .int a7)] [.int as0] := by
            intro μ a1 a2 a4 a5 a6 a7 as0 h
            unfold pX11_worstOf_b72 at h
            refine jr_istore_n (q := 73) (lv' := [(3, .int as0), (0, .ref (z + mm_ad 26 0)), (1, .int a1), (2, .int a2), (4, .int a4), (5, .int a5), (6, .int a6), (7, .int a7)]) C dX11_worstOf_72 rfl (by decide) rfl rfl ?_
            refine jr_iload (q := 75) C 7 dX11_worstOf_73 rfl rfl ?_
            refine jr_if_eq (q := 78) (tgt := 83) C dX11_worstOf_75 (by decide) rfl (fun c3 => ?_) (fun c3 => ?_)
            · replace h := h.1 c3
              refine jr_iload (q := 85) C 4 dX11_worstOf_83 rfl rfl ?_
              refine jr_istore (q := 87) (lv' := [(4, .int a4), (3, .int as0), (0, .ref (z + mm_ad 26 0)), (1, .int a1), (2, .int a2), (5, .int a5), (6, .int a6), (7, .int a7)]) C dX11_worstOf_85 (by decide) rfl rfl ?_
              refine jr_iinc (q := 90) (lv' := [(5, .int (a5 + (1 : Int32))), (4, .int a4), (3, .int as0), (0, .ref (z + mm_ad 26 0)), (1, .int a1), (2, .int a2), (6, .int a6), (7, .int a7)]) C 5 dX11_worstOf_87 rfl (by rfl) (by decide) rfl rfl ?_
              refine jr_goto (tgt := 8) C dX11_worstOf_90 (by decide) ?_
              refine jr_sub [3, 4, 5, 2, 1, 0] rfl ?_
              exact hK8 _ _ _ _ _ _ h
            · replace h := h.2 c3
              refine jr_iload (q := 80) C 6 dX11_worstOf_78 rfl rfl ?_
              refine jr_goto (tgt := 85) C dX11_worstOf_80 (by decide) ?_
              refine jr_istore (q := 87) (lv' := [(4, .int a6), (3, .int as0), (0, .ref (z + mm_ad 26 0)), (1, .int a1), (2, .int a2), (5, .int a5), (6, .int a6), (7, .int a7)]) C dX11_worstOf_85 (by decide) rfl rfl ?_
              refine jr_iinc (q := 90) (lv' := [(5, .int (a5 + (1 : Int32))), (4, .int a6), (3, .int as0), (0, .ref (z + mm_ad 26 0)), (1, .int a1), (2, .int a2), (6, .int a6), (7, .int a7)]) C 5 dX11_worstOf_87 rfl (by rfl) (by decide) rfl rfl ?_
              refine jr_goto (tgt := 8) C dX11_worstOf_90 (by decide) ?_
              refine jr_sub [3, 4, 5, 2, 1, 0] rfl ?_
              exact hK8 _ _ _ _ _ _ h
          refine jr_if_eq (q := 66) (tgt := 71) C dX11_worstOf_63 (by decide) rfl (fun c4 => ?_) (fun c4 => ?_)
          · replace h := h.1 c4
            refine jr_iload_n (q := 72) C 4 dX11_worstOf_71 rfl rfl rfl ?_
            refine jr_sub [1, 2, 3, 5, 6, 7, 0] rfl ?_
            exact b72 _ _ _ _ _ _ _ _ h
          · replace h := h.2 c4
            refine jr_iload (q := 68) C 6 dX11_worstOf_66 rfl rfl ?_
            refine jr_goto (tgt := 72) C dX11_worstOf_68 (by decide) ?_
            refine jr_sub [1, 2, 3, 5, 6, 7, 0] rfl ?_
            exact b72 _ _ _ _ _ _ _ _ h
        have b54 : ∀ (μ : mm_T) (a1 : Int32) (a2 : Int32) (a3 : Int32) (a4 : Int32) (a5 : Int32) (a6 : Int32), pX11_worstOf_b54 K8 μ a1 a2 a3 a4 a5 a6 → jJ p l e ({ frames := 5, cells := 0, slots := 0, locals := 118 }) s m args below meth c D cy z (MQ below (va_Qi Po (mm_Po D cy z) (mm_A z)) args s 0 0 (mm_A z)) 8 μ 54 [(0, .ref (z + mm_ad 26 0)), (1, .int a1), (2, .int a2), (3, .int a3), (4, .int a4), (5, .int a5), (6, .int a6)] [] := by
          intro μ a1 a2 a3 a4 a5 a6 h
          unfold pX11_worstOf_b54 at h
          refine jr_iconst (q := 55) (v := (1 : Int32)) C dX11_worstOf_54 (by decide) rfl ?_
          refine jr_goto (tgt := 59) C dX11_worstOf_55 (by decide) ?_
          refine jr_sub [0, 1, 2, 3, 4, 5, 6] rfl ?_
          exact b59 _ _ _ _ _ _ _ _ h
        refine jr_icmp_eq (q := 47) (tgt := 54) C dX11_worstOf_44 (by decide) rfl (fun c6 => ?_) (fun c6 => ?_)
        · replace h := h.1 c6
          refine jr_sub [1, 2, 3, 4, 5, 6, 0] rfl ?_
          exact b54 _ _ _ _ _ _ _ h
        · replace h := h.2 c6
          refine jr_iload (q := 49) C 0 dX11_worstOf_47 rfl rfl ?_
          refine jr_iload (q := 51) C 5 dX11_worstOf_49 rfl rfl ?_
          refine jr_icmp_ge (q := 54) (tgt := 58) C dX11_worstOf_51 (by decide) rfl (fun c5 => ?_) (fun c5 => ?_)
          · replace h := h.1 c5
            refine jr_iconst (q := 59) (v := (0 : Int32)) C dX11_worstOf_58 (by decide) rfl ?_
            refine jr_sub [1, 2, 3, 4, 5, 6, 0] rfl ?_
            exact b59 _ _ _ _ _ _ _ _ h
          · replace h := h.2 c5
            refine jr_sub [1, 2, 3, 4, 5, 6, 0] rfl ?_
            exact b54 _ _ _ _ _ _ _ h
  have x8_93 : ∀ (μ : mm_T) (c3 : Int32), (Po c3 μ) → jJ p l e ({ frames := 5, cells := 0, slots := 0, locals := 118 }) s m args below meth c D cy z (MQ below (va_Qi Po (mm_Po D cy z) (mm_A z)) args s 0 0 (mm_A z)) 8 μ 93 [(3, .int c3)] [] := by
    intro μ c3 h
    refine jr_iload_n (q := 94) C 0 dX11_worstOf_93 rfl rfl rfl ?_
    exact jr_iret C hr hk dX11_worstOf_94 h
  refine jr_sub [3, 4, 5, 2, 1, 0] rfl ?_
  exact l8 _ x8_93 _ h
theorem nX11_leftOf_11 : ∀ w ∈ wsX110, w ∈ wsX11_leftOf := fun _ h => List.mem_cons_of_mem _ (List.mem_append_right _ h)
theorem mX11_leftOf_1 : Cond.fieldLink RX11 146 RX11 (TX11 19).2.1 (TX11 19).2.2.1 ∈ wsX11_leftOf := List.mem_of_getElem? (i := 1) (by decide +kernel)
theorem dsc_X11_leftOf : yX11_leftOf.cls ≠ "java/lang/invoke/MethodHandle" ∧ yX11_leftOf.cls ≠ "java/lang/invoke/VarHandle" ∧ (parseMethodDescriptor yX11_leftOf.desc).map (fun d => d.parameters.length) = some 1 := by decide +kernel
def pX11_leftOf_l6 (Po : Int32 → mm_T → Prop) (E6_43 : mm_T → Int32 → Prop) (K6 : mm_T → Int32 → Int32 → Prop) (μ : mm_T) (a1 : Int32) (a2 : Int32) : Prop := pX11_many (fun r4 μ3 => (r4 ≤ (3 : Int32) → E6_43 μ3 a2) ∧ (¬ (r4 ≤ (3 : Int32)) → pX11_leastBy (fun r6 μ5 => (r6 ≤ (μ5.1 26 0 19) → E6_43 μ5 a2) ∧ (¬ (r6 ≤ (μ5.1 26 0 19)) → pX11_worstOf (fun r8 μ7 => ∀ x9 : Int32, x9 = a2 &&& (((1 : Int32) <<< (r8 &&& 31)) ^^^ (-1 : Int32)) → (K6 μ7 a1 x9)) μ5 a1 a2)) μ3 a1 a2)) μ a2
def pX11_leftOf (Po : Int32 → mm_T → Prop) (μ : mm_T) (p1 : Int32) : Prop := pX11_rangedBy (fun r2 μ1 => lp_ (fun (K9 : mm_T × Int32 × Int32 → Prop) (t9 : mm_T × Int32 × Int32) => pX11_leftOf_l6 Po (fun μ c2 => Po c2 μ) (fun μ a1 a2 => K9 (μ, a1, a2)) t9.1 t9.2.1 t9.2.2) (μ1, p1, r2)) μ p1
set_option maxHeartbeats 4000000 in
set_option maxRecDepth 100000 in
theorem kX11_leftOf (l : Launch) (p1 : Int32) : mm_CI l yX11_leftOf wsX11_leftOf ({ frames := 6, cells := 0, slots := 0, locals := 145 }) (fun z => [.ref (z + mm_ad 26 0), .int p1]) (fun μ Po => pX11_leftOf Po μ p1) := by
  refine je_I (cc := cX11_leftOf) (nL := 3) (own := RX11) (plainFor_of_name (by decide)) rfl rfl (fun _ => Nat.le_of_ble_eq_true rfl) ?_
  intro p e s m args below meth c D cy z μ Po C hr hk h
  change jJ p l e ({ frames := 6, cells := 0, slots := 0, locals := 145 }) s m args below meth c D cy z (MQ below (va_Qi Po (mm_Po D cy z) (mm_A z)) args s 0 0 (mm_A z)) 3 μ 0 [(0, .ref (z + mm_ad 26 0)), (1, .int p1)] []
  replace h : pX11_leftOf Po μ p1 := h
  unfold pX11_leftOf at h
  refine jr_aload_n (q := 1) C 0 dX11_leftOf_0 rfl rfl rfl ?_
  refine jr_iload_n (q := 2) C 1 dX11_leftOf_1 rfl rfl rfl ?_
  refine jr_cvI (q := 5) (As := [.int p1]) (rest := []) C (f := 26) (i := 0) (ci := 11) mf_26 rfl rfl rfl (kX11_rangedBy l p1) rfl gX11_leftOf_X11_rangedBy rfl dsc_X11_rangedBy ⟨rfl, rfl⟩ ⟨by decide, by decide⟩ rfl rfl (Nat.le_of_ble_eq_true rfl) dX11_leftOf_2 rfl h (fun r2 μ1 h => ?_)
  refine jr_istore_n (q := 6) (lv' := [(2, .int r2), (0, .ref (z + mm_ad 26 0)), (1, .int p1)]) C dX11_leftOf_5 rfl (by decide) rfl rfl ?_
  have l6 : ∀ (E6_43 : mm_T → Int32 → Prop) (hE6_43 : ∀ (μ : mm_T) (c2 : Int32), E6_43 μ c2 → jJ p l e ({ frames := 6, cells := 0, slots := 0, locals := 145 }) s m args below meth c D cy z (MQ below (va_Qi Po (mm_Po D cy z) (mm_A z)) args s 0 0 (mm_A z)) 3 μ 43 [(2, .int c2)] []), ∀ t9 : mm_T × Int32 × Int32, lp_ (fun (K9 : mm_T × Int32 × Int32 → Prop) (t9 : mm_T × Int32 × Int32) => pX11_leftOf_l6 Po E6_43 (fun μ a1 a2 => K9 (μ, a1, a2)) t9.1 t9.2.1 t9.2.2) t9 → jJ p l e ({ frames := 6, cells := 0, slots := 0, locals := 145 }) s m args below meth c D cy z (MQ below (va_Qi Po (mm_Po D cy z) (mm_A z)) args s 0 0 (mm_A z)) 3 t9.1 6 [(0, .ref (z + mm_ad 26 0)), (1, .int t9.2.1), (2, .int t9.2.2)] [] := by
    intro E6_43 hE6_43 t9 h
    refine lp_go (P := fun t9 : mm_T × Int32 × Int32 => jJ p l e ({ frames := 6, cells := 0, slots := 0, locals := 145 }) s m args below meth c D cy z (MQ below (va_Qi Po (mm_Po D cy z) (mm_A z)) args s 0 0 (mm_A z)) 3 t9.1 6 [(0, .ref (z + mm_ad 26 0)), (1, .int t9.2.1), (2, .int t9.2.2)] []) (fun K9 t9 hK h => ?_) t9 h
    obtain ⟨μ, a1, a2⟩ := t9
    obtain ⟨K6, eK6⟩ : ∃ K : mm_T → Int32 → Int32 → Prop, K = (fun μ a1 a2 => K9 (μ, a1, a2)) := ⟨_, rfl⟩
    have hK6 : ∀ (μ : mm_T) (a1 : Int32) (a2 : Int32), K6 μ a1 a2 → jJ p l e ({ frames := 6, cells := 0, slots := 0, locals := 145 }) s m args below meth c D cy z (MQ below (va_Qi Po (mm_Po D cy z) (mm_A z)) args s 0 0 (mm_A z)) 3 μ 6 [(0, .ref (z + mm_ad 26 0)), (1, .int a1), (2, .int a2)] [] := fun μ a1 a2 h9 => hK (μ, a1, a2) (by rw [eK6] at h9; exact h9)
    replace h : pX11_leftOf_l6 Po E6_43 K6 μ a1 a2 := by rw [eK6]; exact h
    unfold pX11_leftOf_l6 at h
    refine jr_iload_n (q := 7) C 2 dX11_leftOf_6 rfl rfl rfl ?_
    refine jr_csI (q := 10) (As := [.int a2]) (rest := []) C  (kX11_many l a2) rfl gX11_leftOf_X11_many rfl dsc_X11_many ⟨rfl, rfl⟩ ⟨by decide, by decide⟩ rfl rfl (Nat.le_of_ble_eq_true rfl) dX11_leftOf_7 rfl h (fun r4 μ3 h => ?_)
    refine jr_iconst (q := 11) (v := (3 : Int32)) C dX11_leftOf_10 (by decide) rfl ?_
    refine jr_icmp_le (q := 14) (tgt := 43) C dX11_leftOf_11 (by decide) rfl (fun c11 => ?_) (fun c11 => ?_)
    · replace h := h.1 c11
      refine jr_sub [2] rfl ?_
      exact hE6_43 _ _ h
    · replace h := h.2 c11
      refine jr_aload_n (q := 15) C 0 dX11_leftOf_14 rfl rfl rfl ?_
      refine jr_iload_n (q := 16) C 1 dX11_leftOf_15 rfl rfl rfl ?_
      refine jr_iload_n (q := 17) C 2 dX11_leftOf_16 rfl rfl rfl ?_
      refine jr_cvI (q := 20) (As := [.int a1, .int a2]) (rest := []) C (f := 26) (i := 0) (ci := 11) mf_26 rfl rfl rfl (kX11_leastBy l a1 a2) rfl gX11_leftOf_X11_leastBy rfl dsc_X11_leastBy ⟨rfl, rfl⟩ ⟨by decide, by decide⟩ rfl rfl (Nat.le_of_ble_eq_true rfl) dX11_leftOf_17 rfl h (fun r6 μ5 h => ?_)
      refine jr_aload_n (q := 21) C 0 dX11_leftOf_20 rfl rfl rfl ?_
      refine jr_getI (q := 24) (ci := 11) (Cn := RX11) (T := TX11) (N := 42) (j := 19) C mf_26 rfl rfl (by decide) rfl rfl nX11_leftOf_11 mX11_leftOf_1 dX11_leftOf_21 rfl rfl ?_
      refine jr_icmp_le (q := 27) (tgt := 43) C dX11_leftOf_24 (by decide) rfl (fun c10 => ?_) (fun c10 => ?_)
      · replace h := h.1 c10
        refine jr_sub [2] rfl ?_
        exact hE6_43 _ _ h
      · replace h := h.2 c10
        refine jr_iload_n (q := 28) C 2 dX11_leftOf_27 rfl rfl rfl ?_
        refine jr_iconst (q := 29) (v := (1 : Int32)) C dX11_leftOf_28 (by decide) rfl ?_
        refine jr_aload_n (q := 30) C 0 dX11_leftOf_29 rfl rfl rfl ?_
        refine jr_iload_n (q := 31) C 1 dX11_leftOf_30 rfl rfl rfl ?_
        refine jr_iload_n (q := 32) C 2 dX11_leftOf_31 rfl rfl rfl ?_
        refine jr_cvI (q := 35) (As := [.int a1, .int a2]) (rest := [.int (1 : Int32), .int a2]) C (f := 26) (i := 0) (ci := 11) mf_26 rfl rfl rfl (kX11_worstOf l a1 a2) rfl gX11_leftOf_X11_worstOf rfl dsc_X11_worstOf ⟨rfl, rfl⟩ ⟨by decide, by decide⟩ rfl rfl (Nat.le_of_ble_eq_true rfl) dX11_leftOf_32 rfl h (fun r8 μ7 h => ?_)
        refine jr_ishl (q := 36) C dX11_leftOf_35 rfl ?_
        refine jr_iconst (q := 37) (v := (-1 : Int32)) C dX11_leftOf_36 (by decide) rfl ?_
        refine jr_ixor (q := 38) C dX11_leftOf_37 rfl ?_
        refine jr_iand (q := 39) C dX11_leftOf_38 rfl ?_
        refine jn_int (fun x9 ex9 => ?_)
        replace h := h x9 ex9
        refine jr_istore_n (q := 40) (lv' := [(2, .int x9), (0, .ref (z + mm_ad 26 0)), (1, .int a1)]) C dX11_leftOf_39 rfl (by decide) rfl rfl ?_
        refine jr_goto (tgt := 6) C dX11_leftOf_40 (by decide) ?_
        refine jr_sub [1, 2, 0] rfl ?_
        exact hK6 _ _ _ h
  have x6_43 : ∀ (μ : mm_T) (c2 : Int32), (Po c2 μ) → jJ p l e ({ frames := 6, cells := 0, slots := 0, locals := 145 }) s m args below meth c D cy z (MQ below (va_Qi Po (mm_Po D cy z) (mm_A z)) args s 0 0 (mm_A z)) 3 μ 43 [(2, .int c2)] [] := by
    intro μ c2 h
    refine jr_iload_n (q := 44) C 0 dX11_leftOf_43 rfl rfl rfl ?_
    exact jr_iret C hr hk dX11_leftOf_44 h
  refine jr_sub [1, 2, 0] rfl ?_
  exact l6 _ x6_43 _ h
theorem dsc_X11_isPlaced : yX11_isPlaced.cls ≠ "java/lang/invoke/MethodHandle" ∧ yX11_isPlaced.cls ≠ "java/lang/invoke/VarHandle" ∧ (parseMethodDescriptor yX11_isPlaced.desc).map (fun d => d.parameters.length) = some 1 := by decide +kernel
def pX11_isPlaced (Po : Int32 → mm_T → Prop) (μ : mm_T) (p1 : Int32) : Prop := pX11_rangedBy (fun r2 μ1 => pX11_many (fun r4 μ3 => (r4 ≤ (2 : Int32) → Po (0 : Int32) μ3) ∧ (¬ (r4 ≤ (2 : Int32)) → Po (1 : Int32) μ3)) μ1 r2) μ p1
set_option maxHeartbeats 4000000 in
set_option maxRecDepth 100000 in
theorem kX11_isPlaced (l : Launch) (p1 : Int32) : mm_CI l yX11_isPlaced wsX11_isPlaced ({ frames := 2, cells := 0, slots := 0, locals := 44 }) (fun z => [.ref (z + mm_ad 26 0), .int p1]) (fun μ Po => pX11_isPlaced Po μ p1) := by
  refine je_Z (cc := cX11_isPlaced) (nL := 2) (own := RX11) (plainFor_of_name (by decide)) rfl rfl (fun _ => Nat.le_of_ble_eq_true rfl) ?_
  intro p e s m args below meth c D cy z μ Po C hr hk h
  change jJ p l e ({ frames := 2, cells := 0, slots := 0, locals := 44 }) s m args below meth c D cy z (MQ below (va_Qi Po (mm_Po D cy z) (mm_A z)) args s 0 0 (mm_A z)) 2 μ 0 [(0, .ref (z + mm_ad 26 0)), (1, .int p1)] []
  replace h : pX11_isPlaced Po μ p1 := h
  unfold pX11_isPlaced at h
  refine jr_aload_n (q := 1) C 0 dX11_isPlaced_0 rfl rfl rfl ?_
  refine jr_iload_n (q := 2) C 1 dX11_isPlaced_1 rfl rfl rfl ?_
  refine jr_cvI (q := 5) (As := [.int p1]) (rest := []) C (f := 26) (i := 0) (ci := 11) mf_26 rfl rfl rfl (kX11_rangedBy l p1) rfl gX11_isPlaced_X11_rangedBy rfl dsc_X11_rangedBy ⟨rfl, rfl⟩ ⟨by decide, by decide⟩ rfl rfl (Nat.le_of_ble_eq_true rfl) dX11_isPlaced_2 rfl h (fun r2 μ1 h => ?_)
  refine jr_csI (q := 8) (As := [.int r2]) (rest := []) C  (kX11_many l r2) rfl gX11_isPlaced_X11_many rfl dsc_X11_many ⟨rfl, rfl⟩ ⟨by decide, by decide⟩ rfl rfl (Nat.le_of_ble_eq_true rfl) dX11_isPlaced_5 rfl h (fun r4 μ3 h => ?_)
  refine jr_iconst (q := 9) (v := (2 : Int32)) C dX11_isPlaced_8 (by decide) rfl ?_
  refine jr_icmp_le (q := 12) (tgt := 16) C dX11_isPlaced_9 (by decide) rfl (fun c5 => ?_) (fun c5 => ?_)
  · replace h := h.1 c5
    refine jr_iconst (q := 17) (v := (0 : Int32)) C dX11_isPlaced_16 (by decide) rfl ?_
    exact jr_zret C hr hk dX11_isPlaced_17 (by decide) h
  · replace h := h.2 c5
    refine jr_iconst (q := 13) (v := (1 : Int32)) C dX11_isPlaced_12 (by decide) rfl ?_
    refine jr_goto (tgt := 17) C dX11_isPlaced_13 (by decide) ?_
    exact jr_zret C hr hk dX11_isPlaced_17 (by decide) h
theorem dsc_X11_placedNow : yX11_placedNow.cls ≠ "java/lang/invoke/MethodHandle" ∧ yX11_placedNow.cls ≠ "java/lang/invoke/VarHandle" ∧ (parseMethodDescriptor yX11_placedNow.desc).map (fun d => d.parameters.length) = some 2 := by decide +kernel
def pX11_placedNow (Po : Int32 → mm_T → Prop) (μ : mm_T) (p1 : Int32) (p2 : Int32) : Prop := pX11_leftOf (fun r2 μ1 => pX11_fitBy (fun r4 μ3 => (p2 = (0 : Int32) → Po (r4 - r4 / (32 : Int32) * (32 : Int32)) μ3) ∧ (p2 = (1 : Int32) → Po (r4 / (32 : Int32)) μ3) ∧ (p2 = (2 : Int32) → pX11_misfitBy (fun r6 μ5 => Po r6 μ5) μ3 p1 r2 (r4 - r4 / (32 : Int32) * (32 : Int32)) (r4 / (32 : Int32))) ∧ (p2 = (3 : Int32) → Po r2 μ3) ∧ (¬ p2 = (0 : Int32) → ¬ p2 = (1 : Int32) → ¬ p2 = (2 : Int32) → ¬ p2 = (3 : Int32) → pX11_rangedBy (fun r8 μ7 => Po (r8 &&& (r2 ^^^ (-1 : Int32))) μ7) μ3 p1)) μ1 p1 r2) μ p1
set_option maxHeartbeats 4000000 in
set_option maxRecDepth 100000 in
theorem kX11_placedNow (l : Launch) (p1 : Int32) (p2 : Int32) : mm_CI l yX11_placedNow wsX11_placedNow ({ frames := 7, cells := 0, slots := 0, locals := 167 }) (fun z => [.ref (z + mm_ad 26 0), .int p1, .int p2]) (fun μ Po => pX11_placedNow Po μ p1 p2) := by
  refine je_I (cc := cX11_placedNow) (nL := 5) (own := RX11) (plainFor_of_name (by decide)) rfl rfl (fun _ => Nat.le_of_ble_eq_true rfl) ?_
  intro p e s m args below meth c D cy z μ Po C hr hk h
  change jJ p l e ({ frames := 7, cells := 0, slots := 0, locals := 167 }) s m args below meth c D cy z (MQ below (va_Qi Po (mm_Po D cy z) (mm_A z)) args s 0 0 (mm_A z)) 5 μ 0 [(0, .ref (z + mm_ad 26 0)), (1, .int p1), (2, .int p2)] []
  replace h : pX11_placedNow Po μ p1 p2 := h
  unfold pX11_placedNow at h
  refine jr_aload_n (q := 1) C 0 dX11_placedNow_0 rfl rfl rfl ?_
  refine jr_iload_n (q := 2) C 1 dX11_placedNow_1 rfl rfl rfl ?_
  refine jr_cvI (q := 5) (As := [.int p1]) (rest := []) C (f := 26) (i := 0) (ci := 11) mf_26 rfl rfl rfl (kX11_leftOf l p1) rfl gX11_placedNow_X11_leftOf rfl dsc_X11_leftOf ⟨rfl, rfl⟩ ⟨by decide, by decide⟩ rfl rfl (Nat.le_of_ble_eq_true rfl) dX11_placedNow_2 rfl h (fun r2 μ1 h => ?_)
  refine jr_istore_n (q := 6) (lv' := [(3, .int r2), (0, .ref (z + mm_ad 26 0)), (1, .int p1), (2, .int p2)]) C dX11_placedNow_5 rfl (by decide) rfl rfl ?_
  refine jr_aload_n (q := 7) C 1 dX11_placedNow_6 rfl rfl rfl ?_
  refine jr_iload_n (q := 8) C 2 dX11_placedNow_7 rfl rfl rfl ?_
  refine jr_iload_n (q := 9) C 0 dX11_placedNow_8 rfl rfl rfl ?_
  refine jr_cvI (q := 12) (As := [.int p1, .int r2]) (rest := []) C (f := 26) (i := 0) (ci := 11) mf_26 rfl rfl rfl (kX11_fitBy l p1 r2) rfl gX11_placedNow_X11_fitBy rfl dsc_X11_fitBy ⟨rfl, rfl⟩ ⟨by decide, by decide⟩ rfl rfl (Nat.le_of_ble_eq_true rfl) dX11_placedNow_9 rfl h (fun r4 μ3 h => ?_)
  refine jr_istore (q := 14) (lv' := [(4, .int r4), (3, .int r2), (0, .ref (z + mm_ad 26 0)), (1, .int p1), (2, .int p2)]) C dX11_placedNow_12 (by decide) rfl rfl ?_
  refine jr_iload_n (q := 15) C 4 dX11_placedNow_14 rfl rfl rfl ?_
  by_cases w0 : p2 = (0 : Int32)
  · replace h := h.1 w0
    refine jr_tabI (tgt := 44) C (0 : Int32) w0 dX11_placedNow_15 (by decide) (by decide) rfl (by decide) ?_
    refine jr_iload (q := 46) C 0 dX11_placedNow_44 rfl rfl ?_
    refine jr_bipush (q := 48) (v := (32 : Int32)) C dX11_placedNow_46 (by decide) rfl ?_
    refine jr_irem (q := 49) C dX11_placedNow_48 (by decide) rfl ?_
    exact jr_iret C hr hk dX11_placedNow_49 h
  by_cases w1 : p2 = (1 : Int32)
  · replace h := h.2.1 w1
    refine jr_tabI (tgt := 50) C (1 : Int32) w1 dX11_placedNow_15 (by decide) (by decide) rfl (by decide) ?_
    refine jr_iload (q := 52) C 0 dX11_placedNow_50 rfl rfl ?_
    refine jr_bipush (q := 54) (v := (32 : Int32)) C dX11_placedNow_52 (by decide) rfl ?_
    refine jr_idiv (q := 55) C dX11_placedNow_54 (by decide) rfl ?_
    exact jr_iret C hr hk dX11_placedNow_55 h
  by_cases w2 : p2 = (2 : Int32)
  · replace h := h.2.2.1 w2
    refine jr_tabI (tgt := 56) C (2 : Int32) w2 dX11_placedNow_15 (by decide) (by decide) rfl (by decide) ?_
    refine jr_aload_n (q := 57) C 2 dX11_placedNow_56 rfl rfl rfl ?_
    refine jr_iload_n (q := 58) C 3 dX11_placedNow_57 rfl rfl rfl ?_
    refine jr_iload_n (q := 59) C 1 dX11_placedNow_58 rfl rfl rfl ?_
    refine jr_iload (q := 61) C 0 dX11_placedNow_59 rfl rfl ?_
    refine jr_bipush (q := 63) (v := (32 : Int32)) C dX11_placedNow_61 (by decide) rfl ?_
    refine jr_irem (q := 64) C dX11_placedNow_63 (by decide) rfl ?_
    refine jr_iload (q := 66) C 0 dX11_placedNow_64 rfl rfl ?_
    refine jr_bipush (q := 68) (v := (32 : Int32)) C dX11_placedNow_66 (by decide) rfl ?_
    refine jr_idiv (q := 69) C dX11_placedNow_68 (by decide) rfl ?_
    refine jr_cvI (q := 72) (As := [.int p1, .int r2, .int (r4 - r4 / (32 : Int32) * (32 : Int32)), .int (r4 / (32 : Int32))]) (rest := []) C (f := 26) (i := 0) (ci := 11) mf_26 rfl rfl rfl (kX11_misfitBy l p1 r2 (r4 - r4 / (32 : Int32) * (32 : Int32)) (r4 / (32 : Int32))) rfl gX11_placedNow_X11_misfitBy rfl dsc_X11_misfitBy ⟨rfl, rfl⟩ ⟨by decide, by decide⟩ rfl rfl (Nat.le_of_ble_eq_true rfl) dX11_placedNow_69 rfl h (fun r6 μ5 h => ?_)
    exact jr_iret C hr hk dX11_placedNow_72 h
  by_cases w3 : p2 = (3 : Int32)
  · replace h := h.2.2.2.1 w3
    refine jr_tabI (tgt := 73) C (3 : Int32) w3 dX11_placedNow_15 (by decide) (by decide) rfl (by decide) ?_
    refine jr_iload_n (q := 74) C 1 dX11_placedNow_73 rfl rfl rfl ?_
    exact jr_iret C hr hk dX11_placedNow_74 h
  replace h := h.2.2.2.2 w0 w1 w2 w3
  have vw0 := lv_neT (a := 0) w0 (by decide)
  have vw1 := lv_neT (a := 1) w1 (by decide)
  have vw2 := lv_neT (a := 2) w2 (by decide)
  have vw3 := lv_neT (a := 3) w3 (by decide)
  refine jr_tabO (tgt := 75) C dX11_placedNow_15 (by omega) (by decide) ?_
  refine jr_aload_n (q := 76) C 2 dX11_placedNow_75 rfl rfl rfl ?_
  refine jr_iload_n (q := 77) C 3 dX11_placedNow_76 rfl rfl rfl ?_
  refine jr_cvI (q := 80) (As := [.int p1]) (rest := []) C (f := 26) (i := 0) (ci := 11) mf_26 rfl rfl rfl (kX11_rangedBy l p1) rfl gX11_placedNow_X11_rangedBy rfl dsc_X11_rangedBy ⟨rfl, rfl⟩ ⟨by decide, by decide⟩ rfl rfl (Nat.le_of_ble_eq_true rfl) dX11_placedNow_77 rfl h (fun r8 μ7 h => ?_)
  refine jr_iload_n (q := 81) C 1 dX11_placedNow_80 rfl rfl rfl ?_
  refine jr_iconst (q := 82) (v := (-1 : Int32)) C dX11_placedNow_81 (by decide) rfl ?_
  refine jr_ixor (q := 83) C dX11_placedNow_82 rfl ?_
  refine jr_iand (q := 84) C dX11_placedNow_83 rfl ?_
  exact jr_iret C hr hk dX11_placedNow_84 h
theorem mX11_placed_0 : Cond.constant RX11 178 (-1000001) ∈ wsX11_placed := List.mem_of_getElem? (i := 2) (by decide +kernel)
theorem nX11_placed_11 : ∀ w ∈ wsX110, w ∈ wsX11_placed := fun _ h => List.mem_cons_of_mem _ (List.mem_append_right _ h)
theorem mX11_placed_2 : Cond.fieldLink RX11 13 RX11 (TX11 3).2.1 (TX11 3).2.2.1 ∈ wsX11_placed := List.mem_of_getElem? (i := 1) (by decide +kernel)
theorem mX11_placed_3 : Cond.constant RX11 152 (-1000003) ∈ wsX11_placed := List.mem_of_getElem? (i := 4) (by decide +kernel)
theorem mX11_placed_4 : Cond.constant RX11 81 (-1000002) ∈ wsX11_placed := List.mem_of_getElem? (i := 3) (by decide +kernel)
theorem dsc_X11_placed : yX11_placed.cls ≠ "java/lang/invoke/MethodHandle" ∧ yX11_placed.cls ≠ "java/lang/invoke/VarHandle" ∧ (parseMethodDescriptor yX11_placed.desc).map (fun d => d.parameters.length) = some 2 := by decide +kernel
def pX11_placed (Po : Int32 → mm_T → Prop) (μ : mm_T) (p1 : Int32) (p2 : Int32) : Prop := pX11_isNode (fun r2 μ1 => (r2 = 0 → Po (-1000001 : Int32) μ1) ∧ (¬ (r2 = 0) → (vp_in p1 7) ∧ ((¬ (μ1.1 28 0 p1.toNatClampNeg) = 0 → pX11_within (fun r5 μ4 => (¬ r5 = 0 → pX11_isPlaced (fun r7 μ6 => (r7 = 0 → Po (-1000003 : Int32) μ6) ∧ (¬ (r7 = 0) → pX11_placedNow (fun r9 μ8 => Po r9 μ8) μ6 p1 p2)) μ4 p1) ∧ (r5 = 0 → Po (-1000002 : Int32) μ4)) μ1 p2 (0 : Int32) (4 : Int32)) ∧ ((μ1.1 28 0 p1.toNatClampNeg) = 0 → Po (-1000001 : Int32) μ1)))) μ p1
set_option maxHeartbeats 4000000 in
set_option maxRecDepth 100000 in
theorem kX11_placed (l : Launch) (p1 : Int32) (p2 : Int32) : mm_CI l yX11_placed wsX11_placed ({ frames := 8, cells := 0, slots := 0, locals := 191 }) (fun z => [.ref (z + mm_ad 26 0), .int p1, .int p2]) (fun μ Po => pX11_placed Po μ p1 p2) := by
  refine je_I (cc := cX11_placed) (nL := 3) (own := RX11) (plainFor_of_name (by decide)) rfl rfl (fun _ => Nat.le_of_ble_eq_true rfl) ?_
  intro p e s m args below meth c D cy z μ Po C hr hk h
  change jJ p l e ({ frames := 8, cells := 0, slots := 0, locals := 191 }) s m args below meth c D cy z (MQ below (va_Qi Po (mm_Po D cy z) (mm_A z)) args s 0 0 (mm_A z)) 3 μ 0 [(0, .ref (z + mm_ad 26 0)), (1, .int p1), (2, .int p2)] []
  replace h : pX11_placed Po μ p1 p2 := h
  unfold pX11_placed at h
  refine jr_aload_n (q := 1) C 0 dX11_placed_0 rfl rfl rfl ?_
  refine jr_iload_n (q := 2) C 1 dX11_placed_1 rfl rfl rfl ?_
  refine jr_cvI (q := 5) (As := [.int p1]) (rest := []) C (f := 26) (i := 0) (ci := 11) mf_26 rfl rfl rfl (kX11_isNode l p1) rfl gX11_placed_X11_isNode rfl dsc_X11_isNode ⟨rfl, rfl⟩ ⟨by decide, by decide⟩ rfl rfl (Nat.le_of_ble_eq_true rfl) dX11_placed_2 rfl h (fun r2 μ1 h => ?_)
  refine jr_if_eq (q := 8) (tgt := 17) C dX11_placed_5 (by decide) rfl (fun c13 => ?_) (fun c13 => ?_)
  · replace h := h.1 c13
    refine jr_ldc (q := 19) (v := (-1000001 : Int32)) C dX11_placed_17 mX11_placed_0 rfl ?_
    exact jr_iret C hr hk dX11_placed_19 h
  · replace h := h.2 c13
    refine jr_aload_n (q := 9) C 0 dX11_placed_8 rfl rfl rfl ?_
    refine jr_getR (q := 12) (ci := 11) (Cn := RX11) (T := TX11) (N := 42) (j := 3) C mf_26 rfl rfl (by decide) rfl 28 0 rfl rfl rfl nX11_placed_11 mX11_placed_2 dX11_placed_9 rfl rfl ?_
    refine jr_iload_n (q := 13) C 1 dX11_placed_12 rfl rfl rfl ?_
    obtain ⟨g3, h⟩ := h
    refine jr_zald (q := 14) C mf_28 rfl g3 dX11_placed_13 rfl ?_
    refine jr_if_ne (q := 17) (tgt := 20) C dX11_placed_14 (by decide) rfl (fun c12 => ?_) (fun c12 => ?_)
    · replace h := h.1 c12
      refine jr_iload_n (q := 21) C 2 dX11_placed_20 rfl rfl rfl ?_
      refine jr_iconst (q := 22) (v := (0 : Int32)) C dX11_placed_21 (by decide) rfl ?_
      refine jr_iconst (q := 23) (v := (4 : Int32)) C dX11_placed_22 (by decide) rfl ?_
      refine jr_csI (q := 26) (As := [.int p2, .int (0 : Int32), .int (4 : Int32)]) (rest := []) C  (kX11_within l p2 (0 : Int32) (4 : Int32)) rfl gX11_placed_X11_within rfl dsc_X11_within ⟨rfl, rfl⟩ ⟨by decide, by decide⟩ rfl rfl (Nat.le_of_ble_eq_true rfl) dX11_placed_23 rfl h (fun r5 μ4 h => ?_)
      refine jr_if_ne (q := 29) (tgt := 32) C dX11_placed_26 (by decide) rfl (fun c11 => ?_) (fun c11 => ?_)
      · replace h := h.1 c11
        refine jr_aload_n (q := 33) C 0 dX11_placed_32 rfl rfl rfl ?_
        refine jr_iload_n (q := 34) C 1 dX11_placed_33 rfl rfl rfl ?_
        refine jr_cvI (q := 37) (As := [.int p1]) (rest := []) C (f := 26) (i := 0) (ci := 11) mf_26 rfl rfl rfl (kX11_isPlaced l p1) rfl gX11_placed_X11_isPlaced rfl dsc_X11_isPlaced ⟨rfl, rfl⟩ ⟨by decide, by decide⟩ rfl rfl (Nat.le_of_ble_eq_true rfl) dX11_placed_34 rfl h (fun r7 μ6 h => ?_)
        refine jr_if_eq (q := 40) (tgt := 49) C dX11_placed_37 (by decide) rfl (fun c10 => ?_) (fun c10 => ?_)
        · replace h := h.1 c10
          refine jr_ldc (q := 51) (v := (-1000003 : Int32)) C dX11_placed_49 mX11_placed_3 rfl ?_
          exact jr_iret C hr hk dX11_placed_51 h
        · replace h := h.2 c10
          refine jr_aload_n (q := 41) C 0 dX11_placed_40 rfl rfl rfl ?_
          refine jr_iload_n (q := 42) C 1 dX11_placed_41 rfl rfl rfl ?_
          refine jr_iload_n (q := 43) C 2 dX11_placed_42 rfl rfl rfl ?_
          refine jr_cvI (q := 46) (As := [.int p1, .int p2]) (rest := []) C (f := 26) (i := 0) (ci := 11) mf_26 rfl rfl rfl (kX11_placedNow l p1 p2) rfl gX11_placed_X11_placedNow rfl dsc_X11_placedNow ⟨rfl, rfl⟩ ⟨by decide, by decide⟩ rfl rfl (Nat.le_of_ble_eq_true rfl) dX11_placed_43 rfl h (fun r9 μ8 h => ?_)
          refine jr_goto (tgt := 51) C dX11_placed_46 (by decide) ?_
          exact jr_iret C hr hk dX11_placed_51 h
      · replace h := h.2 c11
        refine jr_ldc (q := 31) (v := (-1000002 : Int32)) C dX11_placed_29 mX11_placed_4 rfl ?_
        exact jr_iret C hr hk dX11_placed_31 h
    · replace h := h.2 c12
      refine jr_ldc (q := 19) (v := (-1000001 : Int32)) C dX11_placed_17 mX11_placed_0 rfl ?_
      exact jr_iret C hr hk dX11_placed_19 h
