/-- r is the root of v -/
def is_R (v r : Nat) : Prop := r * r ≤ v ∧ v < (r + 1) * (r + 1)
/-- what the maker of the flights does: all but the row of roots stays -/
def fq_ (μ0 μ1 : mm_T) (k : Nat) : Prop := (∀ a b, a ≠ 20 → μ1.1 a b = μ0.1 a b) ∧ μ1.2 = μ0.2 ∧ ∀ j, j < k → ∃ r, is_R (100 * j) r ∧ μ1.1 20 0 j = nI r
theorem fq_put {μ0 μ1 : mm_T} {k r : Nat} (h : fq_ μ0 μ1 k) (hr : is_R (100 * k) r) : fq_ μ0 (mm_I μ1 20 0 k (nI r)) (k + 1) := by
  refine ⟨fun a b ha => ?_, h.2.1, fun j hj => ?_⟩
  · show (if a = 20 ∧ b = 0 then _ else _) = _
    rw [if_neg (fun q => ha q.1)]
    exact h.1 a b ha
  · rw [mm_Is]
    by_cases e : j = k
    · subst e
      exact ⟨r, hr, by simp [upd]⟩
    · obtain ⟨r2, h1, h2⟩ := h.2.2 j (by omega)
      exact ⟨r2, h1, by simp [upd, e, h2]⟩
theorem mX2_init_0 : Cond.methodLink RX2 3 Lib.objectInit ∈ wsX2_init := List.mem_of_getElem? (i := 1) (by decide +kernel)
theorem mX2_init_1 : Cond.instanceMethod Lib.objectInit ∈ wsX2_init := List.mem_of_getElem? (i := 2) (by decide +kernel)
theorem mX2_init_2 : Cond.code Lib.objectInit ⟨#[0xb1]⟩ 1 none ∈ wsX2_init := List.mem_of_getElem? (i := 3) (by decide +kernel)
theorem mX2_init_3 : Cond.arrayClass .int ∈ wsX2_init := List.mem_of_getElem? (i := 4) (by decide +kernel)
theorem nX2_init_2 : ∀ w ∈ wsX20, w ∈ wsX2_init := fun _ h => List.mem_cons_of_mem _ (List.mem_append_right _ h)
theorem mX2_init_5 : Cond.fieldLink RX2 11 RX2 (TX2 0).2.1 (TX2 0).2.2.1 ∈ wsX2_init := List.mem_of_getElem? (i := 5) (by decide +kernel)
theorem dsc_X2_init : yX2_init.cls ≠ "java/lang/invoke/MethodHandle" ∧ yX2_init.cls ≠ "java/lang/invoke/VarHandle" ∧ (parseMethodDescriptor yX2_init.desc).map (fun d => d.parameters.length) = some 0 := by decide +kernel
set_option maxHeartbeats 4000000 in
set_option maxRecDepth 100000 in
theorem kX2_init (l : Launch) : mn_C l yX2_init wsX2_init ({ frames := 1, cells := 1, slots := 1923, locals := 12 }) 182 183 1 1923 (fun z => [.ref (z + mm_ad 19 0)]) (fun μ ρ Po => ∀ μ1, fq_ (mm_Z μ 20 0) μ1 1923 → Po μ1 (mr_W (mr_Z ρ 20 0) 19 0 0 (mm_ad 20 0))) := by
  refine jq_entry (cc := cX2_init) (nL := 3) (own := RX2) (plainFor_of_name (by decide)) rfl rfl rfl (fun _ => Nat.le_of_ble_eq_true rfl) ?_
  intro p e s m args below meth c D cy z μ ρ Po C hK h0 hX hr hlk hini h
  change jG p l e ({ frames := 1, cells := 1, slots := 1923, locals := 12 }) s m args below meth c (mm_B z) (MQ below (va_Qv (fun u : mm_T × mm_R => Po u.1 u.2) (fun u t => mn_P D cy z 183 u.1 u.2 t.heap) (mm_B z)) args s 1 1923 (mm_B z)) 3 0 0 (mn_P D cy z 182 μ ρ) 0 [(0, .ref (z + mm_ad 19 0))] []
  have e100 : (100 : Int32) = nI 100 := rfl
  have inner : ∀ (P3 : Nat → Prop) (k : Nat) (μ1 : mm_T), k < 1923 → (∀ r, is_R (100 * k) r → jG p l e ({ frames := 1, cells := 1, slots := 1923, locals := 12 }) s m args below meth c (mm_B z) (MQ below (va_Qv (fun u : mm_T × mm_R => Po u.1 u.2) (fun u t => mn_P D cy z 183 u.1 u.2 t.heap) (mm_B z)) args s 1 1923 (mm_B z)) 3 1 1923 (mn_P D cy z 183 μ1 (mr_W (mr_Z ρ 20 0) 19 0 0 (mm_ad 20 0))) 44 [(0, .ref (z + mm_ad 19 0)), (1, .int (nI r)), (2, .int (nI k))] []) → ∀ (d r : Nat), d = 500 - r → r * r ≤ 100 * k → jG p l e ({ frames := 1, cells := 1, slots := 1923, locals := 12 }) s m args below meth c (mm_B z) (MQ below (va_Qv (fun u : mm_T × mm_R => Po u.1 u.2) (fun u t => mn_P D cy z 183 u.1 u.2 t.heap) (mm_B z)) args s 1 1923 (mm_B z)) 3 1 1923 (mn_P D cy z 183 μ1 (mr_W (mr_Z ρ 20 0) 19 0 0 (mm_ad 20 0))) 24 [(0, .ref (z + mm_ad 19 0)), (1, .int (nI r)), (2, .int (nI k))] [] := by
    intro P3 k μ1 hk kx d
    induction d with
    | zero =>
      intro r h1 h2
      exfalso
      have h3 : 500 ≤ r := by omega
      have h4 : 500 * 500 ≤ r * r := Nat.mul_le_mul h3 h3
      omega
    | succ d ih =>
      intro r h1 h2
      have hr : r < 500 := by omega
      have hb : (r + 1) * (r + 1) ≤ 500 * 500 := Nat.mul_le_mul (by omega) (by omega)
      refine jg_iload_n (q := 25) C 1 dX2_init_24 rfl rfl rfl ?_
      refine jg_iconst (q := 26) (v := (1 : Int32)) C dX2_init_25 (by decide) rfl ?_
      refine jg_iadd (q := 27) C dX2_init_26 rfl ?_
      refine jg_iload_n (q := 28) C 1 dX2_init_27 rfl rfl rfl ?_
      refine jg_iconst (q := 29) (v := (1 : Int32)) C dX2_init_28 (by decide) rfl ?_
      refine jg_iadd (q := 30) C dX2_init_29 rfl ?_
      refine jg_imul (q := 31) C dX2_init_30 rfl ?_
      refine jg_bipush (q := 33) (v := (100 : Int32)) C dX2_init_31 (by decide) rfl ?_
      refine jg_iload_n (q := 34) C 2 dX2_init_33 rfl rfl rfl ?_
      refine jg_imul (q := 35) C dX2_init_34 rfl ?_
      refine jg_icmp_gt (q := 38) (tgt := 44) C dX2_init_35 (by decide) rfl (fun c1 => ?_) (fun c1 => ?_)
      · rw [e100, nI_1, pk_mul, pk_mul, nI_ltI (by omega) (by omega)] at c1
        exact kx r ⟨h2, c1⟩
      · rw [e100, nI_1, pk_mul, pk_mul, nI_ltI (by omega) (by omega)] at c1
        refine jg_iinc (q := 41) (v := nI (r + 1)) (lv' := [(1, .int (nI (r + 1))), (0, .ref (z + mm_ad 19 0)), (2, .int (nI k))]) C 1 dX2_init_38 rfl (nI_1 r) (by decide) rfl rfl ?_
        refine jg_goto (tgt := 24) C dX2_init_41 (by decide) ?_
        refine jg_sub [1, 0, 2] rfl ?_
        exact ih (r + 1) (by omega) (by omega)
  have outer : ∀ (d k r : Nat) (μ1 : mm_T), d = 1923 - k → k ≤ 1923 → r * r ≤ 100 * k → fq_ (mm_Z μ 20 0) μ1 k → jG p l e ({ frames := 1, cells := 1, slots := 1923, locals := 12 }) s m args below meth c (mm_B z) (MQ below (va_Qv (fun u : mm_T × mm_R => Po u.1 u.2) (fun u t => mn_P D cy z 183 u.1 u.2 t.heap) (mm_B z)) args s 1 1923 (mm_B z)) 3 1 1923 (mn_P D cy z 183 μ1 (mr_W (mr_Z ρ 20 0) 19 0 0 (mm_ad 20 0))) 17 [(0, .ref (z + mm_ad 19 0)), (1, .int (nI r)), (2, .int (nI k))] [] := by
    intro d
    induction d with
    | zero =>
      intro k r μ1 h1 h2 h3 h4
      have hk : k = 1923 := by omega
      subst hk
      refine jg_iload_n (q := 18) C 2 dX2_init_17 rfl rfl rfl ?_
      refine jg_sipush (q := 21) (v := (1923 : Int32)) C dX2_init_18 (by decide) rfl ?_
      refine jg_icmp_ge (q := 24) (tgt := 57) C dX2_init_21 (by decide) rfl (fun c1 => ?_) (fun c1 => ?_)
      · exact jq_vret C hK h0 hr hlk rfl dX2_init_57 (h μ1 h4)
      · exact absurd (by decide) c1
    | succ d ih =>
      intro k r μ1 h1 h2 h3 h4
      have hk : k < 1923 := by omega
      refine jg_iload_n (q := 18) C 2 dX2_init_17 rfl rfl rfl ?_
      refine jg_sipush (q := 21) (v := (1923 : Int32)) C dX2_init_18 (by decide) rfl ?_
      refine jg_icmp_ge (q := 24) (tgt := 57) C dX2_init_21 (by decide) rfl (fun c1 => ?_) (fun c1 => ?_)
      · exfalso
        exact nI_ge hk (by omega) c1
      · refine inner (fun _ => True) k μ1 hk (fun r2 h5 => ?_) (500 - r) r rfl h3
        refine jg_aload_n (q := 45) C 0 dX2_init_44 rfl rfl rfl ?_
        refine jq_getR (q := 48) (ci := 2) (Cn := RX2) (T := TX2) (N := 1) (j := 0) (k := mm_ad 20 0) C hK h0 mf_19 (by decide) rfl rfl (by decide) rfl rfl rfl nX2_init_2 mX2_init_5 dX2_init_45 rfl rfl ?_
        refine jg_iload_n (q := 49) C 2 dX2_init_48 rfl rfl rfl ?_
        refine jg_iload_n (q := 50) C 1 dX2_init_49 rfl rfl rfl ?_
        refine jq_iast (q := 51) C hK h0 mf_20 (by decide) rfl (vp_in_nI hk (by omega)) dX2_init_50 rfl ?_
        rw [nI_clamp (by omega)]
        refine jg_iinc (q := 54) (v := nI (k + 1)) (lv' := [(2, .int (nI (k + 1))), (0, .ref (z + mm_ad 19 0)), (1, .int (nI r2))]) C 2 dX2_init_51 rfl (nI_1 k) (by decide) rfl rfl ?_
        refine jg_goto (tgt := 17) C dX2_init_54 (by decide) ?_
        refine jg_sub [1, 2, 0] rfl ?_
        exact ih (k + 1) r2 _ (by omega) (by omega) (by have := h5.1; omega) (fq_put h4 h5)
  refine jg_aload_n (q := 1) C 0 dX2_init_0 rfl rfl rfl ?_
  refine jg_obj (q := 4) C mX2_init_0 mX2_init_1 mX2_init_2 (by decide) (Nat.le_of_ble_eq_true rfl) dX2_init_1 rfl ?_
  refine jg_aload_n (q := 5) C 0 dX2_init_4 rfl rfl rfl ?_
  refine jg_sipush (q := 8) (v := (1923 : Int32)) C dX2_init_5 (by decide) rfl ?_
  refine jq_newI (q := 10) (f := 20) (i := 0) (N := 1923) C hK h0 (by decide +kernel) rfl mX2_init_3 (by decide) (by decide) (by decide) (by decide) (by decide) dX2_init_8 rfl ?_
  refine jq_putF (q := 13) (ci := 2) (Cn := RX2) (T := TX2) (N := 1) (j := 0) C hK h0 mf_19 (by decide) rfl rfl (by decide) rfl rfl hini rfl tyX2 tyX2_ok nmX2 rfl (tyX2_ok 0 (by decide)) rfl rfl nX2_init_2 mX2_init_5 dX2_init_10 rfl rfl ?_
  refine jg_iconst (q := 14) (v := (0 : Int32)) C dX2_init_13 (by decide) rfl ?_
  refine jg_istore_n (q := 15) (lv' := [(1, .int (0 : Int32)), (0, .ref (z + mm_ad 19 0))]) C dX2_init_14 rfl (by decide) rfl rfl ?_
  refine jg_iconst (q := 16) (v := (0 : Int32)) C dX2_init_15 (by decide) rfl ?_
  refine jg_istore_n (q := 17) (lv' := [(2, .int (0 : Int32)), (1, .int (0 : Int32)), (0, .ref (z + mm_ad 19 0))]) C dX2_init_16 rfl (by decide) rfl rfl ?_
  refine jg_sub [2, 1, 0] rfl ?_
  exact outer 1923 0 0 _ rfl (by decide) (by decide) ⟨fun _ _ _ => rfl, rfl, fun j hj => absurd hj (Nat.not_lt_zero j)⟩
