/-! An exchange: what it does, as numbers; on the class's side; on the model's. -/
def dl_ (μ : mm_T) (i : Nat) : Nat := (μ.1 9 i 5).toNatClampNeg
def wy_ (μ : mm_T) (t a : Nat) : Nat := fl_ μ t a + (fe_ μ (7 * t + a)).toNatClampNeg
def tt_ (μ : mm_T) (t a T j : Nat) : Nat := if j = 1 then T else if j = 2 then T + wy_ μ t a else if j = 3 then T + wy_ μ t a + dl_ μ a else if j = 4 then T + wy_ μ t a + dl_ μ a + wy_ μ t a else if j = 5 then T + wy_ μ t a + dl_ μ a + wy_ μ t a + dl_ μ t else T + wy_ μ t a + dl_ μ a + wy_ μ t a + dl_ μ t + wy_ μ t a
def sc_ (μ : mm_T) (t a T j : Nat) : Int := ck_ μ (if j = 1 ∨ j = 4 ∨ j = 5 then t else a) (tt_ μ t a T j)
def o1_ (s1 s2 s3 s4 : Int) : Int := ((s4 - s1) - (s3 - s2)) / 2
def o2_ (s1 s2 s3 s4 s5 s6 : Int) : Int := ((s4 - s1) * (s6 - s3) - (s3 - s2) * (s5 - s4)) / ((s4 - s1) + (s6 - s3) + (s3 - s2) + (s5 - s4))
def one_ (μ : mm_T) (t a T : Nat) : Int := o1_ (sc_ μ t a T 1) (sc_ μ t a T 2) (sc_ μ t a T 3) (sc_ μ t a T 4)
def two_ (μ : mm_T) (t a T : Nat) : Int := o2_ (sc_ μ t a T 1) (sc_ μ t a T 2) (sc_ μ t a T 3) (sc_ μ t a T 4) (sc_ μ t a T 5) (sc_ μ t a T 6)
/-- six stamps that may be -/
def sg_ (s1 s2 s3 s4 s5 s6 : Int) : Prop := (-200000 ≤ s1 ∧ s1 ≤ 21000000 ∧ -200000 ≤ s2 ∧ s2 ≤ 21000000 ∧ -200000 ≤ s3 ∧ s3 ≤ 21000000 ∧ -200000 ≤ s4 ∧ s4 ≤ 21000000 ∧ -200000 ≤ s5 ∧ s5 ≤ 21000000 ∧ -200000 ≤ s6 ∧ s6 ≤ 21000000) ∧ 8 ≤ s4 - s1 ∧ s4 - s1 ≤ 1500 ∧ 8 ≤ s6 - s3 ∧ s6 - s3 ≤ 1500 ∧ 8 ≤ s3 - s2 ∧ s3 - s2 ≤ 400 ∧ 8 ≤ s5 - s4 ∧ s5 - s4 ≤ 400
theorem o2_b {s1 s2 s3 s4 s5 s6 : Int} (h : sg_ s1 s2 s3 s4 s5 s6) : (-4000000 ≤ (s4 - s1) * (s6 - s3) - (s3 - s2) * (s5 - s4) ∧ (s4 - s1) * (s6 - s3) - (s3 - s2) * (s5 - s4) ≤ 4000000) ∧ -400 ≤ o2_ s1 s2 s3 s4 s5 s6 ∧ o2_ s1 s2 s3 s4 s5 s6 ≤ 1500 := by
  obtain ⟨-, a1, a2, b1, b2, c1, c2, d1, d2⟩ := h
  unfold o2_
  generalize s4 - s1 = A at *
  generalize s6 - s3 = B at *
  generalize s3 - s2 = C at *
  generalize s5 - s4 = D at *
  have u1 : A * B ≤ 1500 * B := Int.mul_le_mul_of_nonneg_right a2 (by omega)
  have u2 : 0 ≤ A * B := Int.mul_nonneg (by omega) (by omega)
  have u3 : C * D ≤ 400 * D := Int.mul_le_mul_of_nonneg_right c2 (by omega)
  have u4 : 0 ≤ C * D := Int.mul_nonneg (by omega) (by omega)
  refine ⟨⟨by omega, by omega⟩, Int.le_ediv_of_mul_le (by omega) (by omega), Int.ediv_le_of_le_mul (by omega) (by omega)⟩
theorem ck_d {N i T D : Nat} {μ : mm_T} (hd : iv_nd N μ) (hi : i < N) (h1 : 10 ≤ D) (h2 : D ≤ 1476) : 8 ≤ ck_ μ i (T + D) - ck_ μ i T ∧ ck_ μ i (T + D) - ck_ μ i T ≤ D + 20 := by
  obtain ⟨-, -, -, -, ⟨-, a, b⟩, -⟩ := hd i hi
  unfold ck_
  generalize (μ.1 9 i 3).toInt = s at a b ⊢
  generalize (μ.1 9 i 4).toInt = u
  have e : s * ((T + D : Nat) : Int) = s * (T : Int) + s * (D : Int) := by
    rw [Int.natCast_add, Int.mul_add]
  rw [e]
  have c1 : (-99 : Int) * D ≤ s * D := Int.mul_le_mul_of_nonneg_right a (by omega)
  have c2 : s * D ≤ (99 : Int) * D := Int.mul_le_mul_of_nonneg_right b (by omega)
  generalize s * (T : Int) = p at *
  generalize s * (D : Int) = r at *
  omega
section XB
variable {μ : mm_T} {N t a T : Nat}
theorem dl_b {i : Nat} (hd : iv_nd N μ) (hi : i < N) : 10 ≤ dl_ μ i ∧ dl_ μ i ≤ 300 ∧ μ.1 9 i 5 = nI (dl_ μ i) ∧ μ.1 33 0 i = nI (dl_ μ i) := by
  obtain ⟨-, -, -, -, -, -, u, u1, u2, u3, u4⟩ := hd i hi
  have : dl_ μ i = u := by unfold dl_; rw [u3, nI_clamp (by omega)]
  rw [this]
  exact ⟨u1, u2, u3, u4⟩
theorem wy_b (hd : iv_nd N μ) (hp : pt_ μ) (h7 : N ≤ 7) (ht : t < N) (ha : a < N) (hf : fe_ μ (7 * t + a) ≠ -1) : wy_ μ t a ≤ 588 ∧ nI (fl_ μ t a) + fe_ μ (7 * t + a) = nI (wy_ μ t a) := by
  have h1 := fl_le hd ht ha
  unfold wy_
  rcases fx_b hp (show 7 * t + a < 49 by omega) _ (Nat.le_refl _) with e | ⟨x, x1, x2⟩
  · exact absurd e hf
  · have e : fe_ μ (7 * t + a) = nI x := x2
    rw [e, nI_clamp (by omega), nI_add]
    exact ⟨by omega, rfl⟩
theorem tt_b (hd : iv_nd N μ) (hp : pt_ μ) (h7 : N ≤ 7) (ht : t < N) (ha : a < N) (hf : fe_ μ (7 * t + a) ≠ -1) (j : Nat) : tt_ μ t a T j ≤ T + 2364 ∧ T ≤ tt_ μ t a T j := by
  have h1 := wy_b hd hp h7 ht ha hf
  have h2 := dl_b hd ht
  have h3 := dl_b hd ha
  unfold tt_
  repeat' split
  all_goals omega
theorem sg_ok (hd : iv_nd N μ) (hp : pt_ μ) (h7 : N ≤ 7) (ht : t < N) (ha : a < N) (hf : fe_ μ (7 * t + a) ≠ -1) (hT : T ≤ 15000000) : sg_ (sc_ μ t a T 1) (sc_ μ t a T 2) (sc_ μ t a T 3) (sc_ μ t a T 4) (sc_ μ t a T 5) (sc_ μ t a T 6) := by
  have h1 := wy_b hd hp h7 ht ha hf
  have h2 := dl_b hd ht
  have h3 := dl_b hd ha
  have B (j : Nat) : tt_ μ t a T j ≤ 20000000 := by
    have := (tt_b (T := T) hd hp h7 ht ha hf j).1
    omega
  have e1 : sc_ μ t a T 1 = ck_ μ t (tt_ μ t a T 1) := rfl
  have e2 : sc_ μ t a T 2 = ck_ μ a (tt_ μ t a T 2) := rfl
  have e3 : sc_ μ t a T 3 = ck_ μ a (tt_ μ t a T 3) := rfl
  have e4 : sc_ μ t a T 4 = ck_ μ t (tt_ μ t a T 4) := rfl
  have e5 : sc_ μ t a T 5 = ck_ μ t (tt_ μ t a T 5) := rfl
  have e6 : sc_ μ t a T 6 = ck_ μ a (tt_ μ t a T 6) := rfl
  rw [e1, e2, e3, e4, e5, e6]
  have b1 := ck_b hd ht (B 1)
  have b2 := ck_b hd ha (B 2)
  have b3 := ck_b hd ha (B 3)
  have b4 := ck_b hd ht (B 4)
  have b5 := ck_b hd ht (B 5)
  have b6 := ck_b hd ha (B 6)
  have d1 := ck_d (T := tt_ μ t a T 1) (D := wy_ μ t a + dl_ μ a + wy_ μ t a) hd ht (by omega) (by omega)
  have d2 := ck_d (T := tt_ μ t a T 3) (D := wy_ μ t a + dl_ μ t + wy_ μ t a) hd ha (by omega) (by omega)
  have d3 := ck_d (T := tt_ μ t a T 2) (D := dl_ μ a) hd ha (by omega) (by omega)
  have d4 := ck_d (T := tt_ μ t a T 4) (D := dl_ μ t) hd ht (by omega) (by omega)
  have t1 : tt_ μ t a T 1 + (wy_ μ t a + dl_ μ a + wy_ μ t a) = tt_ μ t a T 4 := by simp [tt_]; omega
  have t2 : tt_ μ t a T 3 + (wy_ μ t a + dl_ μ t + wy_ μ t a) = tt_ μ t a T 6 := by simp [tt_]; omega
  have t3 : tt_ μ t a T 2 + dl_ μ a = tt_ μ t a T 3 := by simp [tt_]
  have t4 : tt_ μ t a T 4 + dl_ μ t = tt_ μ t a T 5 := by simp [tt_]
  rw [t1] at d1
  rw [t2] at d2
  rw [t3] at d3
  rw [t4] at d4
  unfold sg_
  omega
end XB
theorem cn1 : (1 : Int32).toNatClampNeg = 1 := rfl
theorem cn2 : (2 : Int32).toNatClampNeg = 2 := rfl
theorem cn3 : (3 : Int32).toNatClampNeg = 3 := rfl
theorem cn4 : (4 : Int32).toNatClampNeg = 4 := rfl
theorem cn5 : (5 : Int32).toNatClampNeg = 5 := rfl
theorem cn6 : (6 : Int32).toNatClampNeg = 6 := rfl
theorem v71 : vp_in (1 : Int32) 7 := vp_in_nI (n := 1) (by omega) (by omega)
theorem v72 : vp_in (2 : Int32) 7 := vp_in_nI (n := 2) (by omega) (by omega)
theorem v73 : vp_in (3 : Int32) 7 := vp_in_nI (n := 3) (by omega) (by omega)
theorem v74 : vp_in (4 : Int32) 7 := vp_in_nI (n := 4) (by omega) (by omega)
theorem v75 : vp_in (5 : Int32) 7 := vp_in_nI (n := 5) (by omega) (by omega)
theorem v76 : vp_in (6 : Int32) 7 := vp_in_nI (n := 6) (by omega) (by omega)
theorem c_reckon {Po : mm_T → Prop} {μ : mm_T} {s1 s2 s3 s4 s5 s6 : Int} (h : sg_ s1 s2 s3 s4 s5 s6) (e1 : μ.2 16 0 1 = Int64.ofInt s1) (e2 : μ.2 16 0 2 = Int64.ofInt s2) (e3 : μ.2 16 0 3 = Int64.ofInt s3) (e4 : μ.2 16 0 4 = Int64.ofInt s4) (e5 : μ.2 16 0 5 = Int64.ofInt s5) (e6 : μ.2 16 0 6 = Int64.ofInt s6) (hP : Po (mm_I (mm_I μ 15 0 6 (Int32.ofInt (o1_ s1 s2 s3 s4))) 15 0 7 (Int32.ofInt (o2_ s1 s2 s3 s4 s5 s6)))) : pX3_reckon Po μ := by
  have hb := o2_b h
  obtain ⟨-, a1, a2, b1, b2, c1, c2, d1, d2⟩ := h
  unfold pX3_reckon pX3_replyA
  simp only [cn1, cn2, cn3, cn4, cn5, cn6, e1, e2, e3, e4, e5, e6, ← Int64.ofInt_sub]
  refine ⟨v74, v71, ?_⟩
  intro x3 q3
  subst q3
  refine ⟨v73, v72, v76, v73, ?_⟩
  intro x8 q8
  subst q8
  refine ⟨v75, v74, ?_⟩
  intro x11 q11
  subst q11
  intro x12 q12
  rw [← Int64.ofInt_add, ← Int64.ofInt_add, ← Int64.ofInt_add] at q12
  subst q12
  rw [← Int64.ofInt_sub]
  refine r_floor (B := 2) (by omega) (by omega) (by omega) (by omega) ?_
  intro μ15 q15
  rw [Int64.toInt32_ofInt] at q15
  subst q15
  refine (jF ?_).mpr ?_
  · rw [lg_cmp_eq]
    intro q
    have := congrArg Int64.toInt q
    rw [oL_T (by omega) (by omega), show (0 : Int64).toInt = 0 by decide] at this
    omega
  · rw [← Int64.ofInt_mul, ← Int64.ofInt_mul, ← Int64.ofInt_sub]
    refine r_floor (by omega) (by omega) (by omega) (by omega) ?_
    intro μ18 q18
    rw [Int64.toInt32_ofInt] at q18
    subst q18
    exact hP
/-- the memory behind the class's stamps -/
def st6 (μ : mm_T) (s : Nat → Int) : mm_T := mm_L (mm_L (mm_L (mm_L (mm_L (mm_L μ 16 0 1 (Int64.ofInt (s 1))) 16 0 2 (Int64.ofInt (s 2))) 16 0 3 (Int64.ofInt (s 3))) 16 0 4 (Int64.ofInt (s 4))) 16 0 5 (Int64.ofInt (s 5))) 16 0 6 (Int64.ofInt (s 6))
def stm (μ : mm_T) (t a T : Nat) : mm_T := mm_I (mm_I (mm_L (mm_L (st6 μ (sc_ μ t a T)) 15 0 3 (lN T)) 15 0 4 (lN (tt_ μ t a T 3))) 15 0 6 (Int32.ofInt (one_ μ t a T))) 15 0 7 (Int32.ofInt (two_ μ t a T))
theorem c_stamp {Po : Int64 → mm_T → Prop} {μ : mm_T} {N t a T : Nat} (hd : iv_nd N μ) (hp : pt_ μ) (h7 : N ≤ 7) (ht : t < N) (ha : a < N) (hf : fe_ μ (7 * t + a) ≠ -1) (hT : T ≤ 15000000) (hP : Po (lN (tt_ μ t a T 6)) (stm μ t a T)) : pX3_stamp Po μ t a (lN T) (nI (wy_ μ t a)) := by
  have h1 := wy_b hd hp h7 ht ha hf
  obtain ⟨a1, a2, a3, -⟩ := dl_b hd ht
  obtain ⟨b1, b2, b3, -⟩ := dl_b hd ha
  have B (j : Nat) : tt_ μ t a T j ≤ 20000000 := by
    have := (tt_b (T := T) hd hp h7 ht ha hf j).1
    omega
  unfold pX3_stamp
  rw [nI_l (show wy_ μ t a < 2 ^ 31 by omega), a3, b3, nI_l (show dl_ μ t < 2 ^ 31 by omega), nI_l (show dl_ μ a < 2 ^ 31 by omega)]
  refine ⟨by omega, by omega, ?_⟩
  intro x1 e1 x2 e2 x3 e3 x4 e4 x5 e5
  rw [lN_add] at e1
  subst e1
  rw [lN_add] at e2
  subst e2
  rw [lN_add] at e3
  subst e3
  rw [lN_add] at e4
  subst e4
  rw [lN_add] at e5
  subst e5
  simp only [cn1, cn2, cn3, cn4, cn5, cn6]
  refine r_clockAt hd h7 ht (B 1) ⟨v71, ?_⟩
  intro m1 q1
  subst q1
  refine r_clockAt (N := N) (T := tt_ μ t a T 2) hd h7 ha (B 2) ⟨v72, ?_⟩
  intro m2 q2
  subst q2
  refine r_clockAt (N := N) (T := tt_ μ t a T 3) hd h7 ha (B 3) ⟨v73, ?_⟩
  intro m3 q3
  subst q3
  refine r_clockAt (N := N) (T := tt_ μ t a T 4) hd h7 ht (B 4) ⟨v74, ?_⟩
  intro m4 q4
  subst q4
  refine r_clockAt (N := N) (T := tt_ μ t a T 5) hd h7 ht (B 5) ⟨v75, ?_⟩
  intro m5 q5
  subst q5
  refine r_clockAt (N := N) (T := tt_ μ t a T 6) hd h7 ha (B 6) ⟨v76, ?_⟩
  intro m6 q6 m7 q7 m8 q8
  subst q6; subst q7; subst q8
  refine c_reckon (sg_ok hd hp h7 ht ha hf hT) ?_ ?_ ?_ ?_ ?_ ?_ hP
  · simp [mm_Lr]; rfl
  · simp [mm_Lr]; rfl
  · simp [mm_Lr]; rfl
  · simp [mm_Lr]; rfl
  · simp [mm_Lr]; rfl
  · simp [mm_Lr]; rfl
