/-! The exchange run, on both sides. -/
theorem Lc_c {μ μ2 : mm_T} (e : ∀ c, μ2.1 15 0 c = μ.1 15 0 c) (e1 : ∀ c, μ2.2 15 0 c = μ.2 15 0 c) (e2 : ∀ c, μ2.2 16 0 c = μ.2 16 0 c) (e3 : fl_ μ2 = fl_ μ) (l : Option xl_T) (g : Lc_ μ l) : Lc_ μ2 l := by
  cases l with
  | none => simpa only [Lc_, e] using g
  | some l => simpa only [Lc_, e, e1, e2, e3] using g
theorem Lm_c {μ μ2 : mm_T} (e : ∀ c, 20 ≤ c → c ≤ 24 → μ2.1 26 0 c = μ.1 26 0 c) (e1 : ∀ c, μ2.1 42 0 c = μ.1 42 0 c) (e2 : ∀ c, μ2.1 43 0 c = μ.1 43 0 c) (l : Option xl_T) (g : Lm_ μ l) : Lm_ μ2 l := by
  have d0 := e 20 (by omega) (by omega)
  have d1 := e 21 (by omega) (by omega)
  have d2 := e 22 (by omega) (by omega)
  have d3 := e 23 (by omega) (by omega)
  have d4 := e 24 (by omega) (by omega)
  cases l with
  | none => simpa only [Lm_, d0] using g
  | some l => simpa only [Lm_, d0, d1, d2, d3, d4, e1, e2] using g
theorem lost_ne {A : Int} (h1 : -400 ≤ A) (h2 : A ≤ 2000) : ¬ Int32.ofInt A = -1000005 := by
  intro q
  have := congrArg Int32.toInt q
  rw [oI_T (by omega) (by omega), show (-1000005 : Int32).toInt = -1000005 by decide] at this
  omega
theorem c_counted {Po : Int32 → mm_T → Prop} {μ : mm_T} {N t a : Nat} {X : xs_T} (S : Sx_ N μ) (ht : t < N) (ha : a < N) (R : Rc_ N X μ) (hT : X.1 ≤ 15000000) (pl : iv_pl N μ) (hP : ∀ μ2, fm_ xc0_ μ μ2 → Rc_ N (xn_ μ X t a) μ2 → iv_pl N μ2 → Po (xv_ μ X t a) μ2) : pX10_countedPulses Po μ (nI t) (nI a) := by
  obtain ⟨hd, sq, pt, h7, hN, hM⟩ := S
  obtain ⟨R1, R2, R3, R4, R5, R6⟩ := R
  have hq : 7 * t + a < 49 := by omega
  unfold pX10_countedPulses pX0_sendPulses
  refine (q_link (by omega) (by omega)).mpr ⟨hq, c_least pt hq ?_⟩
  by_cases hf : fe_ μ (7 * t + a) = -1
  · refine (jT hf).mpr ?_
    intro μ1 e1 μ3 e3
    refine (jT rfl).mpr ?_
    intro μ4 e4
    have E : (xv_ μ X t a) = -1000005 := by simp [xv_, hf]
    rw [← E]
    refine hP μ4 ?_ ?_ ?_
    · subst e4; subst e3; subst e1
      exact ((fm_.rf.L (by unfold xc0_ xc_; omega)).I (by unfold xc0_ xc_; omega)).I (by unfold xc0_ xc_; omega)
    · unfold xn_
      rw [if_pos hf]
      subst e4; subst e3; subst e1
      refine ⟨by simp [mm_I2, mm_Lr, R1, lN_1], Lc_c ?_ ?_ ?_ ?_ _ R2, fun q hq => ?_, by simp [mm_Ir, mm_L1, R4], by simp [mm_Ir, mm_L1, R5], fun i hi ht => ?_⟩
      · intro c; simp [mm_Ir, mm_L1]
      · intro c; simp [mm_I2, mm_Lr]
      · intro c; simp [mm_I2, mm_Lr]
      · funext i j; simp [fl_, nx_, ny_, mm_Ir, mm_L1]
      · simpa [mm_Ir, mm_L1] using R3 q hq
      · simpa [mm_Ir, mm_L1] using R6 i hi (by simpa [is_t, mm_Ir, mm_L1] using ht)
    · subst e4; subst e3; subst e1
      refine pl_c ?_ ?_ ?_ ?_ ?_ ?_ ?_ pl
      all_goals simp [mm_Ir, mm_L1]
  · refine (jF hf).mpr (r_flightBetween hd sq h7 ht ha ⟨vp_in_nI (by omega) (by omega), vp_in_nI (by omega) (by omega), ?_⟩)
    have sg := o2_b (sg_ok (T := X.1) hd pt h7 ht ha hf hT)
    rw [nI_clamp (show t < 2 ^ 31 by omega), nI_clamp (show a < 2 ^ 31 by omega), R1, (wy_b hd pt h7 ht ha hf).2]
    refine c_stamp hd pt h7 ht ha hf hT ?_
    intro m12 e12 m13 e13 m14 e14 m15 e15 m16 e16 m17 e17 m18 e18
    refine ⟨vp_in_nI (by omega) (by omega), ?_⟩
    intro m20 e20 m3 e3
    have E : xv_ μ X t a = Int32.ofInt (two_ μ t a X.1) := by simp [xv_, hf]
    have e7 : m17.1 15 0 7 = Int32.ofInt (two_ μ t a X.1) := by
      subst e17; subst e16; subst e15; subst e14; subst e13; subst e12
      simp [mm_Ir, mm_L1, stm]
    rw [e7] at e18
    have e27 : m20.1 15 0 7 = xv_ μ X t a := by
      rw [E, ← e7]
      subst e20; subst e18
      simp [mm_Ir]
    rw [e27]
    refine (jF (by rw [E]; exact lost_ne (by unfold two_; omega) (by unfold two_; omega))).mpr ?_
    refine hP m3 ?_ ?_ ?_
    · subst e3; subst e20; subst e18; subst e17; subst e16; subst e15; subst e14; subst e13; subst e12
      unfold stm st6
      refine fm_.I (fm_.I (fm_.I (fm_.I (fm_.I (fm_.I (fm_.I (fm_.I (fm_.L (fm_.I (fm_.I (fm_.L (fm_.L (fm_.L (fm_.L (fm_.L (fm_.L (fm_.L (fm_.L fm_.rf ?_) ?_) ?_) ?_) ?_) ?_) ?_) ?_) ?_) ?_) ?_) ?_) ?_) ?_) ?_) ?_) ?_) ?_) ?_
      all_goals (unfold xc0_ xc_; omega)
    · unfold xn_
      rw [if_neg hf]
      subst e3; subst e20; subst e18; subst e17; subst e16; subst e15; subst e14; subst e13; subst e12
      refine ⟨?_, ⟨?_, ?_, ?_, ?_, ?_, ?_, ?_, ?_, ?_⟩, fun q hq => ⟨?_, ?_⟩, ?_, ?_, fun i hi ht => ?_⟩
      · simp [mm_I2, mm_Lr]
        exact lN_add _ 10
      · simp [mm_Ir]
      · simp [mm_Ir]
      · simp [mm_Ir]
      · simp [mm_I2, mm_Lr, stm]
      · simp [mm_I2, mm_Lr, stm]
      · intro j j1 j2
        have hs := (sg_ok (T := X.1) hd pt h7 ht ha hf hT).1
        have e : (Int32.ofInt (sc_ μ t a X.1 j)).toInt64 = Int64.ofInt (sc_ μ t a X.1 j) := by
          rcases (show j = 1 ∨ j = 2 ∨ j = 3 ∨ j = 4 ∨ j = 5 ∨ j = 6 by omega) with rfl | rfl | rfl | rfl | rfl | rfl <;> exact oIL (by omega) (by omega)
        show _ = (Int32.ofInt (sc_ μ t a X.1 j)).toInt64
        rw [e]
        rcases (show j = 1 ∨ j = 2 ∨ j = 3 ∨ j = 4 ∨ j = 5 ∨ j = 6 by omega) with rfl | rfl | rfl | rfl | rfl | rfl <;> simp [mm_I2, mm_Lr, stm, st6]
      · simp [mm_Ir, mm_L1, stm]
      · simp [mm_Ir, mm_L1, stm]
      · simp [mm_Ir, fl_, nx_, ny_, mm_L1, stm, st6]
      · by_cases e : q = 7 * t + a
        · simp [mm_Ir, e]
        · simp [mm_Ir, mm_L1, stm, st6, e, (R3 q hq).1]
      · by_cases e : q = 7 * t + a
        · simp [mm_Ir, e]
        · simp [mm_Ir, mm_L1, stm, st6, e, (R3 q hq).2]
      · simp [mm_Ir, mm_L1, stm, st6, R4]
      · simp [mm_Ir, mm_L1, stm, st6, R5]
      · have := R6 i hi (by simpa [is_t, mm_Ir, mm_L1, stm, st6] using ht)
        simpa [mm_Ir, mm_L1, stm, st6] using this
    · subst e3; subst e20; subst e18; subst e17; subst e16; subst e15; subst e14; subst e13; subst e12
      intro i hi hti
      by_cases e : i = t
      · refine Or.inl ?_
        simp [mm_Ir, e, nI_clamp (show t < 2 ^ 31 by omega)]
      · have hti : is_t μ i := by simpa [is_t, mm_Ir, mm_L1, stm, st6] using hti
        refine pl_1 h7 ?_ ?_ ?_ ?_ ?_ ?_ (pl i hi hti)
        · intro j hj
          have : ¬ 7 * i + j = 7 * t + a := by omega
          simp [mm_Ir, mm_L1, stm, st6, this]
        · intro j hj
          have : ¬ 7 * i + j = 7 * t + a := by omega
          simp [mm_Ir, mm_L1, stm, st6, this]
        · intro j; simp [mm_Ir, mm_L1, stm, st6]
        · intro j; simp [mm_Ir, mm_L1, stm, st6]
        · simp [mm_Ir, mm_L1, stm, st6]
        · intro j; simp [mm_Ir, mm_L1, stm, st6, e, nI_clamp (show t < 2 ^ 31 by omega)]
/-- the model's times and stamps -/
def tm6 (m : mm_T) (f : Nat → Nat) : mm_T := mm_I (mm_I (mm_I (mm_I (mm_I (mm_I m 42 0 1 (nI (f 1))) 42 0 2 (nI (f 2))) 42 0 3 (nI (f 3))) 42 0 4 (nI (f 4))) 42 0 5 (nI (f 5))) 42 0 6 (nI (f 6))
theorem m_times {Po : mm_T → Prop} {m : mm_T} {t a T w dt da : Nat} {f : Nat → Nat} (ht : t < 7) (ha : a < 7) (h17 : m.1 26 0 17 = nI T) (ha3 : m.1 33 0 a = nI da) (ht3 : m.1 33 0 t = nI dt) (f1 : f 1 = T) (f2 : f 2 = T + w) (f3 : f 3 = T + w + da) (f4 : f 4 = T + w + da + w) (f5 : f 5 = T + w + da + w + dt) (f6 : f 6 = T + w + da + w + dt + w) (hP : Po (tm6 m f)) : pX11_layTimes Po m (nI t) (nI a) (nI w) := by
  have va : vp_in (nI a) 7 := vp_in_nI ha (by omega)
  have vt : vp_in (nI t) 7 := vp_in_nI ht (by omega)
  have ca := nI_clamp (show a < 2 ^ 31 by omega)
  have ct := nI_clamp (show t < 2 ^ 31 by omega)
  unfold pX11_layTimes
  simp only [cn1, cn2, cn3, cn4, cn5, cn6, ca, ct]
  refine ⟨v71, ?_⟩
  intro m1 e1
  refine ⟨v71, v72, ?_⟩
  intro m2 e2
  refine ⟨v72, va, v73, ?_⟩
  intro m3 e3
  refine ⟨v73, v74, ?_⟩
  intro m4 e4
  refine ⟨v74, vt, v75, ?_⟩
  intro m5 e5
  refine ⟨v75, v76, ?_⟩
  intro m6 e6
  rw [h17] at e1
  have g1 : m1.1 42 0 1 = nI T := by rw [e1, mm_Ir]; simp
  rw [g1, nI_add] at e2
  have g2 : m2.1 42 0 2 = nI (T + w) := by rw [e2, mm_Ir]; simp
  have g2' : m2.1 33 0 a = nI da := by rw [e2, mm_Ir, e1]; simp [mm_Ir, ha3]
  rw [g2, g2', nI_add] at e3
  have g3 : m3.1 42 0 3 = nI (T + w + da) := by rw [e3, mm_Ir]; simp
  rw [g3, nI_add] at e4
  have g4 : m4.1 42 0 4 = nI (T + w + da + w) := by rw [e4, mm_Ir]; simp
  have g4' : m4.1 33 0 t = nI dt := by rw [e4, mm_Ir, e3, mm_Ir, e2, mm_Ir, e1]; simp [mm_Ir, ht3]
  rw [g4, g4', nI_add] at e5
  have g5 : m5.1 42 0 5 = nI (T + w + da + w + dt) := by rw [e5, mm_Ir]; simp
  rw [g5, nI_add] at e6
  have : m6 = tm6 m f := by
    unfold tm6
    rw [f1, f2, f3, f4, f5, f6, e6, e5, e4, e3, e2, e1]
  rw [this]
  exact hP
def sm_ (m : mm_T) (g : Nat → Int32) : Nat → mm_T
  | 0 => m
  | n + 1 => mm_I (sm_ m g n) 43 0 (n + 1) (g (n + 1))
theorem sm_fm (m : mm_T) (g : Nat → Int32) : ∀ n, fm_ xm_ m (sm_ m g n)
  | 0 => fm_.rf
  | n + 1 => (sm_fm m g n).I (by unfold xm_; omega)
theorem sm_r (m : mm_T) (g : Nat → Int32) : ∀ n x b c, (sm_ m g n).1 x b c = if x = 43 ∧ b = 0 ∧ 1 ≤ c ∧ c ≤ n then g c else m.1 x b c
  | 0, x, b, c => by rw [if_neg (by omega)]; rfl
  | n + 1, x, b, c => by
    unfold sm_
    rw [mm_Ir, sm_r m g n x b c]
    by_cases e : x = 43 ∧ b = 0 ∧ c = n + 1
    · rw [if_pos e, if_pos (by omega), e.2.2]
    · rw [if_neg e]
      by_cases e2 : x = 43 ∧ b = 0 ∧ 1 ≤ c ∧ c ≤ n
      · rw [if_pos e2, if_pos (by omega)]
      · rw [if_neg e2, if_neg (by omega)]
theorem m_stamps {Po : mm_T → Prop} {m : mm_T} {N t a : Nat} {f : Nat → Nat} (hd : iv_nd N m) (h7 : N ≤ 7) (ht : t < N) (ha : a < N) (hf : ∀ j, 1 ≤ j → j ≤ 6 → m.1 42 0 j = nI (f j) ∧ f j ≤ 20000000) (hP : Po (sm_ m (fun j => Int32.ofInt (ck_ m (if j = 1 ∨ j = 4 ∨ j = 5 then t else a) (f j))) 6)) : pX11_layStamps Po m (nI t) (nI a) := by
  unfold pX11_layStamps
  refine lp_up 6 (fun j s => s = (sm_ m (fun j => Int32.ofInt (ck_ m (if j = 1 ∨ j = 4 ∨ j = 5 then t else a) (f j))) j, nI t, nI a, nI (j + 1))) ?_ 0 (by omega) _ rfl
  intro j s hj hI K hK
  subst hI
  unfold pX11_layStamps_l2
  have F := xp_m (sm_fm m (fun j => Int32.ofInt (ck_ m (if j = 1 ∨ j = 4 ∨ j = 5 then t else a) (f j))) j)
  rcases Nat.eq_or_lt_of_le hj with e | hlt
  · subst e
    exact (iT (show (7 : Int32) ≤ nI 7 by decide)).mpr hP
  refine (iF (show ¬ nI 7 ≤ nI (j + 1) from nI_ge (by omega) (by omega))).mpr ?_
  obtain ⟨f1, f2⟩ := hf (j + 1) (by omega) (by omega)
  have v : vp_in (nI (j + 1)) 7 := vp_in_nI (by omega) (by omega)
  have cl := nI_clamp (show j + 1 < 2 ^ 31 by omega)
  have key : ∀ i, i < N → i = (if j + 1 = 1 ∨ j + 1 = 4 ∨ j + 1 = 5 then t else a) → pX11_layStamps_b46 (fun μ a1 a2 a3 => K (μ, a1, a2, a3)) (sm_ m (fun j => Int32.ofInt (ck_ m (if j = 1 ∨ j = 4 ∨ j = 5 then t else a) (f j))) j) (nI t) (nI a) (nI (j + 1)) (nI i) (nI (j + 1)) := by
    intro i hi ei
    unfold pX11_layStamps_b46
    refine ⟨v, ?_⟩
    rw [cl, sm_r, if_neg (by omega), f1]
    refine r_clockOf (x_nd F hd) h7 hi f2 ⟨v, ?_⟩
    intro m5 e5
    refine hK hlt _ ?_
    rw [nI_1, e5, x_ck F, ei]
    rfl
  have kt : (j + 1 = 1 ∨ j + 1 = 4 ∨ j + 1 = 5) → pX11_layStamps_b23 (fun μ a1 a2 a3 => K (μ, a1, a2, a3)) (sm_ m (fun j => Int32.ofInt (ck_ m (if j = 1 ∨ j = 4 ∨ j = 5 then t else a) (f j))) j) (nI t) (nI a) (nI (j + 1)) := by
    intro q
    unfold pX11_layStamps_b23 pX11_layStamps_b28
    exact i1.mpr (key t ht (by rw [if_pos q]))
  have ka : ¬ (j + 1 = 1 ∨ j + 1 = 4 ∨ j + 1 = 5) → pX11_layStamps_b28 (fun μ a1 a2 a3 => K (μ, a1, a2, a3)) (sm_ m (fun j => Int32.ofInt (ck_ m (if j = 1 ∨ j = 4 ∨ j = 5 then t else a) (f j))) j) (nI t) (nI a) (nI (j + 1)) 0 := by
    intro q
    unfold pX11_layStamps_b28
    exact i0.mpr (key a ha (by rw [if_neg q]))
  by_cases b1 : j + 1 = 1
  · exact (iT (by rw [b1]; rfl)).mpr (kt (by omega))
  refine (iF (fun q => b1 (ni_inj (b := 1) (by omega) (by omega) q))).mpr ?_
  by_cases b2 : j + 1 = 4
  · exact (iT (by rw [b2]; rfl)).mpr (kt (by omega))
  refine (iF (fun q => b2 (ni_inj (b := 4) (by omega) (by omega) q))).mpr ?_
  by_cases b3 : j + 1 = 5
  · exact (jT (by rw [b3]; rfl)).mpr (kt (by omega))
  · exact (jF (fun q => b3 (ni_inj (b := 5) (by omega) (by omega) q))).mpr (ka (by omega))
theorem m_told {Po : mm_T → Prop} {μ : mm_T} {s1 s2 s3 s4 s5 s6 : Int} (h : sg_ s1 s2 s3 s4 s5 s6) (e1 : μ.1 43 0 1 = Int32.ofInt s1) (e2 : μ.1 43 0 2 = Int32.ofInt s2) (e3 : μ.1 43 0 3 = Int32.ofInt s3) (e4 : μ.1 43 0 4 = Int32.ofInt s4) (e5 : μ.1 43 0 5 = Int32.ofInt s5) (e6 : μ.1 43 0 6 = Int32.ofInt s6) (hP : Po (mm_I (mm_I μ 26 0 23 (Int32.ofInt (o1_ s1 s2 s3 s4))) 26 0 24 (Int32.ofInt (o2_ s1 s2 s3 s4 s5 s6)))) : pX11_layTold Po μ := by
  have hb := o2_b h
  obtain ⟨-, a1, a2, b1, b2, c1, c2, d1, d2⟩ := h
  unfold pX11_layTold
  simp only [cn1, cn2, cn3, cn4, cn5, cn6, e1, e2, e3, e4, e5, e6, ← Int32.ofInt_sub]
  refine ⟨v74, v71, ?_⟩
  intro x3 q3
  rw [oIL (by omega) (by omega)] at q3
  refine ⟨v73, v72, ?_⟩
  intro x6 q6
  rw [oIL (by omega) (by omega)] at q6
  refine ⟨v76, v73, ?_⟩
  intro x9 q9
  rw [oIL (by omega) (by omega)] at q9
  refine ⟨v75, v74, ?_⟩
  intro x12 q12
  rw [oIL (by omega) (by omega)] at q12
  subst q3; subst q6; subst q9; subst q12
  rw [← Int64.ofInt_sub]
  refine r_down (B := 2) (by omega) (by omega) (by omega) (by omega) ?_
  intro m15 q15
  subst q15
  rw [← Int64.ofInt_mul, ← Int64.ofInt_mul, ← Int64.ofInt_sub, ← Int64.ofInt_add, ← Int64.ofInt_add, ← Int64.ofInt_add]
  refine r_down (by omega) (by omega) (by omega) (by omega) ?_
  intro m18 q18
  subst q18
  exact hP
