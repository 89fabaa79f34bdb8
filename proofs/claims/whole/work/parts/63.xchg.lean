/-! exchange -/
theorem m_exch {Po : Int32 → mm_T → Prop} {μ : mm_T} {N t a : Nat} {X : xs_T} (S : Sx_ N μ) (ht : t < N) (ha : a < N) (R : Rm_ N X μ) (hT : X.1 ≤ 15000000) (hP : ∀ μ2, fm_ xm_ μ μ2 → Rm_ N (xn_ μ X t a) μ2 → Po (xv_ μ X t a) μ2) : pX11_exchangeNow Po μ (nI t) (nI a) := by
  obtain ⟨hd, sq, pt, h7, hN, hM⟩ := S
  obtain ⟨R1, R2, R3, R4, R5, R6⟩ := R
  have hq : 7 * t + a < 49 := by omega
  unfold pX11_exchangeNow
  refine m_first pt (by omega) (by omega) ?_
  intro m3 e3
  have F3 : fm_ xm_ μ m3 := by rw [e3]; exact fm_.rf.I (by unfold xm_; omega)
  by_cases hf : fe_ μ (7 * t + a) = -1
  · refine (jT hf).mpr ?_
    intro m22 e22 m23 e23
    have E : (xv_ μ X t a) = -1000005 := by simp [xv_, hf]
    rw [← E]
    refine hP m23 ?_ ?_
    · subst e23; subst e22
      exact (F3.I (by unfold xm_; omega)).I (by unfold xm_; omega)
    · unfold xn_
      rw [if_pos hf]
      subst e23; subst e22; subst e3
      refine ⟨by simp [mm_Ir, R1, nI_1], Lm_c ?_ ?_ ?_ _ R2, fun q hq => ?_, by simp [mm_Ir, R4], by simp [mm_Ir, R5], fun i hi ht => ?_⟩
      · intro c c1 c2
        simp only [mm_Ir]
        rw [if_neg (by omega), if_neg (by omega), if_neg (by omega)]
      · intro c; simp [mm_Ir]
      · intro c; simp [mm_Ir]
      · simpa [mm_Ir] using R3 q hq
      · simpa [mm_Ir] using R6 i hi (by simpa [is_t, mm_Ir] using ht)
  · refine (jF hf).mpr (r_flightOf (x_nd (xp_m F3) hd) h7 ht ha ?_)
    have wb := wy_b hd pt h7 ht ha hf
    have sg := sg_ok (T := X.1) hd pt h7 ht ha hf hT
    obtain ⟨-, -, -, dt3⟩ := dl_b hd ht
    obtain ⟨-, -, -, da3⟩ := dl_b hd ha
    rw [x_fl (xp_m F3), wb.2]
    refine m_times (T := X.1) (dt := dl_ μ t) (da := dl_ μ a) (f := tt_ μ t a X.1) (by omega) (by omega) (by rw [e3]; simpa [mm_Ir] using R1) (by rw [e3]; simpa [mm_Ir] using da3) (by rw [e3]; simpa [mm_Ir] using dt3) (by simp [tt_]) (by simp [tt_]) (by simp [tt_]) (by simp [tt_]) (by simp [tt_]) (by simp [tt_]) ?_
    have F4 : fm_ xm_ μ (tm6 m3 (tt_ μ t a X.1)) := by
      unfold tm6
      refine fm_.I (fm_.I (fm_.I (fm_.I (fm_.I (fm_.I F3 ?_) ?_) ?_) ?_) ?_) ?_
      all_goals (unfold xm_; omega)
    have k4 : ∀ j, 1 ≤ j → j ≤ 6 → (tm6 m3 (tt_ μ t a X.1)).1 42 0 j = nI (tt_ μ t a X.1 j) := by
      intro j j1 j2
      rcases (show j = 1 ∨ j = 2 ∨ j = 3 ∨ j = 4 ∨ j = 5 ∨ j = 6 by omega) with rfl | rfl | rfl | rfl | rfl | rfl <;> simp [tm6, mm_Ir]
    have k4' : ∀ x b c, x ≠ 42 → (tm6 m3 (tt_ μ t a X.1)).1 x b c = m3.1 x b c := by
      intro x b c hx
      simp [tm6, mm_Ir, hx]
    generalize tm6 m3 (tt_ μ t a X.1) = m4 at F4 k4 k4' ⊢
    refine m_stamps (f := tt_ μ t a X.1) (x_nd (xp_m F4) hd) h7 ht ha (fun j j1 j2 => ⟨k4 j j1 j2, ?_⟩) ?_
    · have := (tt_b (T := X.1) hd pt h7 ht ha hf j).1
      omega
    have F5 := F4.tr (sm_fm m4 (fun j => Int32.ofInt (ck_ m4 (if j = 1 ∨ j = 4 ∨ j = 5 then t else a) (tt_ μ t a X.1 j))) 6)
    have k5 : ∀ j, 1 ≤ j → j ≤ 6 → (sm_ m4 (fun j => Int32.ofInt (ck_ m4 (if j = 1 ∨ j = 4 ∨ j = 5 then t else a) (tt_ μ t a X.1 j))) 6).1 43 0 j = Int32.ofInt (sc_ μ t a X.1 j) := by
      intro j j1 j2
      rw [sm_r, if_pos ⟨rfl, rfl, j1, j2⟩, x_ck (xp_m F4)]
      rfl
    have k5' : ∀ x b c, x ≠ 43 → (sm_ m4 (fun j => Int32.ofInt (ck_ m4 (if j = 1 ∨ j = 4 ∨ j = 5 then t else a) (tt_ μ t a X.1 j))) 6).1 x b c = m4.1 x b c := by
      intro x b c hx
      rw [sm_r, if_neg (fun q => hx q.1)]
    generalize sm_ m4 (fun j => Int32.ofInt (ck_ m4 (if j = 1 ∨ j = 4 ∨ j = 5 then t else a) (tt_ μ t a X.1 j))) 6 = m5 at F5 k5 k5' ⊢
    refine m_told sg (k5 1 (by omega) (by omega)) (k5 2 (by omega) (by omega)) (k5 3 (by omega) (by omega)) (k5 4 (by omega) (by omega)) (k5 5 (by omega) (by omega)) (k5 6 (by omega) (by omega)) ?_
    intro m9 e9 m10 e10 m11 e11
    have cq := nI_clamp (show 7 * t + a < 2 ^ 31 by omega)
    have vq : vp_in (nI (7 * t + a)) 49 := vp_in_nI hq (by omega)
    refine (q_pair (by omega) (by omega)).mpr ⟨vq, ?_⟩
    intro m15 e15
    refine (q_pair (by omega) (by omega)).mpr ⟨vq, ?_⟩
    intro m19 e19
    refine ⟨v76, ?_⟩
    intro m21 e21
    rw [cq] at e15 e19
    rw [cn6] at e21
    have k3 : ∀ x b c, x ≠ 26 → m3.1 x b c = μ.1 x b c := by
      intro x b c hx
      rw [e3, mm_Ir, if_neg (fun q => hx q.1)]
    have k26 : ∀ c, c ≠ 27 → m5.1 26 0 c = μ.1 26 0 c := by
      intro c hc
      rw [k5' _ _ _ (by omega), k4' _ _ _ (by omega), e3, mm_Ir, if_neg (fun q => hc q.2.2)]
    have k27 : m5.1 26 0 27 = X.2.2.2.2.1 + 1 := by
      rw [k5' _ _ _ (by omega), k4' _ _ _ (by omega), e3, mm_Ir]
      simp [R4]
    have kk : ∀ x b c, x ≠ 26 → x ≠ 42 → x ≠ 43 → m5.1 x b c = μ.1 x b c := fun x b c h1 h2 h3 => by
      rw [k5' _ _ _ h3, k4' _ _ _ h2, k3 _ _ _ h1]
    have k42 : ∀ j, 1 ≤ j → j ≤ 6 → m5.1 42 0 j = nI (tt_ μ t a X.1 j) := fun j j1 j2 => by
      rw [k5' _ _ _ (by omega), k4 j j1 j2]
    have g24 : m11.1 26 0 24 = Int32.ofInt (two_ μ t a X.1) := by
      subst e11; subst e10; subst e9
      simp [mm_Ir]
      rfl
    rw [g24] at e15
    have g6 : m19.1 42 0 6 = nI (tt_ μ t a X.1 6) := by
      subst e19; subst e15; subst e11; subst e10; subst e9
      simpa [mm_Ir] using k42 6 (by omega) (by omega)
    rw [g6, show (10 : Int32) = nI 10 from rfl, nI_add] at e21
    have E : m21.1 26 0 24 = xv_ μ X t a := by
      simp only [xv_, if_neg hf]
      rw [← g24]
      subst e21; subst e19; subst e15
      simp [mm_Ir]
    rw [E]
    refine hP m21 ?_ ?_
    · subst e21; subst e19; subst e15; subst e11; subst e10; subst e9
      refine fm_.I (fm_.I (fm_.I (fm_.I (fm_.I (fm_.I (fm_.I (fm_.I F5 ?_) ?_) ?_) ?_) ?_) ?_) ?_) ?_
      all_goals (unfold xm_; omega)
    · unfold xn_
      rw [if_neg hf]
      subst e21; subst e19; subst e15; subst e11; subst e10; subst e9
      refine ⟨?_, ⟨?_, ?_, ?_, ?_, ?_, ?_, ?_, ?_⟩, fun q hq => ⟨?_, fun hq1 => ?_⟩, ?_, ?_, fun i hi ht => ?_⟩
      · simp [mm_Ir]
      · simp [mm_Ir]
      · simp [mm_Ir]
      · simp [mm_Ir]
      · simpa [mm_Ir, tt_] using k42 1 (by omega) (by omega)
      · simpa [mm_Ir] using k42 3 (by omega) (by omega)
      · intro j j1 j2
        simpa [mm_Ir] using k5 j j1 j2
      · simp [mm_Ir]; rfl
      · simp [mm_Ir]; rfl
      · by_cases e : q = 7 * t + a
        · simp [mm_Ir, e]
        · simp [mm_Ir, e, kk 39 0 q (by omega) (by omega) (by omega), (R3 q hq).1]
      · by_cases e : q = 7 * t + a
        · simp [mm_Ir, e]
        · have h1 : X.2.2.1 q = 1 := by simpa [e] using hq1
          simp [mm_Ir, e, kk 40 0 q (by omega) (by omega) (by omega), (R3 q hq).2 h1]
      · simp [mm_Ir, k27]
      · simp [mm_Ir, k26 28 (by omega), R5]
      · have h1 : is_t μ i := by
          have := ht
          simp [is_t, mm_Ir, kk 9 i 0 (by omega) (by omega) (by omega)] at this
          exact this
        have := R6 i hi h1
        simp [mm_Ir, kk 35 0 i (by omega) (by omega) (by omega), this]
theorem xn_b {μ : mm_T} {N b c t a : Nat} {X : xs_T} (S : Sx_ N μ) (ht : t < N) (ha : a < N) (h1 : is_t μ t) (h2 : is_a μ a) (hT : X.1 ≤ 15000000) (V : Xv_ N b μ X) (hb : b ≤ c) (hc : X.1 + 2400 ≤ c) : Xv_ N c μ (xn_ μ X t a) ∧ (xn_ μ X t a).1 ≤ X.1 + 2374 := by
  obtain ⟨hd, sq, pt, h7, hN, hM⟩ := S
  obtain ⟨V1, V2, V3, V4⟩ := V
  unfold xn_
  by_cases hf : fe_ μ (7 * t + a) = -1
  · rw [if_pos hf]
    refine ⟨⟨show X.1 + 1 ≤ c by omega, fun l hl => ?_, V3, V4⟩, show X.1 + 1 ≤ X.1 + 2374 by omega⟩
    obtain ⟨a1, a2, a3, a4, a5, a6⟩ := V2 l hl
    exact ⟨a1, a2, a3, a4, by omega, by omega⟩
  · rw [if_neg hf]
    have b6 := tt_b (T := X.1) hd pt h7 ht ha hf 6
    have b3 := tt_b (T := X.1) hd pt h7 ht ha hf 3
    have sg := o2_b (sg_ok (T := X.1) hd pt h7 ht ha hf hT)
    refine ⟨⟨show tt_ μ t a X.1 6 + 10 ≤ c by omega, fun l hl => ?_, fun q hq => ?_, V4⟩, show tt_ μ t a X.1 6 + 10 ≤ X.1 + 2374 by omega⟩
    · cases hl
      exact ⟨ht, ha, h1, h2, show X.1 ≤ c by omega, show tt_ μ t a X.1 3 ≤ c by omega⟩
    · by_cases e : q = 7 * t + a
      · refine Or.inr ⟨by simp [e], ?_, ?_, t, a, ht, ha, h1, h2, e⟩
        · simp only [e, if_true]
          rw [oI_T (by unfold two_; omega) (by unfold two_; omega)]
          unfold two_
          omega
        · simp only [e, if_true]
          rw [oI_T (by unfold two_; omega) (by unfold two_; omega)]
          unfold two_
          omega
      · simpa [e] using V3 q hq
/-- from the invariant to what changes, and back -/
theorem X_of {μ : mm_T} {N k : Nat} (h : Iv_ N k μ) (ct : iv_ct μ) : ∃ X : xs_T, Rc_ N X μ ∧ Rm_ N X μ ∧ Xv_ N (9999999 + 2400 * k) μ X ∧ Sx_ N μ := by
  obtain ⟨hp, h7, hk, sq, hN, hM, la, f1, f2, f3, ⟨T, t1, t2, t3⟩, f5, f6, f7, f8⟩ := h
  obtain ⟨c1, c2, c3, c4⟩ := ct
  have S : Sx_ N μ := ⟨f1, sq, pt_of f5 f6, h7, hN, hM⟩
  have nx : ∀ i, i < N → is_t μ i → μ.1 9 i 7 = nI (μ.1 9 i 7).toNatClampNeg ∧ μ.1 35 0 i = nI (μ.1 9 i 7).toNatClampNeg ∧ (μ.1 9 i 7).toNatClampNeg < N ∧ is_a μ (μ.1 9 i 7).toNatClampNeg := by
    intro i hi ht
    obtain ⟨-, a, a1, a2, a3, a4⟩ := (f2 i hi).1 ht
    rw [a3, a4, nI_clamp (by omega)]
    exact ⟨rfl, rfl, a1, a2⟩
  have rg : ∀ q, q < 49 → (μ.1 12 q 3 = 0 ∧ μ.1 12 q 4 = -1) ∨ (μ.1 12 q 3 = 1 ∧ -400 ≤ (μ.1 12 q 4).toInt ∧ (μ.1 12 q 4).toInt ≤ 2000 ∧ ∃ t a, t < N ∧ a < N ∧ is_t μ t ∧ is_a μ a ∧ q = 7 * t + a) := by
    intro q hq
    rcases (f6 q hq).2 with ⟨g1, g2, g3⟩ | ⟨g1, g2, g3, g4⟩
    · exact Or.inl ⟨g1, g3⟩
    · exact Or.inr ⟨g1, g4⟩
  have rm : ∀ q, q < 49 → μ.1 39 0 q = μ.1 12 q 3 ∧ (μ.1 12 q 3 = 1 → μ.1 40 0 q = μ.1 12 q 4) := by
    intro q hq
    rcases (f6 q hq).2 with ⟨g1, g2, g3⟩ | ⟨g1, g2, g3, g4⟩
    · exact ⟨by rw [g1, g2], fun e => by rw [g1] at e; exact absurd e (by decide)⟩
    · exact ⟨by rw [g1, g2], fun _ => g3⟩
  rcases lk_of la with ⟨g1, g2⟩ | ⟨t, a, l1, l2, ht, ha, h3, h4, l3, l4, l5, l6, l7, l8, l9, l10, ⟨T1, T2, T3, T4⟩, U1, U2, U3, U4⟩
  · refine ⟨(T, none, fun q => μ.1 12 q 3, fun q => μ.1 12 q 4, μ.1 0 0 3, μ.1 0 0 4, fun i => (μ.1 9 i 7).toNatClampNeg), ⟨t2, g1, fun q _ => ⟨rfl, rfl⟩, rfl, rfl, fun i hi ht => (nx i hi ht).1⟩, ⟨t3, g2, rm, c1, c2, fun i hi ht => (nx i hi ht).2.1⟩, ⟨t1, fun l hl => (by cases hl), rg, fun i hi ht => (nx i hi ht).2.2⟩, S⟩
  · refine ⟨(T, some (t, a, T1, U1, fun j => μ.1 43 0 j, μ.1 15 0 6, μ.1 15 0 7), fun q => μ.1 12 q 3, fun q => μ.1 12 q 4, μ.1 0 0 3, μ.1 0 0 4, fun i => (μ.1 9 i 7).toNatClampNeg), ⟨t2, ⟨l1, l3, l5, T3, U3, l7, rfl, rfl, l10⟩, fun q _ => ⟨rfl, rfl⟩, rfl, rfl, fun i hi ht => (nx i hi ht).1⟩, ⟨t3, ⟨l2, l4, l6, T4, U4, fun _ _ _ => rfl, l8, l9⟩, rm, c1, c2, fun i hi ht => (nx i hi ht).2.1⟩, ⟨t1, fun l hl => ?_, rg, fun i hi ht => (nx i hi ht).2.2⟩, S⟩
    cases hl
    exact ⟨ht, ha, h3, h4, T2, U2⟩
theorem inv_X {μ : mm_T} {N k : Nat} {X : xs_T} (S : Sx_ N μ) (Rc : Rc_ N X μ) (Rm : Rm_ N X μ) (V : Xv_ N (9999999 + 2400 * k) μ X) (pl : iv_pl N μ) (pg : iv_pg μ) (c29 : μ.1 26 0 29 = μ.1 0 0 5) (c30 : μ.1 26 0 30 = μ.1 0 0 6) (tg : ∀ i, i < N → (is_t μ i → ∃ t, (t = 0 ∨ t = 1 ∨ t = 2 ∨ t = 4 ∨ t = 8 ∨ t = 16) ∧ μ.1 9 i 6 = nI t ∧ μ.1 34 0 i = nI t) ∧ (is_a μ i → μ.1 9 i 6 = -1 ∧ μ.1 9 i 7 = -1)) (ta : iv_ta N μ) (sl : iv_sl N μ) : Inv_ k μ := by
  obtain ⟨hd, sq, pt, h7, hN, hM⟩ := S
  obtain ⟨a1, a2, a3, a4, a5, a6⟩ := Rc
  obtain ⟨b1, b2, b3, b4, b5, b6⟩ := Rm
  obtain ⟨V1, V2, V3, V4⟩ := V
  refine ⟨pg, ⟨b4.trans a4.symm, b5.trans a5.symm, c29, c30⟩, sq, N, h7, hN, hM, ?_, fun hp => ⟨hd, fun i hi => ⟨fun ht => ⟨(tg i hi).1 ht, ?_⟩, (tg i hi).2⟩, ta, ⟨X.1, V1, a1, b1⟩, pt.1, fun q hq => ⟨?_, ?_⟩, sl, pl⟩⟩
  · cases hl : X.2.1 with
    | none =>
      rw [hl] at a2 b2
      exact Or.inl ⟨a2, b2⟩
    | some l =>
      rw [hl] at a2 b2
      obtain ⟨x1, x2, x3, x4, x5, x6, x7, x8, x9⟩ := a2
      obtain ⟨y1, y2, y3, y4, y5, y6, y7, y8⟩ := b2
      obtain ⟨z1, z2, z3, z4, z5, z6⟩ := V2 l hl
      exact Or.inr ⟨x1, y1, l.1, l.2.1, z1, z2, z3, z4, x2, y2, x3, y3, fun j j1 j2 => by rw [x6 j j1 j2, y6 j j1 j2], y7.trans x7.symm, y8.trans x8.symm, x9, ⟨_, z5, x4, y4⟩, _, z6, x5, y5⟩
  · exact ⟨_, (V4 i hi ht).1, (V4 i hi ht).2, a6 i hi ht, b6 i hi ht⟩
  · obtain ⟨p1, p2, p3, p4⟩ := pt.2 q hq
    exact ⟨np_ μ q, p1, p2, p3, p4⟩
  · rcases V3 q hq with ⟨u1, u2⟩ | ⟨u1, u2⟩
    · exact Or.inl ⟨(a3 q hq).1.trans u1, (b3 q hq).1.trans u1, (a3 q hq).2.trans u2⟩
    · refine Or.inr ⟨(a3 q hq).1.trans u1, (b3 q hq).1.trans u1, ((b3 q hq).2 u1).trans (a3 q hq).2.symm, ?_⟩
      rw [(a3 q hq).2]
      exact u2
theorem inv_skip' {k : Nat} {μ : mm_T} (h : Inv_ k μ) : Inv_ (k + 1) μ := by
  obtain ⟨h1, h2, h3, N, h4, h5, h6, h7, h8⟩ := h
  refine ⟨h1, h2, h3, N, h4, h5, h6, ?_, fun hN => ?_⟩
  · rcases h7 with h | ⟨a, b, t, an, c1, c2, c3, c4, c5, c6, c7, c8, c9, c10, c11, c12, ⟨T, d1, d2⟩, T2, d3, d4⟩
    · exact Or.inl h
    · exact Or.inr ⟨a, b, t, an, c1, c2, c3, c4, c5, c6, c7, c8, c9, c10, c11, c12, ⟨T, by omega, d2⟩, T2, by omega, d4⟩
  · obtain ⟨a1, a2, a3, ⟨T, d1, d2⟩, a5⟩ := h8 hN
    exact ⟨a1, a2, a3, ⟨T, by omega, d2⟩, a5⟩
theorem st_exchange (k : Nat) (μ : mm_T) (h : Inv_ k μ) (hk : k ≤ 512) (x y : Int32) : so_exchange (Inv_ (k + 1)) μ x y := by
  have h0 := h
  obtain ⟨pg, ct, sq, N, h7, hN, hM, la, fd⟩ := h
  have hd : iv_nd N μ := iv_nd0 fd
  unfold so_exchange pX10_exchange pX11_exchange
  by_cases b : pr_ N μ x y
  · obtain ⟨t, a, ht, ha, h1, h2, rfl, rfl⟩ := b
    obtain ⟨X, Rc, Rm, V, S⟩ := X_of (N := N) (k := k) ⟨by omega, h7, by omega, sq, hN, hM, la, fd (by omega)⟩ ct
    obtain ⟨f1, f2, f3, f4, f5, f6, f7, f8⟩ := fd (by omega)
    have hT : X.1 ≤ 15000000 := by have := V.1; omega
    refine (q_pr_t hN h7 ht ha h1 h2).mpr (j1.mpr (c_counted S ht ha Rc hT f8 ?_))
    intro m F Rc2 pl2
    have Fc := x0c F
    have S2 := Sx_fr (xp_c Fc) S
    have E1 : xn_ m X t a = xn_ μ X t a := by simp only [xn_, x_fe (xp_c Fc), x_tt (xp_c Fc), x_sc (xp_c Fc), x_one (xp_c Fc), x_two (xp_c Fc)]
    have E2 : xv_ m X t a = xv_ μ X t a := by simp only [xv_, x_fe (xp_c Fc), x_two (xp_c Fc)]
    have h1' := (x_t (xp_c Fc) t).mpr h1
    have h2' := (x_a (xp_c Fc) a).mpr h2
    refine (q_mp_t S2.2.2.2.2.2 h7 S2.1 ht ha h1' h2').mpr (i1.mpr (m_exch S2 ht ha (Rm_fr Fc Rm) hT ?_))
    intro m2 F2 Rm2
    rw [E1] at Rm2
    rw [E2]
    have Fx : fm_ xp_ μ m2 := (xp_c Fc).tr (xp_m F2)
    refine ⟨rfl, inv_X (Sx_fr (xp_m F2) S2) (Rc_fr F2 Rc2) Rm2 (Xv_fr Fx (xn_b S ht ha h1 h2 hT V (by omega) (by have := V.1; omega)).1) ?_ ?_ ?_ ?_ ?_ ?_ ?_⟩
    · have e (x b c : Nat) (hh : ¬ xm_ x c) : m2.1 x b c = m.1 x b c := F2.1 x b c hh
      exact pl_c (fun q => e 12 q 3 (by unfold xm_; omega)) (fun q => e 12 q 4 (by unfold xm_; omega)) (fun q => e 9 q 1 (by unfold xm_; omega)) (fun q => e 9 q 2 (by unfold xm_; omega)) (e 6 0 4 (by unfold xm_; omega)) (fun q => e 9 q 0 (by unfold xm_; omega)) (fun q j => e 10 q j (by unfold xm_; omega)) pl2
    · simpa only [iv_pg, x_o Fx 1 (by omega), x_o Fx 2 (by omega), x_o Fx 27 (by omega), x_26 Fx 0 (by omega)] using pg
    · rw [x_26 Fx 29 (by omega), Fx.1 0 0 5 (by unfold xp_ xc_ xm_; omega)]
      exact ct.2.2.1
    · rw [x_26 Fx 30 (by omega), Fx.1 0 0 6 (by unfold xp_ xc_ xm_; omega)]
      exact ct.2.2.2
    · intro i hi
      have e7 : m2.1 9 i 7 = μ.1 9 i 7 := by
        rw [F2.1 9 i 7 (by unfold xm_; omega), F.1 9 i 7 (by unfold xc0_; omega)]
      rw [x_t Fx, x_a Fx, x_9 Fx i 6 (by omega), x_o Fx 34 (by omega), e7]
      exact ⟨fun q => ((f2 i hi).1 q).1, (f2 i hi).2⟩
    · simpa only [iv_ta, x_t Fx, x_a Fx] using f3
    · simpa only [iv_sl, x_t Fx, x_o Fx 18 (by omega), x_o Fx 41 (by omega)] using f7
  · exact (q_pr_f hN h7 hd b).mpr (j0.mpr ((q_mp_f hM h7 hd b).mpr (i0.mpr ⟨rfl, inv_skip' h0⟩)))
