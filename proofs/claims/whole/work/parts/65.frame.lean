/-! frame -/
section XN
variable {μ μ2 : mm_T}
theorem x_xn (h : fm_ xp_ μ μ2) : xn_ μ2 = xn_ μ := by
  funext X t a
  simp only [xn_, x_fe h, x_tt h, x_sc h, x_one h, x_two h]
theorem x_xv (h : fm_ xp_ μ μ2) : xv_ μ2 = xv_ μ := by
  funext X t a
  simp only [xv_, x_fe h, x_two h]
theorem x_ab (h : fm_ xp_ μ μ2) : ab_ μ2 = ab_ μ := by
  have e : ∀ n i, af_ μ2 n i = af_ μ n i := by
    intro n
    induction n with
    | zero => intro i; rfl
    | succ n ih => intro i; simp only [af_, ih, x_9 h i 0 (by omega)]
  funext N a
  simp only [ab_, f0_, e]
theorem x_ta {N : Nat} (h : fm_ xp_ μ μ2) (g : iv_ta N μ) : iv_ta N μ2 := by
  simpa only [iv_ta, x_t h, x_a h] using g
end XN
def nxt_ (X : xs_T) (t v : Nat) : xs_T := (X.1, X.2.1, X.2.2.1, X.2.2.2.1, X.2.2.2.2.1, X.2.2.2.2.2.1, fun i => if i = t then v else X.2.2.2.2.2.2 i)
def fs_ (μ : mm_T) (N B s : Nat) (Z : xs_T × Nat) : xs_T × Nat := if μ.1 18 0 s = -1 then ((B + 3000 * s, Z.1.2), Z.2) else (nxt_ (xn_ μ (B + 3000 * s, Z.1.2) (μ.1 18 0 s).toNatClampNeg (Z.1.2.2.2.2.2.2 (μ.1 18 0 s).toNatClampNeg)) (μ.1 18 0 s).toNatClampNeg (ab_ μ N (Z.1.2.2.2.2.2.2 (μ.1 18 0 s).toNatClampNeg)), Z.2 + (if xv_ μ (B + 3000 * s, Z.1.2) (μ.1 18 0 s).toNatClampNeg (Z.1.2.2.2.2.2.2 (μ.1 18 0 s).toNatClampNeg) = -1000005 then 0 else 1))
def fz_ (μ : mm_T) (N B : Nat) (X : xs_T) : Nat → xs_T × Nat
  | 0 => (X, 0)
  | s + 1 => fs_ μ N B s (fz_ μ N B X s)
theorem fz_ok {μ : mm_T} {N B c : Nat} {X : xs_T} (S : Sx_ N μ) (ta : iv_ta N μ) (sl : iv_sl N μ) (V : Xv_ N c μ X) (hX : X.1 ≤ B) (hB : B + 48000 ≤ 9999999) (hc : 9999999 ≤ c) : ∀ s, s ≤ 16 → Xv_ N c μ (fz_ μ N B X s).1 ∧ (fz_ μ N B X s).1.1 ≤ B + 3000 * s ∧ (fz_ μ N B X s).2 ≤ s
  | 0, _ => ⟨V, by show X.1 ≤ B + 0; omega, Nat.le_refl _⟩
  | s + 1, hs => by
    obtain ⟨h1, h2, h3⟩ := fz_ok S ta sl V hX hB hc s (by omega)
    unfold fz_ fs_
    generalize fz_ μ N B X s = Z at h1 h2 h3 ⊢
    have V1 : Xv_ N c μ (B + 3000 * s, Z.1.2) := ⟨show B + 3000 * s ≤ c by omega, h1.2⟩
    rcases (sl s (by omega)).2 with e | ⟨t, t1, t2, t3⟩
    · rw [if_pos e]
      exact ⟨V1, show B + 3000 * s ≤ B + 3000 * (s + 1) by omega, show Z.2 ≤ s + 1 by omega⟩
    · have ne : ¬ μ.1 18 0 s = -1 := by
        rw [t3]
        intro q
        have := congrArg Int32.toInt q
        rw [nI_toInt (by have := S.2.2.2.1; omega), show (-1 : Int32).toInt = -1 by decide] at this
        omega
      rw [if_neg ne, t3, nI_clamp (by have := S.2.2.2.1; omega)]
      obtain ⟨n1, n2⟩ := h1.2.2.2 t t1 t2
      obtain ⟨W, Wb⟩ := xn_b (X := (B + 3000 * s, Z.1.2)) (c := c) S t1 n1 t2 n2 (show B + 3000 * s ≤ 15000000 by omega) V1 (Nat.le_refl _) (show B + 3000 * s + 2400 ≤ c by omega)
      have Wb : (xn_ μ (B + 3000 * s, Z.1.2) t (Z.1.2.2.2.2.2.2 t)).1 ≤ B + 3000 * s + 2374 := Wb
      have ab := ab_ok ta n1
      refine ⟨⟨W.1, W.2.1, W.2.2.1, fun i hi hti => ?_⟩, ?_, ?_⟩
      · show (if i = t then _ else _) < N ∧ is_a μ (if i = t then _ else _)
        by_cases e : i = t
        · rw [if_pos e]
          exact ab
        · rw [if_neg e]
          exact W.2.2.2 i hi hti
      · exact Nat.le_trans Wb (by omega)
      · show Z.2 + (if xv_ μ (B + 3000 * s, Z.1.2) t (Z.1.2.2.2.2.2.2 t) = -1000005 then 0 else 1) ≤ s + 1
        split <;> omega
theorem Rc_T {N T : Nat} {X : xs_T} {μ : mm_T} (R : Rc_ N X μ) : Rc_ N (T, X.2) (mm_L μ 6 0 2 (lN T)) := by
  obtain ⟨R1, R2, R3, R4, R5, R6⟩ := R
  refine ⟨by simp [mm_Lr], Lc_c (fun c => rfl) ?_ ?_ rfl _ R2, R3, R4, R5, R6⟩
  · intro c; simp [mm_Lr]
  · intro c; simp [mm_Lr]
theorem Rc_n {N t v : Nat} {X : xs_T} {μ : mm_T} (R : Rc_ N X μ) : Rc_ N (nxt_ X t v) (mm_I μ 9 t 7 (nI v)) := by
  obtain ⟨R1, R2, R3, R4, R5, R6⟩ := R
  refine ⟨R1, Lc_c ?_ ?_ ?_ ?_ _ R2, ?_, by simpa [mm_Ir, nxt_] using R4, by simpa [mm_Ir, nxt_] using R5, fun i hi ht => ?_⟩
  · intro c; simp [mm_Ir]
  · intro c; simp [mm_I2]
  · intro c; simp [mm_I2]
  · funext i j; simp [fl_, nx_, ny_, mm_Ir]
  · intro q hq; simpa [mm_Ir, nxt_] using R3 q hq
  · show _ = nI (if i = t then v else X.2.2.2.2.2.2 i)
    by_cases e : i = t
    · simp [mm_Ir, e]
    · simp [mm_Ir, e]
      exact R6 i hi (by simpa [is_t, mm_Ir] using ht)
theorem Rm_T {N T : Nat} {X : xs_T} {μ : mm_T} (R : Rm_ N X μ) : Rm_ N (T, X.2) (mm_I μ 26 0 17 (nI T)) := by
  obtain ⟨R1, R2, R3, R4, R5, R6⟩ := R
  refine ⟨by simp [mm_Ir], Lm_c ?_ ?_ ?_ _ R2, fun q hq => by simpa [mm_Ir] using R3 q hq, by simpa [mm_Ir] using R4, by simpa [mm_Ir] using R5, fun i hi ht => by simpa [mm_Ir] using R6 i hi (by simpa [is_t, mm_Ir] using ht)⟩
  · intro c c1 c2
    rw [mm_Ir, if_neg (by omega)]
  · intro c; simp [mm_Ir]
  · intro c; simp [mm_Ir]
theorem Rm_n {N t v : Nat} {X : xs_T} {μ : mm_T} (R : Rm_ N X μ) : Rm_ N (nxt_ X t v) (mm_I μ 35 0 t (nI v)) := by
  obtain ⟨R1, R2, R3, R4, R5, R6⟩ := R
  refine ⟨by simpa [mm_Ir, nxt_] using R1, Lm_c ?_ ?_ ?_ _ R2, fun q hq => by simpa [mm_Ir, nxt_] using R3 q hq, by simpa [mm_Ir, nxt_] using R4, by simpa [mm_Ir, nxt_] using R5, fun i hi ht => ?_⟩
  · intro c c1 c2
    rw [mm_Ir, if_neg (by omega)]
  · intro c; simp [mm_Ir]
  · intro c; simp [mm_Ir]
  · show _ = nI (if i = t then v else X.2.2.2.2.2.2 i)
    by_cases e : i = t
    · simp [mm_Ir, e]
    · simp [mm_Ir, e]
      exact R6 i hi (by simpa [is_t, mm_Ir] using ht)
theorem nIm1 {t : Nat} (h : t < 2 ^ 31) : ¬ nI t = -1 := by
  intro q
  have := congrArg Int32.toInt q
  rw [nI_toInt h, show (-1 : Int32).toInt = -1 by decide] at this
  omega
/-- the class's frame -/
theorem c_frame {Po : Int32 → mm_T → Prop} {μ : mm_T} {N B c : Nat} {X : xs_T} (S : Sx_ N μ) (ta : iv_ta N μ) (sl : iv_sl N μ) (V : Xv_ N c μ X) (hp : 0 < N) (hX : X.1 = B) (hB : B + 48000 ≤ 9999999) (hc : 9999999 ≤ c) (R : Rc_ N X μ) (pl : iv_pl N μ) (hP : ∀ m, fm_ xc_ μ m → Rc_ N (B + 48000, (fz_ μ N B X 16).1.2) m → iv_pl N m → (∀ i, i < N → is_a μ i → m.1 9 i 7 = μ.1 9 i 7) → Po (nI (fz_ μ N B X 16).2) (mm_I m 0 0 6 (m.1 0 0 6 + 1))) : pX10_frame Po μ := by
  obtain ⟨hd, sq, pt, h7, hN, hM⟩ := id S
  have Z := fz_ok S ta sl V (Nat.le_of_eq hX) hB hc
  unfold pX10_frame
  refine (q_rd_t hN h7 hp).mpr (i1.mpr ((iT ?_).mpr ?_))
  · rw [lg_cmp_le, R.1, hX, show (48000 : Int64) = lN 48000 from rfl, lN_add]
    exact (lN_le (b := 9999999) (by omega) (by omega)).mpr hB
  intro x3 e3
  rw [R.1, hX] at e3
  subst e3
  refine lp_up 16 (fun j t => t.2 = (lN B, nI (fz_ μ N B X j).2, nI j) ∧ fm_ xc_ μ t.1 ∧ Rc_ N (fz_ μ N B X j).1 t.1 ∧ iv_pl N t.1 ∧ ∀ i, i < N → is_a μ i → t.1.1 9 i 7 = μ.1 9 i 7) ?_ 0 (by omega) _ ?_
  rotate_left
  · exact ⟨rfl, fm_.rf, R, pl, fun _ _ _ => rfl⟩
  rintro j ⟨m, b, g, jj⟩ hj ⟨i1', i2, i3, i4, i5⟩ K hK
  cases i1'
  unfold pX10_frame_l44
  have Fx := xp_c i2
  have Sm := Sx_fr Fx S
  obtain ⟨Z1, Z2, Z3⟩ := Z j hj
  have W : ∀ (T : Nat) (Po : mm_T → Prop), (fz_ μ N B X j).1.1 ≤ T → T ≤ 15000000 → Po (mm_L m 6 0 2 (lN T)) → pX0_waitUntil Po m (lN T) := by
    intro T Po h1 h2 hh
    unfold pX0_waitUntil
    intro m1 e1
    rw [i3.1, if_neg (fun q => by have := (lN_lt (by omega) (by omega)).mp q; omega)] at e1
    rw [e1]
    exact hh
  rcases Nat.eq_or_lt_of_le hj with e | hlt
  · subst e
    refine (iT (show (16 : Int32) ≤ nI 16 by decide)).mpr ?_
    show pX0_waitUntil _ m (lN B + 48000)
    rw [show (48000 : Int64) = lN 48000 from rfl, lN_add]
    refine W (B + 48000) _ (by omega) (by omega) ?_
    intro m5 e5
    subst e5
    refine hP _ (i2.L (by unfold xc_; omega)) (Rc_T i3) ?_ i5
    exact pl_c (fun _ => rfl) (fun _ => rfl) (fun _ => rfl) (fun _ => rfl) rfl (fun _ => rfl) (fun _ _ => rfl) i4
  · refine (iF (show ¬ nI 16 ≤ nI j from nI_ge hlt (by omega))).mpr ?_
    show pX0_waitUntil _ m (lN B + ((3000 : Int32) * nI j).toInt64)
    have e3 : lN B + ((3000 : Int32) * nI j).toInt64 = lN (B + 3000 * j) := by
      rw [show (3000 : Int32) = nI 3000 from rfl, pk_mul, nI_l (by omega), lN_add]
    rw [e3]
    refine W _ _ Z2 (by omega) ?_
    have F1 : fm_ xc_ μ (mm_L m 6 0 2 (lN (B + 3000 * j))) := i2.L (by unfold xc_; omega)
    have R1 : Rc_ N (B + 3000 * j, (fz_ μ N B X j).1.2) (mm_L m 6 0 2 (lN (B + 3000 * j))) := Rc_T i3
    have P1 : iv_pl N (mm_L m 6 0 2 (lN (B + 3000 * j))) := pl_c (fun _ => rfl) (fun _ => rfl) (fun _ => rfl) (fun _ => rfl) rfl (fun _ => rfl) (fun _ _ => rfl) i4
    have A1 : ∀ i, i < N → is_a μ i → (mm_L m 6 0 2 (lN (B + 3000 * j))).1 9 i 7 = μ.1 9 i 7 := i5
    generalize mm_L m 6 0 2 (lN (B + 3000 * j)) = m1 at F1 R1 P1 A1 ⊢
    have S1 := Sx_fr (xp_c F1) S
    refine ⟨vp_in_nI hlt (by omega), ?_⟩
    intro x8 e8
    rw [nI_clamp (by omega), x_o (xp_c F1) 18 (by omega)] at e8
    have hs : fz_ μ N B X (j + 1) = fs_ μ N B j (fz_ μ N B X j) := rfl
    rcases (sl j hlt).2 with e | ⟨t, t1, t2, t3⟩
    · rw [e] at e8
      subst e8
      have nn : ∀ k, k < N → (-1 : Int32) ≠ nI k := fun k hk q => nIm1 (by omega) q.symm
      refine (q_tag_f S1.2.2.2.2.1 h7 nn).mpr (i0.mpr (hK hlt _ ⟨?_, F1, ?_, P1, A1⟩))
      · rw [nI_1, hs, fs_, if_pos e]
      · rw [hs, fs_, if_pos e]
        exact R1
    · have ne : ¬ μ.1 18 0 j = -1 := by rw [t3]; exact nIm1 (by omega)
      have hs2 : fz_ μ N B X (j + 1) = (nxt_ (xn_ μ (B + 3000 * j, (fz_ μ N B X j).1.2) t ((fz_ μ N B X j).1.2.2.2.2.2.2 t)) t (ab_ μ N ((fz_ μ N B X j).1.2.2.2.2.2.2 t)), (fz_ μ N B X j).2 + (if xv_ μ (B + 3000 * j, (fz_ μ N B X j).1.2) t ((fz_ μ N B X j).1.2.2.2.2.2.2 t) = -1000005 then 0 else 1)) := by
        rw [hs, fs_, if_neg ne, t3, nI_clamp (by omega)]
      rw [t3] at e8
      subst e8
      obtain ⟨n1, n2⟩ := Z1.2.2.2 t t1 t2
      have t2' := (x_t (xp_c F1) t).mpr t2
      have n2' := (x_a (xp_c F1) _).mpr n2
      refine (q_tag_t S1.2.2.2.2.1 h7 t1 t2').mpr (i1.mpr ?_)
      unfold pX10_pulsesWithNext
      refine ⟨vp_in_nI (by omega) (by omega), ?_⟩
      intro x2 e2
      rw [nI_clamp (by omega), R1.2.2.2.2.2 t t1 t2'] at e2
      subst e2
      refine (q_pr_t S1.2.2.2.2.1 h7 t1 n1 t2' n2').mpr (j1.mpr (c_counted S1 t1 n1 R1 (show B + 3000 * j ≤ 15000000 by omega) P1 ?_))
      intro m2 F2 R2 P2
      rw [x_xn (xp_c F1)] at R2
      rw [x_xv (xp_c F1)]
      have F3 : fm_ xc_ μ m2 := F1.tr (x0c F2)
      have S2 := Sx_fr (xp_c F3) S
      refine ⟨vp_in_nI (by omega) (by omega), c_behind S2.2.2.2.2.1 h7 S2.1 (x_ta (xp_c F3) ta) n1 ?_⟩
      intro m10 e10
      rw [nI_clamp (by omega), x_ab (xp_c F3)] at e10
      have F10 : fm_ xc_ μ m10 := by rw [e10]; exact F3.I (by unfold xc_; omega)
      have R10 : Rc_ N (fz_ μ N B X (j + 1)).1 m10 := by
        rw [hs2, e10]
        exact Rc_n R2
      have P10 : iv_pl N m10 := by
        rw [e10]
        refine pl_c ?_ ?_ ?_ ?_ ?_ ?_ ?_ P2
        all_goals simp [mm_Ir]
      have A10 : ∀ i, i < N → is_a μ i → m10.1 9 i 7 = μ.1 9 i 7 := by
        intro i hi ha
        have : i ≠ t := by
          rintro rfl
          rw [is_a, show μ.1 9 i 0 = 1 from t2] at ha
          exact absurd ha (by decide)
        rw [e10, mm_Ir, if_neg (fun q => this q.2.1), F2.1 9 i 7 (by unfold xc0_; omega)]
        exact A1 i hi ha
      by_cases ev : xv_ μ (B + 3000 * j, (fz_ μ N B X j).1.2) t ((fz_ μ N B X j).1.2.2.2.2.2.2 t) = -1000005
      · refine (iT ev).mpr (hK hlt _ ⟨?_, F10, R10, P10, A10⟩)
        rw [nI_1, hs2, if_pos ev]
        rfl
      · refine (iF ev).mpr (hK hlt _ ⟨?_, F10, R10, P10, A10⟩)
        rw [hs2, if_neg ev]
        show (lN B, nI (fz_ μ N B X j).2 + 1, nI j + 1) = (lN B, nI ((fz_ μ N B X j).2 + 1), nI (j + 1))
        rw [nI_1, nI_1]
/-- the model's frame -/
theorem m_frame {Po : Int32 → mm_T → Prop} {μ : mm_T} {N B c : Nat} {X : xs_T} (S : Sx_ N μ) (ta : iv_ta N μ) (sl : iv_sl N μ) (V : Xv_ N c μ X) (hp : 0 < N) (hX : X.1 = B) (hB : B + 48000 ≤ 9999999) (hc : 9999999 ≤ c) (R : Rm_ N X μ) (hP : ∀ m, fm_ xm_ μ m → Rm_ N (B + 48000, (fz_ μ N B X 16).1.2) m → Po (nI (fz_ μ N B X 16).2) (mm_I m 26 0 30 (m.1 26 0 30 + 1))) : pX11_frame Po μ := by
  obtain ⟨hd, sq, pt, h7, hN, hM⟩ := id S
  have Z := fz_ok S ta sl V (Nat.le_of_eq hX) hB hc
  unfold pX11_frame
  refine (q_fd_t hM h7 hp).mpr (i1.mpr ((iF ?_).mpr ?_))
  · rw [R.1, hX, show (48000 : Int32) = nI 48000 from rfl, nI_add]
    exact nI_nlt (a := 9999999) (by omega) (by omega)
  unfold pX11_frameNow
  intro x1 e1
  rw [R.1, hX] at e1
  subst e1
  refine lp_up 16 (fun j t => t.2 = (nI B, nI (fz_ μ N B X j).2, nI j) ∧ fm_ xm_ μ t.1 ∧ Rm_ N (fz_ μ N B X j).1 t.1) ?_ 0 (by omega) _ ?_
  rotate_left
  · exact ⟨rfl, fm_.rf, R⟩
  rintro j ⟨m, b, g, jj⟩ hj ⟨i1', i2, i3⟩ K hK
  cases i1'
  unfold pX11_frameNow_l9
  have Fx := xp_m i2
  have Sm := Sx_fr Fx S
  obtain ⟨Z1, Z2, Z3⟩ := Z j hj
  rcases Nat.eq_or_lt_of_le hj with e | hlt
  · subst e
    refine (iT (show (16 : Int32) ≤ nI 16 by decide)).mpr ?_
    show ((nI B + 48000) ≤ (m.1 26 0 17) → _) ∧ _
    have e48 : nI B + 48000 = nI (B + 48000) := nI_add B 48000
    rw [e48, i3.1]
    have fin : ∀ x, x = nI (B + 48000) → pX11_frameNow_b138 Po m (nI (fz_ μ N B X 16).2) x := by
      intro x ex
      unfold pX11_frameNow_b138
      intro m2 e2 m3 e3
      subst e3
      subst ex
      have := hP m2 (by rw [e2]; exact i2.I (by unfold xm_; omega)) (by rw [e2]; exact Rm_T i3)
      exact this
    by_cases q : nI (B + 48000) ≤ nI (fz_ μ N B X 16).1.1
    · refine (iT q).mpr (fin _ ?_)
      have := (nI_leI (by omega) (by omega)).mp q
      exact congrArg nI (by omega)
    · exact (iF q).mpr (fin _ rfl)
  · refine (iF (show ¬ nI 16 ≤ nI j from nI_ge hlt (by omega))).mpr ?_
    have e3 : nI B + (3000 : Int32) * nI j = nI (B + 3000 * j) := by
      rw [show (3000 : Int32) = nI 3000 from rfl, pk_mul, nI_add]
    show ((nI B + (3000 : Int32) * nI j) ≤ (m.1 26 0 17) → _) ∧ _
    simp only [e3]
    rw [i3.1]
    have body : ∀ x, x = nI (B + 3000 * j) → pX11_frameNow_b44 (fun μ a1 a2 a3 => K (μ, a1, a2, a3)) m (nI B) (nI (fz_ μ N B X j).2) (nI j) x := by
      intro x ex
      subst ex
      unfold pX11_frameNow_b44
      intro m1 e1
      have F1 : fm_ xm_ μ m1 := by rw [e1]; exact i2.I (by unfold xm_; omega)
      have R1 : Rm_ N (B + 3000 * j, (fz_ μ N B X j).1.2) m1 := by rw [e1]; exact Rm_T i3
      have S1 := Sx_fr (xp_m F1) S
      refine ⟨vp_in_nI hlt (by omega), ?_⟩
      intro x7 e7
      rw [nI_clamp (by omega), x_o (xp_m F1) 41 (by omega), (sl j hlt).1] at e7
      have hs : fz_ μ N B X (j + 1) = fs_ μ N B j (fz_ μ N B X j) := rfl
      rcases (sl j hlt).2 with e | ⟨t, t1, t2, t3⟩
      · rw [e] at e7
        subst e7
        refine (iT rfl).mpr (hK hlt _ ⟨?_, F1, ?_⟩)
        · rw [nI_1, hs, fs_, if_pos e]
        · rw [hs, fs_, if_pos e]
          exact R1
      · have ne : ¬ μ.1 18 0 j = -1 := by rw [t3]; exact nIm1 (by omega)
        have hs2 : fz_ μ N B X (j + 1) = (nxt_ (xn_ μ (B + 3000 * j, (fz_ μ N B X j).1.2) t ((fz_ μ N B X j).1.2.2.2.2.2.2 t)) t (ab_ μ N ((fz_ μ N B X j).1.2.2.2.2.2.2 t)), (fz_ μ N B X j).2 + (if xv_ μ (B + 3000 * j, (fz_ μ N B X j).1.2) t ((fz_ μ N B X j).1.2.2.2.2.2.2 t) = -1000005 then 0 else 1)) := by
          rw [hs, fs_, if_neg ne, t3, nI_clamp (by omega)]
        rw [t3] at e7
        subst e7
        obtain ⟨n1, n2⟩ := Z1.2.2.2 t t1 t2
        have t2' := (x_t (xp_m F1) t).mpr t2
        have ct := nI_clamp (show t < 2 ^ 31 by omega)
        refine (iF (nIm1 (by omega))).mpr ⟨vp_in_nI (by omega) (by omega), ?_⟩
        rw [ct, R1.2.2.2.2.2 t t1 t2']
        refine m_exch S1 t1 n1 R1 (show B + 3000 * j ≤ 15000000 by omega) ?_
        intro m2 F2 R2
        rw [x_xn (xp_m F1)] at R2
        rw [x_xv (xp_m F1)]
        have F3 : fm_ xm_ μ m2 := F1.tr F2
        have S2 := Sx_fr (xp_m F3) S
        have tail : ∀ (w : Nat) (x : Int32), x = nI w → w = (if xv_ μ (B + 3000 * j, (fz_ μ N B X j).1.2) t ((fz_ μ N B X j).1.2.2.2.2.2.2 t) = -1000005 then 0 else 1) → pX11_frameNow_b85 (fun μ a1 a2 a3 => K (μ, a1, a2, a3)) m2 (nI B) (nI j) (nI t) x (nI (fz_ μ N B X j).2) := by
          intro w x ex ew
          subst ex
          unfold pX11_frameNow_b85
          intro x11 e11
          rw [nI_add] at e11
          subst e11
          refine ⟨vp_in_nI (by omega) (by omega), ?_⟩
          have e35 : m2.1 35 0 t = nI ((fz_ μ N B X j).1.2.2.2.2.2.2 t) := by
            have h := R2.2.2.2.2.2 t t1 ((x_t (xp_m F3) t).mpr t2)
            rw [h]
            unfold xn_
            split <;> rfl
          rw [ct, e35, nI_1 ((fz_ μ N B X j).1.2.2.2.2.2.2 t)]
          refine m_from (s := (fz_ μ N B X j).1.2.2.2.2.2.2 t + 1) (v := ab_ μ N ((fz_ μ N B X j).1.2.2.2.2.2.2 t)) S2.2.2.2.2.2 h7 S2.1 (x_ta (xp_m F3) ta) (by omega) ?_ ⟨vp_in_nI (by omega) (by omega), ?_⟩
          · rw [← x_ab (xp_m F3)]
            rfl
          intro m16 e16
          refine hK hlt _ ⟨?_, ?_, ?_⟩
          · rw [nI_1, hs2, ew]
          · rw [e16]
            exact F3.I (by unfold xm_; omega)
          · rw [hs2, e16]
            exact Rm_n R2
        by_cases ev : xv_ μ (B + 3000 * j, (fz_ μ N B X j).1.2) t ((fz_ μ N B X j).1.2.2.2.2.2.2 t) = -1000005
        · exact (jT ev).mpr (tail 0 0 rfl (by rw [if_pos ev]))
        · exact (jF ev).mpr (tail 1 1 rfl (by rw [if_neg ev]))
    by_cases q : nI (B + 3000 * j) ≤ nI (fz_ μ N B X j).1.1
    · refine (iT q).mpr (body _ ?_)
      have := (nI_leI (by omega) (by omega)).mp q
      exact congrArg nI (by omega)
    · exact (iF q).mpr (body _ rfl)
