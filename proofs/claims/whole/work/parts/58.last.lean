/-! last, heard. -/
/-- the latest exchange is known: of t and a -/
def lk_ (N k t a : Nat) (μ : mm_T) : Prop := μ.1 15 0 0 = 1 ∧ μ.1 26 0 20 = 1 ∧ t < N ∧ a < N ∧ is_t μ t ∧ is_a μ a ∧ μ.1 15 0 1 = nI t ∧ μ.1 26 0 21 = nI t ∧ μ.1 15 0 2 = nI a ∧ μ.1 26 0 22 = nI a ∧ (∀ j, 1 ≤ j → j ≤ 6 → μ.2 16 0 j = (μ.1 43 0 j).toInt64) ∧ μ.1 26 0 23 = μ.1 15 0 6 ∧ μ.1 26 0 24 = μ.1 15 0 7 ∧ μ.1 15 0 5 = nI (fl_ μ t a) ∧ (∃ T, T ≤ 9999999 + 2400 * k ∧ μ.2 15 0 3 = lN T ∧ μ.1 42 0 1 = nI T) ∧ ∃ T, T ≤ 9999999 + 2400 * k ∧ μ.2 15 0 4 = lN T ∧ μ.1 42 0 3 = nI T
theorem lk_of {N k : Nat} {μ : mm_T} (h : iv_la N k μ) : (μ.1 15 0 0 = 0 ∧ μ.1 26 0 20 = 0) ∨ ∃ t a, lk_ N k t a μ := by
  rcases h with h | ⟨h1, h2, t, a, h3⟩
  · exact Or.inl h
  · exact Or.inr ⟨t, a, h1, h2, h3⟩
def ls_ (μ : mm_T) (w : Nat) : Int32 := if w ≤ 6 then μ.1 43 0 w else if w = 7 then μ.1 15 0 6 else if w = 8 then μ.1 15 0 7 else if w = 9 then μ.1 15 0 5 else if w = 10 then μ.1 15 0 1 else μ.1 15 0 2
section VL
variable {Po : Int32 → mm_T → Prop} {μ : mm_T} {N k t a w i : Nat}
theorem c_last (h : lk_ N k t a μ) (h1 : 1 ≤ w) (h2 : w ≤ 11) (hP : Po (ls_ μ w) μ) : pX10_last Po μ (nI w) := by
  obtain ⟨l1, l2, ht, ha, h3, h4, l3, l4, l5, l6, l7, l8, l9, l10, l11, l12⟩ := h
  unfold pX10_last
  refine (iF (show ¬ nI w < nI 1 from nI_nlt h1 (by omega))).mpr ((iT (show nI w ≤ nI 11 from nI_le h2 (by omega))).mpr ((jF (by rw [l1]; decide)).mpr ?_))
  unfold pX3_tell pX3_tell_b19
  refine (iF (show ¬ nI w < nI 1 from nI_nlt h1 (by omega))).mpr ?_
  rcases Nat.lt_or_ge 6 w with b | b
  · refine (iT (show nI 6 < nI w from nI_lt b (by omega))).mpr ?_
    rcases (show w = 7 ∨ w = 8 ∨ w = 9 ∨ w = 10 ∨ w = 11 by omega) with rfl | rfl | rfl | rfl | rfl
    · have hP : Po (μ.1 15 0 6) μ := hP; simpa [show nI 7 = 7 from rfl] using hP
    · have hP : Po (μ.1 15 0 7) μ := hP; simpa [show nI 8 = 8 from rfl] using hP
    · have hP : Po (μ.1 15 0 5) μ := hP; simpa [show nI 9 = 9 from rfl] using hP
    · have hP : Po (μ.1 15 0 1) μ := hP; simpa [show nI 10 = 10 from rfl] using hP
    · have hP : Po (μ.1 15 0 2) μ := hP; simpa [show nI 11 = 11 from rfl] using hP
  · refine (iF (show ¬ nI 6 < nI w from nI_nlt b (by omega))).mpr ⟨vp_in_nI (by omega) (by omega), ?_⟩
    rw [nI_clamp (show w < 2 ^ 31 by omega), l7 w h1 b, lg_l2i_i2l]
    simpa [ls_, b] using hP
theorem m_last (hd : iv_nd N μ) (h7 : N ≤ 7) (h : lk_ N k t a μ) (h1 : 1 ≤ w) (h2 : w ≤ 11) (hP : Po (ls_ μ w) μ) : pX11_lastNow Po μ (nI w) := by
  obtain ⟨l1, l2, ht, ha, h3, h4, l3, l4, l5, l6, l7, l8, l9, l10, l11, l12⟩ := h
  unfold pX11_lastNow
  rcases (show w ≤ 6 ∨ w = 7 ∨ w = 8 ∨ w = 9 ∨ w = 10 ∨ w = 11 by omega) with b | rfl | rfl | rfl | rfl | rfl
  · have ne (n : Nat) (hn : 6 < n) (hn2 : n < 12) : ¬ nI w = nI n := fun q => by
      have := ni_inj (by omega) (by omega) q
      omega
    have n7 : ¬ nI w = 7 := ne 7 (by omega) (by omega)
    have n8 : ¬ nI w = 8 := ne 8 (by omega) (by omega)
    have n9 : ¬ nI w = 9 := ne 9 (by omega) (by omega)
    have n10 : ¬ nI w = 10 := ne 10 (by omega) (by omega)
    have n11 : ¬ nI w = 11 := ne 11 (by omega) (by omega)
    have v : vp_in (nI w) 7 := vp_in_nI (by omega) (by omega)
    have hP : Po (μ.1 43 0 w) μ := by simpa [ls_, b] using hP
    simpa [n7, n8, n9, n10, n11, v, nI_clamp (show w < 2 ^ 31 by omega)] using hP
  · have hP : Po (μ.1 15 0 6) μ := hP; rw [← l8] at hP; simpa [show nI 7 = 7 from rfl] using hP
  · have hP : Po (μ.1 15 0 7) μ := hP; rw [← l9] at hP; simpa [show nI 8 = 8 from rfl] using hP
  · have hP : Po (μ.1 15 0 5) μ := hP
    rw [l10] at hP
    have : pX11_flightOf (fun r2 μ1 => Po r2 μ1) μ (μ.1 26 0 21) (μ.1 26 0 22) := by
      rw [l4, l6]
      exact r_flightOf hd h7 ht ha hP
    simpa [show nI 9 = 9 from rfl] using this
  · have hP : Po (μ.1 15 0 1) μ := hP; rw [l3, ← l4] at hP; simpa [show nI 10 = 10 from rfl] using hP
  · have hP : Po (μ.1 15 0 2) μ := hP; rw [l5, ← l6] at hP; simpa [show nI 11 = 11 from rfl] using hP
/-- what node i heard -/
def hd_ (μ : mm_T) (i : Nat) : Int32 := Int32.ofInt (ck_ μ i ((μ.1 42 0 3).toNatClampNeg + fl_ μ i (μ.1 26 0 22).toNatClampNeg)) - Int32.ofInt (ck_ μ i ((μ.1 42 0 1).toNatClampNeg + fl_ μ i (μ.1 26 0 21).toNatClampNeg)) - (μ.1 43 0 3 - μ.1 43 0 2) - μ.1 15 0 7
theorem fl_le {j : Nat} (hd : iv_nd N μ) (hi : i < N) (hj : j < N) : fl_ μ i j ≤ 438 := by
  obtain ⟨-, -, a3, -, -, a6⟩ := xy_ hd hi
  obtain ⟨-, -, b3, -, -, b6⟩ := xy_ hd hj
  exact fp_le a3 a6 b3 b6
theorem c_heardBy (hd : iv_nd N μ) (sq : iv_sq μ) (h7 : N ≤ 7) (hk : k ≤ 600) (h : lk_ N k t a μ) (hi : i < N) (hP : Po (hd_ μ i) μ) : pX0_heardBy Po μ (nI i) := by
  obtain ⟨l1, l2, ht, ha, h3, h4, l3, l4, l5, l6, l7, l8, l9, l10, ⟨T1, T2, T3, T4⟩, U1, U2, U3, U4⟩ := h
  have b1 := fl_le hd hi ht
  have b2 := fl_le hd hi ha
  have v : vp_in (nI i) 7 := vp_in_nI (by omega) (by omega)
  unfold pX0_heardBy
  rw [l3]
  refine r_flightBetween hd sq h7 hi ht ?_
  intro x3 e3
  rw [l5]
  refine r_flightBetween hd sq h7 hi ha ?_
  intro x6 e6
  rw [T3, nI_l (by omega), lN_add] at e3
  rw [U3, nI_l (by omega), lN_add] at e6
  subst e3; subst e6
  refine ⟨v, ?_⟩
  rw [nI_clamp (show i < 2 ^ 31 by omega)]
  refine r_clockAt hd h7 hi (by omega) ⟨v, ?_⟩
  refine r_clockAt hd h7 hi (by omega) ?_
  intro x13 e13
  subst e13
  unfold pX3_replyA
  refine ⟨vp_in_nI (n := 3) (by omega) (by omega), vp_in_nI (n := 2) (by omega) (by omega), ?_⟩
  rw [show ((3 : Int32).toNatClampNeg) = 3 from rfl, show ((2 : Int32).toNatClampNeg) = 2 from rfl, l7 3 (by omega) (by omega), l7 2 (by omega) (by omega)]
  simp only [lg_l2i_sub, lg_l2i_i2l, Int64.toInt32_ofInt]
  have : hd_ μ i = Int32.ofInt (ck_ μ i (U1 + fl_ μ i a)) - Int32.ofInt (ck_ μ i (T1 + fl_ μ i t)) - (μ.1 43 0 3 - μ.1 43 0 2) - μ.1 15 0 7 := by
    unfold hd_
    rw [T4, U4, l4, l6, nI_clamp (by omega), nI_clamp (by omega), nI_clamp (by omega), nI_clamp (by omega)]
  rw [← this]
  exact hP
theorem m_heard (hd : iv_nd N μ) (h7 : N ≤ 7) (hk : k ≤ 600) (h : lk_ N k t a μ) (hi : i < N) (hP : Po (hd_ μ i) μ) : pX11_heardNow Po μ (nI i) := by
  obtain ⟨l1, l2, ht, ha, h3, h4, l3, l4, l5, l6, l7, l8, l9, l10, ⟨T1, T2, T3, T4⟩, U1, U2, U3, U4⟩ := h
  have b1 := fl_le hd hi ht
  have b2 := fl_le hd hi ha
  have c1 : (1 : Int32).toNatClampNeg = 1 := rfl
  have c2 : (2 : Int32).toNatClampNeg = 2 := rfl
  have c3 : (3 : Int32).toNatClampNeg = 3 := rfl
  unfold pX11_heardNow
  rw [l6, c3, U4]
  refine ⟨vp_in_nI (n := 3) (by omega) (by omega), r_flightOf hd h7 hi ha ?_⟩
  rw [nI_add]
  refine r_clockOf hd h7 hi (by omega) ⟨vp_in_nI (n := 1) (by omega) (by omega), ?_⟩
  rw [l4]
  refine r_flightOf hd h7 hi ht ?_
  rw [c1, T4, nI_add]
  refine r_clockOf hd h7 hi (by omega) ⟨vp_in_nI (n := 3) (by omega) (by omega), vp_in_nI (n := 2) (by omega) (by omega), ?_⟩
  rw [c2, l9]
  have : hd_ μ i = Int32.ofInt (ck_ μ i (U1 + fl_ μ i a)) - Int32.ofInt (ck_ μ i (T1 + fl_ μ i t)) - (μ.1 43 0 3 - μ.1 43 0 2) - μ.1 15 0 7 := by
    unfold hd_
    rw [T4, U4, l4, l6, nI_clamp (by omega), nI_clamp (by omega), nI_clamp (by omega), nI_clamp (by omega)]
  rw [← this]
  exact hP
theorem c_heard (h : Iv_ N k μ) (hl : lk_ N k t a μ) (hi : i < N) (n1 : i ≠ t) (n2 : i ≠ a) (hP : Po (hd_ μ i) μ) : pX10_heard Po μ (nI i) := by
  obtain ⟨hp, h7, hk, sq, hN, hM, la, fd⟩ := h
  have hl0 := hl
  obtain ⟨l1, l2, ht, ha, h3, h4, l3, l4, l5, l6, -⟩ := hl
  unfold pX10_heard pX3_isOf
  refine (jF (by rw [l1]; decide)).mpr ((q_has_t hN h7 hi).mpr (i1.mpr ?_))
  rw [l3, l5]
  exact (iF (fun q => n1 (ni_inj (by omega) (by omega) q))).mpr ((jF (fun q => n2 (ni_inj (by omega) (by omega) q))).mpr (i0.mpr (c_heardBy fd.1 sq h7 hk hl0 hi hP)))
end VL
theorem st_last (k : Nat) (μ : mm_T) (h : Inv_ k μ) (hk : k ≤ 600) (x : Int32) : so_last (Inv_ k) μ x := by
  have h0 := h
  obtain ⟨pg, ct, sq, N, h7, hN, hM, la, fd⟩ := h
  have hd : iv_nd N μ := iv_nd0 fd
  unfold so_last
  by_cases b1 : x < 1
  · unfold pX10_last pX11_last
    exact (iT b1).mpr ((q_win_f (Or.inl b1)).mpr (j0.mpr ⟨rfl, h0⟩))
  by_cases b2 : x ≤ 11
  · have W {Po : Int32 → mm_T → Prop} {μ : mm_T} : Po 1 μ → pX11_within Po μ x 1 11 := (q_win_t (Int32.not_lt.mp b1) b2).mpr
    rcases lk_of la with ⟨g1, g2⟩ | ⟨t, a, hl⟩
    · unfold pX10_last pX11_last
      exact (iF b1).mpr ((iT b2).mpr ((jT g1).mpr (W (j1.mpr ((iT g2).mpr ⟨rfl, h0⟩)))))
    · obtain ⟨w, hw, rfl⟩ := nI_of (x := x) (fun q => b1 (Int32.lt_trans q (by decide)))
      have c1 : 1 ≤ w := Nat.le_of_not_lt (fun q => b1 (nI_lt (b := 1) q (by omega)))
      have c2 : w ≤ 11 := (nI_leI (b := 11) hw (by omega)).mp b2
      refine c_last hl c1 c2 ?_
      unfold pX11_last
      exact W (j1.mpr ((iF (by rw [hl.2.1]; decide)).mpr (m_last hd h7 hl c1 c2 ⟨rfl, h0⟩)))
  · unfold pX10_last pX11_last
    exact (iF b1).mpr ((iF b2).mpr ((q_win_f (Or.inr (Int32.not_le.mp b2))).mpr (j0.mpr ⟨rfl, h0⟩)))
theorem st_heard (k : Nat) (μ : mm_T) (h : Inv_ k μ) (hk : k ≤ 600) (x : Int32) : so_heard (Inv_ k) μ x := by
  have h0 := h
  obtain ⟨pg, ct, sq, N, h7, hN, hM, la, fd⟩ := h
  have hd : iv_nd N μ := iv_nd0 fd
  unfold so_heard
  rcases lk_of la with ⟨g1, g2⟩ | ⟨t, a, hl⟩
  · unfold pX10_heard pX11_heard
    exact (jT g1).mpr ((jT g2).mpr ⟨rfl, h0⟩)
  · obtain ⟨l1, l2, ht, ha, h3, h4, l3, l4, l5, l6, -⟩ := id hl
    have n1 : ¬ μ.1 15 0 0 = 0 := by rw [l1]; decide
    have n2 : ¬ μ.1 26 0 20 = 0 := by rw [l2]; decide
    rcases nn_cases N x with ⟨i, hi, rfl⟩ | hx
    · by_cases e1 : i = t
      · subst e1
        unfold pX10_heard pX11_heard pX3_isOf
        exact (jF n1).mpr ((q_has_t hN h7 hi).mpr (i1.mpr ((iT l3.symm).mpr (i1.mpr ((jF n2).mpr ((q_nd_t hM h7 hi).mpr (i1.mpr ((iT l4.symm).mpr ⟨rfl, h0⟩))))))))
      · by_cases e2 : i = a
        · subst e2
          unfold pX10_heard pX11_heard pX3_isOf
          have m1 : ¬ nI i = μ.1 15 0 1 := by rw [l3]; exact fun q => e1 (ni_inj (by omega) (by omega) q)
          have m2 : ¬ nI i = μ.1 26 0 21 := by rw [l4]; exact fun q => e1 (ni_inj (by omega) (by omega) q)
          refine (jF n1).mpr ((q_has_t hN h7 hi).mpr (i1.mpr ((iF m1).mpr ((jT l5.symm).mpr (i1.mpr ?_)))))
          exact (jF n2).mpr ((q_nd_t hM h7 hi).mpr (i1.mpr ((iF m2).mpr ((iT l6.symm).mpr ⟨rfl, h0⟩))))
        · refine c_heard ⟨by omega, h7, hk, sq, hN, hM, la, fd (by omega)⟩ hl hi e1 e2 ?_
          unfold pX11_heard
          refine (jF n2).mpr ((q_nd_t hM h7 hi).mpr (i1.mpr ?_))
          rw [l4, l6]
          exact (iF (fun q => e1 (ni_inj (by omega) (by omega) q))).mpr ((iF (fun q => e2 (ni_inj (by omega) (by omega) q))).mpr (m_heard hd h7 hk hl hi ⟨rfl, h0⟩))
    · unfold pX10_heard pX11_heard
      exact (jF n1).mpr ((q_has_f hN h7 hx).mpr (i0.mpr ((jF n2).mpr ((q_nd_f hM h7 hx).mpr (i0.mpr ⟨rfl, h0⟩)))))
