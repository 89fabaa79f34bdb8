/-! level, delay, block, want, idle, limit. -/
theorem iv_nd0 {N k : Nat} {μ : mm_T} (fd : 0 < N → iv_fd N k μ) : iv_nd N μ := by
  rcases Nat.eq_zero_or_pos N with e | hp
  · subst e; exact fun i hi => absurd hi (Nat.not_lt_zero i)
  · exact (fd hp).1
theorem st_level (k : Nat) (μ : mm_T) (h : Inv_ k μ) (x : Int32) : so_level (Inv_ k) μ x := by
  have h0 := h
  obtain ⟨pg, ct, sq, N, h7, hN, hM, la, fd⟩ := h
  unfold so_level pX10_level pX11_level
  rcases Nat.eq_zero_or_pos N with e | hp
  · subst e
    exact (q_rd_f hN).mpr (j0.mpr ((q_fd_f hM).mpr (j0.mpr ⟨rfl, h0⟩)))
  obtain ⟨f1, f2, f3, f4, f5, f6, f7, f8⟩ := fd hp
  refine (q_rd_t hN h7 hp).mpr (j1.mpr ?_)
  by_cases b1 : x < 1
  · exact (iT b1).mpr ((q_fd_t hM h7 hp).mpr (j1.mpr ((q_win_f (Or.inl b1)).mpr (j0.mpr ⟨rfl, h0⟩))))
  refine (iF b1).mpr ?_
  by_cases b2 : x ≤ 9
  · obtain ⟨⟨v, v1, v2, v3, v4⟩, w, w1, w2, w3⟩ := f5
    obtain ⟨j, hj, rfl⟩ := nI_of (x := x) (fun q => b1 (Int32.lt_trans q (by decide)))
    have c1 : 1 ≤ j := Nat.le_of_not_lt (fun q => b1 (nI_lt (b := 1) q (by omega)))
    have c2 : j ≤ 9 := (nI_leI (b := 9) hj (by omega)).mp b2
    refine (iT b2).mpr ?_
    intro y ey μ1 e1
    subst ey; subst e1
    refine (q_fd_t (N := N) (by simpa [mm_Ir] using hM) h7 hp).mpr (j1.mpr ((q_win_t (Int32.not_lt.mp b1) b2).mpr (j1.mpr ?_)))
    intro y ey μ1 e1
    subst ey; subst e1
    refine ⟨by simp [mm_Ir, v3, v4], by simpa [iv_pg, mm_Ir] using pg, by simpa [iv_ct, mm_Ir] using ct, by simpa [iv_sq, mm_Ir] using sq, N, h7, by simpa [mm_Ir] using hN, by simpa [mm_Ir] using hM, by simpa [iv_la, is_t, is_a, fl_, nx_, ny_, mm_Ir, mm_I2] using la, fun hp => ?_⟩
    refine ⟨by simpa [iv_nd, mm_Ir] using f1, by simpa [iv_tg, is_t, is_a, mm_Ir] using f2, by simpa [iv_ta, is_t, is_a, mm_Ir] using f3, by simpa [iv_tm, mm_Ir, mm_I2] using f4, ⟨⟨j, c1, c2, by simp [mm_Ir], by simp [mm_Ir]⟩, w, w1, by simpa [mm_Ir] using w2, by simpa [mm_Ir] using w3⟩, by simpa [iv_lk, is_t, is_a, mm_Ir] using f6, by simpa [iv_sl, is_t, is_a, mm_Ir] using f7, pl_c ?_ ?_ ?_ ?_ ?_ ?_ ?_ f8⟩
    all_goals simp [mm_Ir]
  · exact (iF b2).mpr ((q_fd_t hM h7 hp).mpr (j1.mpr ((q_win_f (Or.inr (Int32.not_le.mp b2))).mpr (j0.mpr ⟨rfl, h0⟩))))
theorem st_delay (k : Nat) (μ : mm_T) (h : Inv_ k μ) (x y : Int32) : so_delay (Inv_ k) μ x y := by
  have h0 := h
  obtain ⟨pg, ct, sq, N, h7, hN, hM, la, fd⟩ := h
  unfold so_delay pX10_delay pX11_delay
  rcases nn_cases N x with ⟨i, hi, rfl⟩ | hx
  · have hp : 0 < N := by omega
    obtain ⟨f1, f2, f3, f4, f5, f6, f7, f8⟩ := fd hp
    refine (q_has_t hN h7 hi).mpr (j1.mpr ?_)
    have cl := nI_clamp (show i < 2 ^ 31 by omega)
    by_cases b1 : y < 10
    · exact (iT b1).mpr ((q_nd_t hM h7 hi).mpr (j1.mpr ((q_win_f (Or.inl b1)).mpr (j0.mpr ⟨rfl, h0⟩))))
    refine (iF b1).mpr ?_
    by_cases b2 : y ≤ 300
    · obtain ⟨j, hj, rfl⟩ := nI_of (x := y) (fun q => b1 (Int32.lt_trans q (by decide)))
      have c1 : 10 ≤ j := Nat.le_of_not_lt (fun q => b1 (nI_lt (b := 10) q (by omega)))
      have c2 : j ≤ 300 := (nI_leI (b := 300) hj (by omega)).mp b2
      refine (iT b2).mpr ⟨vp_in_nI (by omega) (by omega), ?_⟩
      intro z ez
      refine ⟨vp_in_nI (by omega) (by omega), ?_⟩
      intro μ1 e1
      rw [cl] at ez e1
      subst e1
      refine (q_nd_t (N := N) (by simpa [mm_Ir] using hM) h7 hi).mpr (j1.mpr ((q_win_t (Int32.not_lt.mp b1) b2).mpr (j1.mpr ⟨vp_in_nI (by omega) (by omega), ?_⟩)))
      intro y ey
      refine ⟨vp_in_nI (by omega) (by omega), ?_⟩
      intro μ1 e1
      rw [cl] at ey e1
      subst e1
      obtain ⟨-, -, -, -, -, -, t, t1, t2, t3, t4⟩ := f1 i hi
      refine ⟨by rw [ez, ey]; simp [mm_Ir, t3, t4], by simpa [iv_pg, mm_Ir] using pg, by simpa [iv_ct, mm_Ir] using ct, by simpa [iv_sq, mm_Ir] using sq, N, h7, by simpa [mm_Ir] using hN, by simpa [mm_Ir] using hM, by simpa [iv_la, is_t, is_a, fl_, nx_, ny_, mm_Ir, mm_I2] using la, fun hp => ?_⟩
      refine ⟨?_, by simpa [iv_tg, is_t, is_a, mm_Ir] using f2, by simpa [iv_ta, is_t, is_a, mm_Ir] using f3, by simpa [iv_tm, mm_Ir, mm_I2] using f4, by simpa [iv_lv, mm_Ir] using f5, by simpa [iv_lk, is_t, is_a, mm_Ir] using f6, by simpa [iv_sl, is_t, is_a, mm_Ir] using f7, pl_c ?_ ?_ ?_ ?_ ?_ ?_ ?_ f8⟩
      · intro m hm
        obtain ⟨g1, g2, g3, g4, g5, g6, g7⟩ := f1 m hm
        refine ⟨by simpa [mm_Ir] using g1, by simpa [mm_Ir] using g2, by simpa [mm_Ir] using g3, by simpa [mm_Ir] using g4, by simpa [mm_Ir] using g5, by simpa [mm_Ir] using g6, ?_⟩
        by_cases e : m = i
        · exact ⟨j, c1, c2, by simp [mm_Ir, e], by simp [mm_Ir, e]⟩
        · simpa [mm_Ir, e] using g7
      all_goals simp [mm_Ir]
    · exact (iF b2).mpr ((q_nd_t hM h7 hi).mpr (j1.mpr ((q_win_f (Or.inr (Int32.not_le.mp b2))).mpr (j0.mpr ⟨rfl, h0⟩))))
  · exact (q_has_f hN h7 hx).mpr (j0.mpr ((q_nd_f hM h7 hx).mpr (j0.mpr ⟨rfl, h0⟩)))
theorem st_block (k : Nat) (μ : mm_T) (h : Inv_ k μ) (x y : Int32) : so_block (Inv_ k) μ x y := by
  have h0 := h
  obtain ⟨pg, ct, sq, N, h7, hN, hM, la, fd⟩ := h
  unfold so_block pX10_block pX11_block
  have hd : iv_nd N μ := iv_nd0 fd
  by_cases b : pr_ N μ x y
  · obtain ⟨t, a, ht, ha, h1, h2, rfl, rfl⟩ := b
    obtain ⟨f1, f2, f3, f4, f5, f6, f7, f8⟩ := fd (by omega)
    refine (q_pr_t hN h7 ht ha h1 h2).mpr (j1.mpr ((q_link (by omega) (by omega)).mpr ⟨by omega, ?_⟩))
    intro z ez μ1 e1
    subst e1
    refine (q_mp_t (N := N) (by simpa [mm_Ir] using hM) h7 (by simpa [iv_nd, mm_Ir] using f1) ht ha (by simpa [is_t, mm_Ir] using h1) (by simpa [is_a, mm_Ir] using h2)).mpr (j1.mpr ((q_pair (by omega) (by omega)).mpr ⟨vp_in_nI (by omega) (by omega), ?_⟩))
    have cl := nI_clamp (show 7 * t + a < 2 ^ 31 by omega)
    intro y ey
    refine (q_pair (by omega) (by omega)).mpr ⟨vp_in_nI (by omega) (by omega), ?_⟩
    intro μ1 e1
    rw [cl] at ey e1
    subst e1
    obtain ⟨⟨P, p1, p2, p3, p4⟩, -⟩ := f6 (7 * t + a) (by omega)
    refine ⟨by rw [ez, ey]; simp [mm_Ir, p2, p3], by simpa [iv_pg, mm_Ir] using pg, by simpa [iv_ct, mm_Ir] using ct, by simpa [iv_sq, mm_Ir] using sq, N, h7, by simpa [mm_Ir] using hN, by simpa [mm_Ir] using hM, by simpa [iv_la, is_t, is_a, fl_, nx_, ny_, mm_Ir, mm_I2] using la, fun hp => ?_⟩
    refine ⟨by simpa [iv_nd, mm_Ir] using f1, by simpa [iv_tg, is_t, is_a, mm_Ir] using f2, by simpa [iv_ta, is_t, is_a, mm_Ir] using f3, by simpa [iv_tm, mm_Ir, mm_I2] using f4, by simpa [iv_lv, mm_Ir] using f5, ?_, by simpa [iv_sl, is_t, is_a, mm_Ir] using f7, pl_c ?_ ?_ ?_ ?_ ?_ ?_ ?_ f8⟩
    · intro q hq
      obtain ⟨g1, g2⟩ := f6 q hq
      refine ⟨?_, by simpa [is_t, is_a, mm_Ir] using g2⟩
      by_cases e : q = 7 * t + a
      · exact ⟨0, by omega, by simp [mm_Ir, e, nI_0], by simp [mm_Ir, e, nI_0], fun j hj => absurd hj (Nat.not_lt_zero j)⟩
      · simpa [mm_Ir, e] using g1
    all_goals simp [mm_Ir]
  · exact (q_pr_f hN h7 hd b).mpr (j0.mpr ((q_mp_f hM h7 hd b).mpr (j0.mpr ⟨rfl, h0⟩)))
theorem st_idle (k : Nat) (μ : mm_T) (h : Inv_ k μ) (hk : k ≤ 512) (x : Int32) : so_idle (Inv_ k) μ x := by
  have h0 := h
  obtain ⟨pg, ct, sq, N, h7, hN, hM, la, fd⟩ := h
  unfold so_idle pX10_idle pX11_idle
  rcases Nat.eq_zero_or_pos N with e | hp
  · subst e
    exact (q_rd_f hN).mpr (j0.mpr ((q_fd_f hM).mpr (j0.mpr ⟨rfl, h0⟩)))
  obtain ⟨f1, f2, f3, ⟨T, t1, t2, t3⟩, f5, f6, f7, f8⟩ := fd hp
  refine (q_rd_t hN h7 hp).mpr (j1.mpr ?_)
  by_cases b1 : x < 0
  · exact (iT b1).mpr ((q_fd_t hM h7 hp).mpr (j1.mpr ((q_win_f (Or.inl b1)).mpr (i0.mpr ⟨rfl, h0⟩))))
  refine (iF b1).mpr ?_
  by_cases b2 : 99999 < x
  · exact (iT b2).mpr ((q_fd_t hM h7 hp).mpr (j1.mpr ((q_win_f (Or.inr b2)).mpr (i0.mpr ⟨rfl, h0⟩))))
  refine (iF b2).mpr ?_
  obtain ⟨j, hj, rfl⟩ := nI_of b1
  have c2 : j ≤ 99999 := Nat.le_of_not_lt (fun q => b2 (nI_lt (a := 99999) q hj))
  have c3 : μ.2 6 0 2 + (nI j).toInt64 = lN (T + j) := by rw [t2, nI_l hj, lN_add]
  have c4 : μ.1 26 0 17 + nI j = nI (T + j) := by rw [t3, nI_add]
  by_cases b3 : T + j ≤ 9999999
  · refine (iT (by rw [c3, lg_cmp_le]; exact (lN_le (b := 9999999) (by omega) (by omega)).mpr b3)).mpr ?_
    intro μ1 e1
    subst e1
    refine (q_fd_t (N := N) (by simpa [mm_L1] using hM) h7 hp).mpr (j1.mpr ((q_win_t (nI_pos' hj) (nI_le (b := 99999) c2 (by omega))).mpr (i1.mpr ?_)))
    simp only [mm_L1]
    rw [c4, c3]
    refine (iT (nI_le (b := 9999999) b3 (by omega))).mpr ?_
    intro μ1 e1
    subst e1
    refine ⟨by simp [mm_Lr, mm_Ir, lN_i], by simpa [iv_pg, mm_Ir, mm_L1] using pg, by simpa [iv_ct, mm_Ir, mm_L1] using ct, by simpa [iv_sq, mm_Ir, mm_L1] using sq, N, h7, by simpa [mm_Ir, mm_L1] using hN, by simpa [mm_Ir, mm_L1] using hM, by simpa [iv_la, is_t, is_a, fl_, nx_, ny_, mm_Ir, mm_I2, mm_Lr, mm_L1] using la, fun hp => ?_⟩
    refine ⟨by simpa [iv_nd, mm_Ir, mm_L1] using f1, by simpa [iv_tg, is_t, is_a, mm_Ir, mm_L1] using f2, by simpa [iv_ta, is_t, is_a, mm_Ir, mm_L1] using f3, ⟨T + j, by omega, by simp [mm_Ir, mm_I2, mm_Lr], by simp [mm_Ir]⟩, by simpa [iv_lv, mm_Ir, mm_L1] using f5, by simpa [iv_lk, is_t, is_a, mm_Ir, mm_L1] using f6, by simpa [iv_sl, is_t, is_a, mm_Ir, mm_L1] using f7, pl_c ?_ ?_ ?_ ?_ ?_ ?_ ?_ f8⟩
    all_goals simp [mm_Ir, mm_L1]
  · refine (iF (by rw [c3, lg_cmp_le]; exact fun q => b3 ((lN_le (b := 9999999) (by omega) (by omega)).mp q))).mpr ((q_fd_t hM h7 hp).mpr (j1.mpr ((q_win_t (nI_pos' hj) (nI_le (b := 99999) c2 (by omega))).mpr (i1.mpr ((iF ?_).mpr ⟨rfl, h0⟩)))))
    rw [c4]
    exact fun q => b3 ((nI_leI (b := 9999999) (by omega) (by omega)).mp q)
