/-! The calls that read, or write a place or two. -/
theorem st_count (k : Nat) (μ : mm_T) (h : Inv_ k μ) (a1 : Int32) : so_count (Inv_ k) μ a1 := by
  obtain ⟨L, l1, l2, l3, l4⟩ := h.1
  obtain ⟨c1, c2, c3, c4⟩ := h.2.1
  unfold so_count pX10_count pX11_count pX11_howMany
  have e : μ.1 26 0 0 = μ.1 1 0 1 := l3.trans l2.symm
  rw [e, c1, c2, c3, c4]
  refine ⟨?_, ?_, ?_, ?_, ?_, ?_⟩
  · intro e1; subst e1; simp [h]
  · intro e1; subst e1; simp [h]
  · intro e1; subst e1; simp [h]
  · intro e1; subst e1; simp [h]
  · intro e1; subst e1; simp [h]
  · intro b0 b1 b2 b3 b4
    simp [h, b0, b1, b2, b3, b4]
theorem st_blank (k : Nat) (μ : mm_T) (h : Inv_ k μ) : so_blank (Inv_ k) μ := by
  obtain ⟨⟨L, l1, l2, l3, l4⟩, ct, sq, N, h7, hN, hM, la, fd⟩ := h
  unfold so_blank pX10_blank pX6_clear pX11_blank
  intro x e μ1 e1 x2 e2 μ2 e3
  subst e; subst e1; subst e2; subst e3
  refine ⟨by simp [mm_Ir, l2, l3], ⟨0, by omega, by simp [mm_Ir, nI_0], by simp [mm_Ir, nI_0], fun k hk => absurd hk (Nat.not_lt_zero k)⟩, by simpa [iv_ct, mm_Ir] using ct, by simpa [iv_sq, mm_Ir] using sq, N, h7, by simpa [mm_Ir] using hN, by simpa [mm_Ir] using hM, by simpa [iv_la, is_t, is_a, fl_, nx_, ny_, mm_Ir, mm_I2] using la, fun hp => ?_⟩
  obtain ⟨f1, f2, f3, f4, f5, f6, f7, f8⟩ := fd hp
  refine ⟨by simpa [iv_nd, mm_Ir] using f1, by simpa [iv_tg, is_t, is_a, mm_Ir] using f2, by simpa [iv_ta, is_t, is_a, mm_Ir] using f3, by simpa [iv_tm, mm_Ir, mm_I2] using f4, by simpa [iv_lv, mm_Ir] using f5, by simpa [iv_lk, is_t, is_a, mm_Ir] using f6, by simpa [iv_sl, is_t, is_a, mm_Ir] using f7, pl_c ?_ ?_ ?_ ?_ ?_ ?_ ?_ f8⟩
  all_goals simp [mm_Ir]
