/-! The calls that read, or write a place or two. -/
section CC
variable {P A B : Prop}
theorem iT (h : P) : ((P → A) ∧ (¬ P → B)) ↔ A := ⟨fun q => q.1 h, fun a => ⟨fun _ => a, fun n => absurd h n⟩⟩
theorem iF (h : ¬ P) : ((P → A) ∧ (¬ P → B)) ↔ B := ⟨fun q => q.2 h, fun b => ⟨fun n => absurd n h, fun _ => b⟩⟩
theorem jT (h : P) : ((¬ P → A) ∧ (P → B)) ↔ B := ⟨fun q => q.2 h, fun b => ⟨fun n => absurd h n, fun _ => b⟩⟩
theorem jF (h : ¬ P) : ((¬ P → A) ∧ (P → B)) ↔ A := ⟨fun q => q.1 h, fun a => ⟨fun _ => a, fun n => absurd n h⟩⟩
theorem i0 : (((0 : Int32) = 0 → A) ∧ (¬ (0 : Int32) = 0 → B)) ↔ A := iT rfl
theorem i1 : (((1 : Int32) = 0 → A) ∧ (¬ (1 : Int32) = 0 → B)) ↔ B := iF (by decide)
theorem j0 : ((¬ (0 : Int32) = 0 → A) ∧ ((0 : Int32) = 0 → B)) ↔ B := jT rfl
theorem j1 : ((¬ (1 : Int32) = 0 → A) ∧ ((1 : Int32) = 0 → B)) ↔ A := jF (by decide)
end CC
theorem inv_sE {k : Nat} {μ μ2 : mm_T} (h : sE μ μ2) (hi : Inv_ k μ) : Inv_ k μ2 := by
  obtain ⟨pg, ct, sq, N, h7, hN, hM, la, fd⟩ := hi
  have e (a : Nat) (ha : ∀ c, ¬ scr_ a c) : ∀ b c, μ2.1 a b c = μ.1 a b c := fun b c => h.1 a b c (ha c)
  have e26 (c : Nat) (hc : c < 31) : μ2.1 26 0 c = μ.1 26 0 c := h.1 26 0 c (by unfold scr_; omega)
  have l (a : Nat) (ha : a ≠ 26) : ∀ b c, μ2.2 a b c = μ.2 a b c := fun b c => h.2 a b c ha
  have e0 := e 0 (fun c => by unfold scr_; omega)
  have e1 := e 1 (fun c => by unfold scr_; omega)
  have e2 := e 2 (fun c => by unfold scr_; omega)
  have e6 := e 6 (fun c => by unfold scr_; omega)
  have e9 := e 9 (fun c => by unfold scr_; omega)
  have e10 := e 10 (fun c => by unfold scr_; omega)
  have e12 := e 12 (fun c => by unfold scr_; omega)
  have e13 := e 13 (fun c => by unfold scr_; omega)
  have e14 := e 14 (fun c => by unfold scr_; omega)
  have e15 := e 15 (fun c => by unfold scr_; omega)
  have e18 := e 18 (fun c => by unfold scr_; omega)
  have e20 := e 20 (fun c => by unfold scr_; omega)
  have e27 := e 27 (fun c => by unfold scr_; omega)
  have e28 := e 28 (fun c => by unfold scr_; omega)
  have e29 := e 29 (fun c => by unfold scr_; omega)
  have e30 := e 30 (fun c => by unfold scr_; omega)
  have e31 := e 31 (fun c => by unfold scr_; omega)
  have e32 := e 32 (fun c => by unfold scr_; omega)
  have e33 := e 33 (fun c => by unfold scr_; omega)
  have e34 := e 34 (fun c => by unfold scr_; omega)
  have e35 := e 35 (fun c => by unfold scr_; omega)
  have e36 := e 36 (fun c => by unfold scr_; omega)
  have e37 := e 37 (fun c => by unfold scr_; omega)
  have e38 := e 38 (fun c => by unfold scr_; omega)
  have e39 := e 39 (fun c => by unfold scr_; omega)
  have e40 := e 40 (fun c => by unfold scr_; omega)
  have e41 := e 41 (fun c => by unfold scr_; omega)
  have e42 := e 42 (fun c => by unfold scr_; omega)
  have e43 := e 43 (fun c => by unfold scr_; omega)
  have l6 := l 6 (by omega)
  have l15 := l 15 (by omega)
  have l16 := l 16 (by omega)
  refine ⟨by simpa only [iv_pg, e1, e2, e27, e26 0 (by omega)] using pg, by simpa only [iv_ct, e0, e26 27 (by omega), e26 28 (by omega), e26 29 (by omega), e26 30 (by omega)] using ct, by simpa only [iv_sq, e20] using sq, N, h7, by rw [e6]; exact hN, by rw [e26 2 (by omega)]; exact hM, by simpa only [iv_la, is_t, is_a, fl_, nx_, ny_, e9, e15, e42, e43, l15, l16, e26 20 (by omega), e26 21 (by omega), e26 22 (by omega), e26 23 (by omega), e26 24 (by omega)] using la, fun hp => ?_⟩
  obtain ⟨f1, f2, f3, f4, f5, f6, f7, f8⟩ := fd hp
  refine ⟨by simpa only [iv_nd, e9, e28, e29, e30, e31, e32, e33] using f1, by simpa only [iv_tg, is_t, is_a, e9, e34, e35] using f2, by simpa only [iv_ta, is_t, is_a, e9] using f3, by simpa only [iv_tm, l6, e26 17 (by omega)] using f4, by simpa only [iv_lv, e6, e26 18 (by omega), e26 19 (by omega)] using f5, by simpa only [iv_lk, is_t, is_a, e9, e12, e13, e14, e36, e37, e38, e39, e40] using f6, by simpa only [iv_sl, is_t, is_a, e9, e18, e41] using f7, pl_c (fun _ => e12 _ _) (fun _ => e12 _ _) (fun _ => e9 _ _) (fun _ => e9 _ _) (e6 _ _) (fun _ => e9 _ _) (fun _ _ => e10 _ _) f8⟩
theorem st_count (k : Nat) (μ : mm_T) (h : Inv_ k μ) (a1 : Int32) : so_count (Inv_ k) μ a1 := by
  obtain ⟨L, l1, l2, l3, l4⟩ := h.1
  obtain ⟨c1, c2, c3, c4⟩ := h.2.1
  unfold so_count pX10_count pX11_count pX11_howMany
  have e : μ.1 26 0 0 = μ.1 1 0 1 := l3.trans l2.symm
  refine ⟨?_, ?_, ?_, ?_, ?_, ?_⟩
  · intro e1; subst e1; simp [h, e]
  · intro e1; subst e1; simp [h, c1]
  · intro e1; subst e1; simp [h, c2]
  · intro e1; subst e1; simp [h, c3]
  · intro e1; subst e1; simp [h, c4]
  · intro b0 b1 b2 b3 b4
    simp [h, b0, b1, b2, b3, b4]
theorem st_blank (k : Nat) (μ : mm_T) (h : Inv_ k μ) : so_blank (Inv_ k) μ := by
  obtain ⟨⟨L, l1, l2, l3, l4⟩, ct, sq, N, h7, hN, hM, la, fd⟩ := h
  unfold so_blank pX10_blank pX6_clear pX11_blank
  intro x e μ1 e1 x2 e2 μ2 e3
  subst e; subst e1; subst e2; subst e3
  refine ⟨by simp [mm_Ir, l2, l3], ⟨0, by omega, by simp [mm_Ir, nI_0], by simp [mm_Ir, nI_0], fun k hk => absurd hk (Nat.not_lt_zero k)⟩, by simpa [iv_ct, mm_Ir] using ct, by simpa [iv_sq, mm_Ir] using sq, N, h7, by simpa [mm_Ir] using hN, by simpa [mm_Ir] using hM, by simpa [iv_la, is_t, is_a, fl_, nx_, ny_, mm_Ir, mm_I2] using la, fun hp => ?_⟩
  obtain ⟨f1, f2, f3, f4, f5, f6, f7, f8⟩ := fd hp
  refine ⟨by simpa [iv_nd, mm_Ir] using f1, by simpa [iv_tg, is_t, is_a, mm_Ir] using f2, by simpa [iv_ta, is_t, is_a, mm_Ir] using f3, by simpa [iv_tm, mm_Ir, mm_I2] using f4, by simpa [iv_lv, mm_Ir] using f5, by simpa [iv_lk, is_t, is_a, mm_Ir] using f6, by simpa [iv_sl, is_t, is_a, mm_Ir] using f7, pl_c ?_ ?_ ?_ ?_ ?_ ?_ ?_ f8⟩
  all_goals simp [mm_Ir]
theorem st_letter (k : Nat) (μ : mm_T) (h : Inv_ k μ) (x : Int32) : so_letter (Inv_ k) μ x := by
  have h0 := h
  obtain ⟨⟨L, l1, l2, l3, l4⟩, ct, sq, N, h7, hN, hM, la, fd⟩ := h
  unfold so_letter pX10_letter pX11_letter
  by_cases b1 : x < 32
  · refine (iT b1).mpr ((q_win_f (Or.inl b1)).mpr (j0.mpr ⟨rfl, h0⟩))
  refine (iF b1).mpr ?_
  by_cases b2 : x ≤ 126
  · refine (iT b2).mpr ?_
    rw [l2]
    by_cases b3 : L = 110
    · subst b3
      refine (iF (by decide)).mpr ((q_win_t (Int32.not_lt.mp b1) b2).mpr (j1.mpr ((jT (by rw [l3]; rfl)).mpr ⟨rfl, h0⟩)))
    · have b4 : nI L < 110 := nI_lt (b := 110) (by omega) (by omega)
      refine (iT b4).mpr ?_
      unfold pX6_add
      rw [l2]
      refine (iF (Int32.not_le.mpr b4)).mpr ⟨vp_in_nI (by omega) (by omega), ?_⟩
      intro μ1 e1 μ2 e2
      subst e1; subst e2
      refine (q_win_t (Int32.not_lt.mp b1) b2).mpr (j1.mpr ?_)
      have b5 : ¬ nI L = 110 := fun q => b3 (ni_inj (by omega) (by omega) q)
      refine (jF (by simpa [mm_Ir, l3] using b5)).mpr ⟨by simpa [mm_Ir, l3] using vp_in_nI (show L < 110 by omega) (by omega), ?_⟩
      intro μ3 e3 μ4 e4
      subst e3; subst e4
      have cl := nI_clamp (show L < 2 ^ 31 by omega)
      refine ⟨by simp [mm_Ir, l2, l3], ⟨L + 1, by omega, by simp [mm_Ir, l2, nI_1], by simp [mm_Ir, l3, nI_1], fun j hj => ?_⟩, by simpa [iv_ct, mm_Ir] using ct, by simpa [iv_sq, mm_Ir] using sq, N, h7, by simpa [mm_Ir] using hN, by simpa [mm_Ir] using hM, by simpa [iv_la, is_t, is_a, fl_, nx_, ny_, mm_Ir, mm_I2] using la, fun hp => ?_⟩
      · simp only [mm_Ir, l2, l3, cl]
        by_cases e : j = L
        · simp [e, cl, l3]
        · simp [e, cl, l3, l4 j (by omega)]
      obtain ⟨f1, f2, f3, f4, f5, f6, f7, f8⟩ := fd hp
      refine ⟨by simpa [iv_nd, mm_Ir] using f1, by simpa [iv_tg, is_t, is_a, mm_Ir] using f2, by simpa [iv_ta, is_t, is_a, mm_Ir] using f3, by simpa [iv_tm, mm_Ir, mm_I2] using f4, by simpa [iv_lv, mm_Ir] using f5, by simpa [iv_lk, is_t, is_a, mm_Ir] using f6, by simpa [iv_sl, is_t, is_a, mm_Ir] using f7, pl_c ?_ ?_ ?_ ?_ ?_ ?_ ?_ f8⟩
      all_goals simp [mm_Ir]
  · exact (iF b2).mpr ((q_win_f (Or.inr (Int32.not_le.mp b2))).mpr (j0.mpr ⟨rfl, h0⟩))
theorem st_slot (k : Nat) (μ : mm_T) (h : Inv_ k μ) (x : Int32) : so_slot (Inv_ k) μ x := by
  have h0 := h
  obtain ⟨pg, ct, sq, N, h7, hN, hM, la, fd⟩ := h
  unfold so_slot pX10_slot pX11_slot
  rcases Nat.eq_zero_or_pos N with e | hp
  · subst e
    exact (q_rd_f hN).mpr (j0.mpr ((q_fd_f hM).mpr (j0.mpr ⟨rfl, h0⟩)))
  obtain ⟨f1, f2, f3, f4, f5, f6, f7, f8⟩ := fd hp
  refine (q_rd_t hN h7 hp).mpr (j1.mpr ?_)
  by_cases b1 : x < 0
  · exact (iT b1).mpr ((q_fd_t hM h7 hp).mpr (j1.mpr ((q_win_f (Or.inl b1)).mpr (i0.mpr ⟨rfl, h0⟩))))
  refine (iF b1).mpr ?_
  obtain ⟨j, hj, rfl⟩ := nI_of b1
  by_cases b2 : j < 16
  · refine (iT (show nI j < 16 from nI_lt (b := 16) b2 (by omega))).mpr ⟨vp_in_nI b2 (by omega), (q_fd_t hM h7 hp).mpr (j1.mpr ((q_win_t (nI_pos' hj) (show nI j ≤ 15 from nI_le (b := 15) (by omega) (by omega))).mpr (i1.mpr ⟨vp_in_nI b2 (by omega), ?_, h0⟩)))⟩
    rw [nI_clamp hj]
    exact (f7 j b2).1.symm
  · exact (iF (show ¬ nI j < 16 from nI_nlt (b := 16) (by omega) hj)).mpr ((q_fd_t hM h7 hp).mpr (j1.mpr ((q_win_f (Or.inr (show (15 : Int32) < nI j from nI_lt (a := 15) (by omega) hj))).mpr (i0.mpr ⟨rfl, h0⟩))))
theorem st_range (k : Nat) (μ : mm_T) (h : Inv_ k μ) (x y : Int32) : so_range (Inv_ k) μ x y := by
  have h0 := h
  obtain ⟨pg, ct, sq, N, h7, hN, hM, la, fd⟩ := h
  unfold so_range pX10_range pX11_range
  have hd : iv_nd N μ := by
    rcases Nat.eq_zero_or_pos N with e | hp
    · subst e; exact fun i hi => absurd hi (Nat.not_lt_zero i)
    · exact (fd hp).1
  by_cases b : pr_ N μ x y
  · obtain ⟨t, a, ht, ha, h1, h2, rfl, rfl⟩ := b
    obtain ⟨f1, f2, f3, f4, f5, f6, f7, f8⟩ := fd (by omega)
    refine (q_pr_t hN h7 ht ha h1 h2).mpr (j1.mpr ((q_link (by omega) (by omega)).mpr ⟨by omega, ?_⟩))
    refine (q_mp_t hM h7 hd ht ha h1 h2).mpr (i1.mpr ?_)
    unfold pX11_rangeNow
    refine (q_pair (by omega) (by omega)).mpr ⟨vp_in_nI (by omega) (by omega), ?_⟩
    rw [nI_clamp (show 7 * t + a < 2 ^ 31 by omega)]
    rcases (f6 (7 * t + a) (by omega)).2 with ⟨g1, g2, g3⟩ | ⟨g1, g2, g3, g4⟩
    · exact (iT g2).mpr ⟨g3, h0⟩
    · refine (iF (by rw [g2]; decide)).mpr ((q_pair (by omega) (by omega)).mpr ⟨vp_in_nI (by omega) (by omega), ?_, h0⟩)
      rw [nI_clamp (show 7 * t + a < 2 ^ 31 by omega), g3]
  · exact (q_pr_f hN h7 hd b).mpr (j0.mpr ((q_mp_f hM h7 hd b).mpr (i0.mpr ⟨rfl, h0⟩)))
