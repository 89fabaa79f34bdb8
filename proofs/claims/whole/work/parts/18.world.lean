/-- all references lead where they must -/
def fr_ (ρ : mm_R) : Prop := (∃ ρ0 : mm_R, ∃ μ0 : mm_T, j3_ μ0 ρ ∧ ρ0 = ρ) ∧ ρ 26 0 1 = some (mm_ad 27 0) ∧ ρ 26 0 3 = some (mm_ad 28 0) ∧ ρ 26 0 4 = some (mm_ad 29 0) ∧ ρ 26 0 5 = some (mm_ad 30 0) ∧ ρ 26 0 6 = some (mm_ad 31 0) ∧ ρ 26 0 7 = some (mm_ad 32 0) ∧ ρ 26 0 8 = some (mm_ad 33 0) ∧ ρ 26 0 9 = some (mm_ad 34 0) ∧ ρ 26 0 10 = some (mm_ad 35 0) ∧ ρ 26 0 11 = some (mm_ad 36 0) ∧ ρ 26 0 12 = some (mm_ad 37 0) ∧ ρ 26 0 13 = some (mm_ad 38 0) ∧ ρ 26 0 14 = some (mm_ad 39 0) ∧ ρ 26 0 15 = some (mm_ad 40 0) ∧ ρ 26 0 16 = some (mm_ad 41 0) ∧ ρ 26 0 25 = some (mm_ad 42 0) ∧ ρ 26 0 26 = some (mm_ad 43 0) ∧ ρ 26 0 36 = some (mm_ad 44 0) ∧ ρ 26 0 37 = some (mm_ad 45 0) ∧ ρ 26 0 38 = some (mm_ad 46 0) ∧ ρ 26 0 39 = some (mm_ad 47 0) ∧ ρ 26 0 40 = some (mm_ad 48 0)
theorem wx_arr {c : ClassId} {N : Nat} {f g : Nat → Value} (h : ∀ j, j < N → f j = g j) : arrV c N f = arrV c N g := by
  unfold arrV
  rw [show (fun j : Fin N => f j.val) = (fun j => g j.val) from funext fun j => h j.val j.isLt]
theorem mm_ftc : ∀ k, k < 211 → (mm_ft.getD k (0, 0)).1 < 49 ∧ (mm_ft.getD k (0, 0)).2 < mm_cn (mm_ft.getD k (0, 0)).1 := by decide +kernel
theorem wx_at (D : va_G) (cy : Nat → ClassId) (z : Nat) (μ : mm_T) (ρ : mm_R) (h : fr_ ρ) (H : Heap) (a f i : Nat) (hf : f < 49) (hi : i < mm_cn f) (hv : va_at D vwCl (a, mn_ce cy z μ ρ f i) H) : va_at D vwCl (a, mm_ce cy z μ f i) H := by
  obtain ⟨⟨_, _, ⟨⟨_, q1, q2, ⟨f0, f8, f7, f5, f6, f9, f10⟩, h4, h5, h6, h7, h8, h9, h10, h11, h12, h13, h14, h15⟩, s0, s1, s2, s3, s4, s5⟩, -⟩, m1, m3, m4, m5, m6, m7, m8, m9, m10, m11, m12, m13, m14, m15, m16, m25, m26, m36, m37, m38, m39, m40⟩ := h
  have i0 : ∀ n, n < 1 → n = 0 := fun n h => by omega
  rcases (show f = 0 ∨ f = 1 ∨ f = 2 ∨ f = 3 ∨ f = 4 ∨ f = 5 ∨ f = 6 ∨ f = 7 ∨ f = 8 ∨ f = 9 ∨ f = 10 ∨ f = 11 ∨ f = 12 ∨ f = 13 ∨ f = 14 ∨ f = 15 ∨ f = 16 ∨ f = 17 ∨ f = 18 ∨ f = 19 ∨ f = 20 ∨ f = 21 ∨ f = 22 ∨ f = 23 ∨ f = 24 ∨ f = 25 ∨ f = 26 ∨ f = 27 ∨ f = 28 ∨ f = 29 ∨ f = 30 ∨ f = 31 ∨ f = 32 ∨ f = 33 ∨ f = 34 ∨ f = 35 ∨ f = 36 ∨ f = 37 ∨ f = 38 ∨ f = 39 ∨ f = 40 ∨ f = 41 ∨ f = 42 ∨ f = 43 ∨ f = 44 ∨ f = 45 ∨ f = 46 ∨ f = 47 ∨ f = 48 by omega) with rfl | rfl | rfl | rfl | rfl | rfl | rfl | rfl | rfl | rfl | rfl | rfl | rfl | rfl | rfl | rfl | rfl | rfl | rfl | rfl | rfl | rfl | rfl | rfl | rfl | rfl | rfl | rfl | rfl | rfl | rfl | rfl | rfl | rfl | rfl | rfl | rfl | rfl | rfl | rfl | rfl | rfl | rfl | rfl | rfl | rfl | rfl | rfl | rfl
  · have e0 := i0 i hi; subst e0
    rw [mn_ceO (ci := 10) rfl] at hv
    rw [mm_ceO (ci := 10) rfl]
    have e1 : (List.range (mm_ns 10)).map (fun j => mn_sl z μ ρ 0 0 j (mm_st 10 j)) = (List.range (mm_ns 10)).map (fun j => mm_sl z μ 0 0 j (mm_st 10 j)) := by
      apply List.map_congr_left
      intro j hj
      have hj2 : j < 7 := List.mem_range.mp hj
      rcases (show j = 0 ∨ j = 1 ∨ j = 2 ∨ j = 3 ∨ j = 4 ∨ j = 5 ∨ j = 6 by omega) with rfl | rfl | rfl | rfl | rfl | rfl | rfl
      · show va_rf ((ρ 0 0 0).map (fun k => z + k)) = Value.ref (z + mm_rt 0 0 0)
        rw [s0]
        rfl
      · show va_rf ((ρ 0 0 1).map (fun k => z + k)) = Value.ref (z + mm_rt 0 0 1)
        rw [s1]
        rfl
      · show va_rf ((ρ 0 0 2).map (fun k => z + k)) = Value.ref (z + mm_rt 0 0 2)
        rw [s2]
        rfl
      · rfl
      · rfl
      · rfl
      · rfl
    rw [e1] at hv
    exact hv
  · have e0 := i0 i hi; subst e0
    rw [mn_ceO (ci := 6) rfl] at hv
    rw [mm_ceO (ci := 6) rfl]
    have e1 : (List.range (mm_ns 6)).map (fun j => mn_sl z μ ρ 1 0 j (mm_st 6 j)) = (List.range (mm_ns 6)).map (fun j => mm_sl z μ 1 0 j (mm_st 6 j)) := by
      apply List.map_congr_left
      intro j hj
      have hj2 : j < 2 := List.mem_range.mp hj
      rcases (show j = 0 ∨ j = 1 by omega) with rfl | rfl
      · show va_rf ((ρ 1 0 0).map (fun k => z + k)) = Value.ref (z + mm_rt 1 0 0)
        rw [s3]
        rfl
      · rfl
    rw [e1] at hv
    exact hv
  · have e0 := i0 i hi; subst e0
    rw [mn_ceI (n := 110) rfl] at hv
    rw [mm_ceI (n := 110) rfl]
    exact hv
  · have e0 := i0 i hi; subst e0
    rw [mn_ceO (ci := 8) rfl] at hv
    rw [mm_ceO (ci := 8) rfl]
    have e1 : (List.range (mm_ns 8)).map (fun j => mn_sl z μ ρ 3 0 j (mm_st 8 j)) = (List.range (mm_ns 8)).map (fun j => mm_sl z μ 3 0 j (mm_st 8 j)) := by
      apply List.map_congr_left
      intro j hj
      have hj2 : j < 6 := List.mem_range.mp hj
      rcases (show j = 0 ∨ j = 1 ∨ j = 2 ∨ j = 3 ∨ j = 4 ∨ j = 5 by omega) with rfl | rfl | rfl | rfl | rfl | rfl
      · show va_rf ((ρ 3 0 0).map (fun k => z + k)) = Value.ref (z + mm_rt 3 0 0)
        rw [s4]
        rfl
      · rfl
      · rfl
      · rfl
      · rfl
      · rfl
    rw [e1] at hv
    exact hv
  · have e0 := i0 i hi; subst e0
    rw [mn_ceR (t := 3) (n := 7) rfl] at hv
    rw [mm_ceR (t := 3) (n := 7) rfl]
    have hv2 : H[a]? = some (vp_cell _ _) := hv
    show H[a]? = some (vp_cell _ _)
    rw [hv2, vp_cell_q, vp_cell_q]
    refine congrArg some (wx_arr (fun j hj => ?_))
    rw [s5 j hj]
    rfl
  · rw [mn_ceI (n := 5) rfl] at hv
    rw [mm_ceI (n := 5) rfl]
    exact hv
  · have e0 := i0 i hi; subst e0
    rw [mn_ceO (ci := 0) rfl] at hv
    rw [mm_ceO (ci := 0) rfl]
    have e1 : (List.range (mm_ns 0)).map (fun j => mn_sl z μ ρ 6 0 j (mm_st 0 j)) = (List.range (mm_ns 0)).map (fun j => mm_sl z μ 6 0 j (mm_st 0 j)) := by
      apply List.map_congr_left
      intro j hj
      have hj2 : j < 11 := List.mem_range.mp hj
      rcases (show j = 0 ∨ j = 1 ∨ j = 2 ∨ j = 3 ∨ j = 4 ∨ j = 5 ∨ j = 6 ∨ j = 7 ∨ j = 8 ∨ j = 9 ∨ j = 10 by omega) with rfl | rfl | rfl | rfl | rfl | rfl | rfl | rfl | rfl | rfl | rfl
      · show va_rf ((ρ 6 0 0).map (fun k => z + k)) = Value.ref (z + mm_rt 6 0 0)
        rw [f0]
        rfl
      · rfl
      · rfl
      · rfl
      · rfl
      · show va_rf ((ρ 6 0 5).map (fun k => z + k)) = Value.ref (z + mm_rt 6 0 5)
        rw [f5]
        rfl
      · show va_rf ((ρ 6 0 6).map (fun k => z + k)) = Value.ref (z + mm_rt 6 0 6)
        rw [f6]
        rfl
      · show va_rf ((ρ 6 0 7).map (fun k => z + k)) = Value.ref (z + mm_rt 6 0 7)
        rw [f7]
        rfl
      · show va_rf ((ρ 6 0 8).map (fun k => z + k)) = Value.ref (z + mm_rt 6 0 8)
        rw [f8]
        rfl
      · show va_rf ((ρ 6 0 9).map (fun k => z + k)) = Value.ref (z + mm_rt 6 0 9)
        rw [f9]
        rfl
      · show va_rf ((ρ 6 0 10).map (fun k => z + k)) = Value.ref (z + mm_rt 6 0 10)
        rw [f10]
        rfl
    rw [e1] at hv
    exact hv
  · have e0 := i0 i hi; subst e0
    rw [mn_ceR (t := 1) (n := 7) rfl] at hv
    rw [mm_ceR (t := 1) (n := 7) rfl]
    have hv2 : H[a]? = some (vp_cell _ _) := hv
    show H[a]? = some (vp_cell _ _)
    rw [hv2, vp_cell_q, vp_cell_q]
    refine congrArg some (wx_arr (fun j hj => ?_))
    rw [h4 j hj]
    rfl
  · have e0 := i0 i hi; subst e0
    rw [mn_ceR (t := 2) (n := 7) rfl] at hv
    rw [mm_ceR (t := 2) (n := 7) rfl]
    have hv2 : H[a]? = some (vp_cell _ _) := hv
    show H[a]? = some (vp_cell _ _)
    rw [hv2, vp_cell_q, vp_cell_q]
    refine congrArg some (wx_arr (fun j hj => ?_))
    rw [h5 j hj]
    rfl
  · rw [mn_ceO (ci := 5) rfl] at hv
    rw [mm_ceO (ci := 5) rfl]
    exact hv
  · rw [mn_ceO (ci := 7) rfl] at hv
    rw [mm_ceO (ci := 7) rfl]
    exact hv
  · have e0 := i0 i hi; subst e0
    rw [mn_ceR (t := 0) (n := 49) rfl] at hv
    rw [mm_ceR (t := 0) (n := 49) rfl]
    have hv2 : H[a]? = some (vp_cell _ _) := hv
    show H[a]? = some (vp_cell _ _)
    rw [hv2, vp_cell_q, vp_cell_q]
    refine congrArg some (wx_arr (fun j hj => ?_))
    rw [h6 j hj]
    rfl
  · rw [mn_ceO (ci := 4) rfl] at hv
    rw [mm_ceO (ci := 4) rfl]
    have e1 : (List.range (mm_ns 4)).map (fun j => mn_sl z μ ρ 12 i j (mm_st 4 j)) = (List.range (mm_ns 4)).map (fun j => mm_sl z μ 12 i j (mm_st 4 j)) := by
      apply List.map_congr_left
      intro j hj
      have hj2 : j < 5 := List.mem_range.mp hj
      rcases (show j = 0 ∨ j = 1 ∨ j = 2 ∨ j = 3 ∨ j = 4 by omega) with rfl | rfl | rfl | rfl | rfl
      · show va_rf ((ρ 12 i 0).map (fun k => z + k)) = Value.ref (z + mm_rt 12 i 0)
        rw [(h7 i hi).1]
        rfl
      · show va_rf ((ρ 12 i 1).map (fun k => z + k)) = Value.ref (z + mm_rt 12 i 1)
        rw [(h7 i hi).2]
        rfl
      · rfl
      · rfl
      · rfl
    rw [e1] at hv
    exact hv
  · rw [mn_ceI (n := 6) rfl] at hv
    rw [mm_ceI (n := 6) rfl]
    exact hv
  · rw [mn_ceI (n := 6) rfl] at hv
    rw [mm_ceI (n := 6) rfl]
    exact hv
  · have e0 := i0 i hi; subst e0
    rw [mn_ceO (ci := 3) rfl] at hv
    rw [mm_ceO (ci := 3) rfl]
    have e1 : (List.range (mm_ns 3)).map (fun j => mn_sl z μ ρ 15 0 j (mm_st 3 j)) = (List.range (mm_ns 3)).map (fun j => mm_sl z μ 15 0 j (mm_st 3 j)) := by
      apply List.map_congr_left
      intro j hj
      have hj2 : j < 9 := List.mem_range.mp hj
      rcases (show j = 0 ∨ j = 1 ∨ j = 2 ∨ j = 3 ∨ j = 4 ∨ j = 5 ∨ j = 6 ∨ j = 7 ∨ j = 8 by omega) with rfl | rfl | rfl | rfl | rfl | rfl | rfl | rfl | rfl
      · rfl
      · rfl
      · rfl
      · rfl
      · rfl
      · rfl
      · rfl
      · rfl
      · show va_rf ((ρ 15 0 8).map (fun k => z + k)) = Value.ref (z + mm_rt 15 0 8)
        rw [h8]
        rfl
    rw [e1] at hv
    exact hv
  · have e0 := i0 i hi; subst e0
    rw [mn_ceJ (n := 7) rfl] at hv
    rw [mm_ceJ (n := 7) rfl]
    exact hv
  · have e0 := i0 i hi; subst e0
    rw [mn_ceO (ci := 9) rfl] at hv
    rw [mm_ceO (ci := 9) rfl]
    have e1 : (List.range (mm_ns 9)).map (fun j => mn_sl z μ ρ 17 0 j (mm_st 9 j)) = (List.range (mm_ns 9)).map (fun j => mm_sl z μ 17 0 j (mm_st 9 j)) := by
      apply List.map_congr_left
      intro j hj
      have hj2 : j < 1 := List.mem_range.mp hj
      have e9 := i0 j hj2; subst e9
      · show va_rf ((ρ 17 0 0).map (fun k => z + k)) = Value.ref (z + mm_rt 17 0 0)
        rw [h9]
        rfl
    rw [e1] at hv
    exact hv
  · have e0 := i0 i hi; subst e0
    rw [mn_ceI (n := 16) rfl] at hv
    rw [mm_ceI (n := 16) rfl]
    exact hv
  · have e0 := i0 i hi; subst e0
    rw [mn_ceO (ci := 2) rfl] at hv
    rw [mm_ceO (ci := 2) rfl]
    have e1 : (List.range (mm_ns 2)).map (fun j => mn_sl z μ ρ 19 0 j (mm_st 2 j)) = (List.range (mm_ns 2)).map (fun j => mm_sl z μ 19 0 j (mm_st 2 j)) := by
      apply List.map_congr_left
      intro j hj
      have hj2 : j < 1 := List.mem_range.mp hj
      have e9 := i0 j hj2; subst e9
      · show va_rf ((ρ 19 0 0).map (fun k => z + k)) = Value.ref (z + mm_rt 19 0 0)
        rw [h10]
        rfl
    rw [e1] at hv
    exact hv
  · have e0 := i0 i hi; subst e0
    rw [mn_ceI (n := 1923) rfl] at hv
    rw [mm_ceI (n := 1923) rfl]
    exact hv
  · have e0 := i0 i hi; subst e0
    rw [mn_ceO (ci := 1) rfl] at hv
    rw [mm_ceO (ci := 1) rfl]
    have e1 : (List.range (mm_ns 1)).map (fun j => mn_sl z μ ρ 21 0 j (mm_st 1 j)) = (List.range (mm_ns 1)).map (fun j => mm_sl z μ 21 0 j (mm_st 1 j)) := by
      apply List.map_congr_left
      intro j hj
      have hj2 : j < 6 := List.mem_range.mp hj
      rcases (show j = 0 ∨ j = 1 ∨ j = 2 ∨ j = 3 ∨ j = 4 ∨ j = 5 by omega) with rfl | rfl | rfl | rfl | rfl | rfl
      · show va_rf ((ρ 21 0 0).map (fun k => z + k)) = Value.ref (z + mm_rt 21 0 0)
        rw [h11]
        rfl
      · show va_rf ((ρ 21 0 1).map (fun k => z + k)) = Value.ref (z + mm_rt 21 0 1)
        rw [h12]
        rfl
      · show va_rf ((ρ 21 0 2).map (fun k => z + k)) = Value.ref (z + mm_rt 21 0 2)
        rw [h13]
        rfl
      · show va_rf ((ρ 21 0 3).map (fun k => z + k)) = Value.ref (z + mm_rt 21 0 3)
        rw [h14]
        rfl
      · rfl
      · show va_rf ((ρ 21 0 5).map (fun k => z + k)) = Value.ref (z + mm_rt 21 0 5)
        rw [h15]
        rfl
    rw [e1] at hv
    exact hv
  · have e0 := i0 i hi; subst e0
    rw [mn_ceI (n := 7) rfl] at hv
    rw [mm_ceI (n := 7) rfl]
    exact hv
  · have e0 := i0 i hi; subst e0
    rw [mn_ceI (n := 7) rfl] at hv
    rw [mm_ceI (n := 7) rfl]
    exact hv
  · have e0 := i0 i hi; subst e0
    rw [mn_ceI (n := 7) rfl] at hv
    rw [mm_ceI (n := 7) rfl]
    exact hv
  · have e0 := i0 i hi; subst e0
    rw [mn_ceI (n := 1024) rfl] at hv
    rw [mm_ceI (n := 1024) rfl]
    exact hv
  · have e0 := i0 i hi; subst e0
    rw [mn_ceO (ci := 11) rfl] at hv
    rw [mm_ceO (ci := 11) rfl]
    have e1 : (List.range (mm_ns 11)).map (fun j => mn_sl z μ ρ 26 0 j (mm_st 11 j)) = (List.range (mm_ns 11)).map (fun j => mm_sl z μ 26 0 j (mm_st 11 j)) := by
      apply List.map_congr_left
      intro j hj
      have hj2 : j < 42 := List.mem_range.mp hj
      rcases (show j = 0 ∨ j = 1 ∨ j = 2 ∨ j = 3 ∨ j = 4 ∨ j = 5 ∨ j = 6 ∨ j = 7 ∨ j = 8 ∨ j = 9 ∨ j = 10 ∨ j = 11 ∨ j = 12 ∨ j = 13 ∨ j = 14 ∨ j = 15 ∨ j = 16 ∨ j = 17 ∨ j = 18 ∨ j = 19 ∨ j = 20 ∨ j = 21 ∨ j = 22 ∨ j = 23 ∨ j = 24 ∨ j = 25 ∨ j = 26 ∨ j = 27 ∨ j = 28 ∨ j = 29 ∨ j = 30 ∨ j = 31 ∨ j = 32 ∨ j = 33 ∨ j = 34 ∨ j = 35 ∨ j = 36 ∨ j = 37 ∨ j = 38 ∨ j = 39 ∨ j = 40 ∨ j = 41 by omega) with rfl | rfl | rfl | rfl | rfl | rfl | rfl | rfl | rfl | rfl | rfl | rfl | rfl | rfl | rfl | rfl | rfl | rfl | rfl | rfl | rfl | rfl | rfl | rfl | rfl | rfl | rfl | rfl | rfl | rfl | rfl | rfl | rfl | rfl | rfl | rfl | rfl | rfl | rfl | rfl | rfl | rfl
      · rfl
      · show va_rf ((ρ 26 0 1).map (fun k => z + k)) = Value.ref (z + mm_rt 26 0 1)
        rw [m1]
        rfl
      · rfl
      · show va_rf ((ρ 26 0 3).map (fun k => z + k)) = Value.ref (z + mm_rt 26 0 3)
        rw [m3]
        rfl
      · show va_rf ((ρ 26 0 4).map (fun k => z + k)) = Value.ref (z + mm_rt 26 0 4)
        rw [m4]
        rfl
      · show va_rf ((ρ 26 0 5).map (fun k => z + k)) = Value.ref (z + mm_rt 26 0 5)
        rw [m5]
        rfl
      · show va_rf ((ρ 26 0 6).map (fun k => z + k)) = Value.ref (z + mm_rt 26 0 6)
        rw [m6]
        rfl
      · show va_rf ((ρ 26 0 7).map (fun k => z + k)) = Value.ref (z + mm_rt 26 0 7)
        rw [m7]
        rfl
      · show va_rf ((ρ 26 0 8).map (fun k => z + k)) = Value.ref (z + mm_rt 26 0 8)
        rw [m8]
        rfl
      · show va_rf ((ρ 26 0 9).map (fun k => z + k)) = Value.ref (z + mm_rt 26 0 9)
        rw [m9]
        rfl
      · show va_rf ((ρ 26 0 10).map (fun k => z + k)) = Value.ref (z + mm_rt 26 0 10)
        rw [m10]
        rfl
      · show va_rf ((ρ 26 0 11).map (fun k => z + k)) = Value.ref (z + mm_rt 26 0 11)
        rw [m11]
        rfl
      · show va_rf ((ρ 26 0 12).map (fun k => z + k)) = Value.ref (z + mm_rt 26 0 12)
        rw [m12]
        rfl
      · show va_rf ((ρ 26 0 13).map (fun k => z + k)) = Value.ref (z + mm_rt 26 0 13)
        rw [m13]
        rfl
      · show va_rf ((ρ 26 0 14).map (fun k => z + k)) = Value.ref (z + mm_rt 26 0 14)
        rw [m14]
        rfl
      · show va_rf ((ρ 26 0 15).map (fun k => z + k)) = Value.ref (z + mm_rt 26 0 15)
        rw [m15]
        rfl
      · show va_rf ((ρ 26 0 16).map (fun k => z + k)) = Value.ref (z + mm_rt 26 0 16)
        rw [m16]
        rfl
      · rfl
      · rfl
      · rfl
      · rfl
      · rfl
      · rfl
      · rfl
      · rfl
      · show va_rf ((ρ 26 0 25).map (fun k => z + k)) = Value.ref (z + mm_rt 26 0 25)
        rw [m25]
        rfl
      · show va_rf ((ρ 26 0 26).map (fun k => z + k)) = Value.ref (z + mm_rt 26 0 26)
        rw [m26]
        rfl
      · rfl
      · rfl
      · rfl
      · rfl
      · rfl
      · rfl
      · rfl
      · rfl
      · rfl
      · show va_rf ((ρ 26 0 36).map (fun k => z + k)) = Value.ref (z + mm_rt 26 0 36)
        rw [m36]
        rfl
      · show va_rf ((ρ 26 0 37).map (fun k => z + k)) = Value.ref (z + mm_rt 26 0 37)
        rw [m37]
        rfl
      · show va_rf ((ρ 26 0 38).map (fun k => z + k)) = Value.ref (z + mm_rt 26 0 38)
        rw [m38]
        rfl
      · show va_rf ((ρ 26 0 39).map (fun k => z + k)) = Value.ref (z + mm_rt 26 0 39)
        rw [m39]
        rfl
      · show va_rf ((ρ 26 0 40).map (fun k => z + k)) = Value.ref (z + mm_rt 26 0 40)
        rw [m40]
        rfl
      · rfl
    rw [e1] at hv
    exact hv
  · have e0 := i0 i hi; subst e0
    rw [mn_ceI (n := 110) rfl] at hv
    rw [mm_ceI (n := 110) rfl]
    exact hv
  · have e0 := i0 i hi; subst e0
    rw [mn_ceZ (n := 7) rfl] at hv
    rw [mm_ceZ (n := 7) rfl]
    exact hv
  · have e0 := i0 i hi; subst e0
    rw [mn_ceI (n := 7) rfl] at hv
    rw [mm_ceI (n := 7) rfl]
    exact hv
  · have e0 := i0 i hi; subst e0
    rw [mn_ceI (n := 7) rfl] at hv
    rw [mm_ceI (n := 7) rfl]
    exact hv
  · have e0 := i0 i hi; subst e0
    rw [mn_ceI (n := 7) rfl] at hv
    rw [mm_ceI (n := 7) rfl]
    exact hv
  · have e0 := i0 i hi; subst e0
    rw [mn_ceI (n := 7) rfl] at hv
    rw [mm_ceI (n := 7) rfl]
    exact hv
  · have e0 := i0 i hi; subst e0
    rw [mn_ceI (n := 7) rfl] at hv
    rw [mm_ceI (n := 7) rfl]
    exact hv
  · have e0 := i0 i hi; subst e0
    rw [mn_ceI (n := 7) rfl] at hv
    rw [mm_ceI (n := 7) rfl]
    exact hv
  · have e0 := i0 i hi; subst e0
    rw [mn_ceI (n := 7) rfl] at hv
    rw [mm_ceI (n := 7) rfl]
    exact hv
  · have e0 := i0 i hi; subst e0
    rw [mn_ceI (n := 49) rfl] at hv
    rw [mm_ceI (n := 49) rfl]
    exact hv
  · have e0 := i0 i hi; subst e0
    rw [mn_ceI (n := 294) rfl] at hv
    rw [mm_ceI (n := 294) rfl]
    exact hv
  · have e0 := i0 i hi; subst e0
    rw [mn_ceI (n := 294) rfl] at hv
    rw [mm_ceI (n := 294) rfl]
    exact hv
  · have e0 := i0 i hi; subst e0
    rw [mn_ceZ (n := 49) rfl] at hv
    rw [mm_ceZ (n := 49) rfl]
    exact hv
  · have e0 := i0 i hi; subst e0
    rw [mn_ceI (n := 49) rfl] at hv
    rw [mm_ceI (n := 49) rfl]
    exact hv
  · have e0 := i0 i hi; subst e0
    rw [mn_ceI (n := 16) rfl] at hv
    rw [mm_ceI (n := 16) rfl]
    exact hv
  · have e0 := i0 i hi; subst e0
    rw [mn_ceI (n := 7) rfl] at hv
    rw [mm_ceI (n := 7) rfl]
    exact hv
  · have e0 := i0 i hi; subst e0
    rw [mn_ceI (n := 7) rfl] at hv
    rw [mm_ceI (n := 7) rfl]
    exact hv
  · have e0 := i0 i hi; subst e0
    rw [mn_ceZ (n := 7) rfl] at hv
    rw [mm_ceZ (n := 7) rfl]
    exact hv
  · have e0 := i0 i hi; subst e0
    rw [mn_ceI (n := 7) rfl] at hv
    rw [mm_ceI (n := 7) rfl]
    exact hv
  · have e0 := i0 i hi; subst e0
    rw [mn_ceI (n := 7) rfl] at hv
    rw [mm_ceI (n := 7) rfl]
    exact hv
  · have e0 := i0 i hi; subst e0
    rw [mn_ceI (n := 7) rfl] at hv
    rw [mm_ceI (n := 7) rfl]
    exact hv
  · have e0 := i0 i hi; subst e0
    rw [mn_ceI (n := 7) rfl] at hv
    rw [mm_ceI (n := 7) rfl]
    exact hv
theorem wx_P {D : va_G} {cy : Nat → ClassId} {z : Nat} {μ : mm_T} {ρ : mm_R} (h : fr_ ρ) {H : Heap} (hP : va_P D vwCl (mn_ws cy z 211 μ ρ) H) : va_P D vwCl (mm_ws cy z μ) H := by
  intro k x hx
  have hk := (mm_wsk hx).1
  unfold mm_ws at hx
  rw [List.getElem?_map] at hx
  cases hq : mm_ft[k]? with
  | none => rw [hq] at hx; cases hx
  | some q =>
    rw [hq] at hx
    cases hx
    have hc := mm_ftc k hk
    rw [List.getD_eq_getElem?_getD, hq] at hc
    have hb := (mm_bk' hq).2
    exact wx_at D cy z μ ρ h H _ q.1 q.2 hc.1 hc.2 (hP (mm_ad q.1 q.2) _ (mn_wsat cy z μ ρ hc.2 (by omega)))
theorem wx_fr {μ : mm_T} {ρ : mm_R} (h : j3_ μ ρ) : fr_ (mr_W (mr_Z (mr_W (mr_Z (mr_W (mr_Z (mr_W (mr_Z (mr_W (mr_Z (mr_W (mr_Z (mr_W (mr_Z (mr_W (mr_Z (mr_W (mr_Z (mr_W (mr_Z (mr_W (mr_Z (mr_W (mr_Z (mr_W (mr_Z (mr_W (mr_Z (mr_W (mr_Z (mr_W (mr_Z (mr_W (mr_Z (mr_W (mr_Z (mr_W (mr_Z (mr_W (mr_Z (mr_W (mr_Z (mr_W (mr_Z (mr_Z ρ 26 0) 27 0) 26 0 1 (mm_ad 27 0)) 28 0) 26 0 3 (mm_ad 28 0)) 29 0) 26 0 4 (mm_ad 29 0)) 30 0) 26 0 5 (mm_ad 30 0)) 31 0) 26 0 6 (mm_ad 31 0)) 32 0) 26 0 7 (mm_ad 32 0)) 33 0) 26 0 8 (mm_ad 33 0)) 34 0) 26 0 9 (mm_ad 34 0)) 35 0) 26 0 10 (mm_ad 35 0)) 36 0) 26 0 11 (mm_ad 36 0)) 37 0) 26 0 12 (mm_ad 37 0)) 38 0) 26 0 13 (mm_ad 38 0)) 39 0) 26 0 14 (mm_ad 39 0)) 40 0) 26 0 15 (mm_ad 40 0)) 41 0) 26 0 16 (mm_ad 41 0)) 42 0) 26 0 25 (mm_ad 42 0)) 43 0) 26 0 26 (mm_ad 43 0)) 44 0) 26 0 36 (mm_ad 44 0)) 45 0) 26 0 37 (mm_ad 45 0)) 46 0) 26 0 38 (mm_ad 46 0)) 47 0) 26 0 39 (mm_ad 47 0)) 48 0) 26 0 40 (mm_ad 48 0)) := by
  obtain ⟨⟨_, q1, q2, ⟨f0, f8, f7, f5, f6, f9, f10⟩, h4, h5, h6, h7, h8, h9, h10, h11, h12, h13, h14, h15⟩, s0, s1, s2, s3, s4, s5⟩ := h
  refine ⟨⟨_, _, ⟨⟨_, q1, fun _ _ _ _ => rfl, ⟨?_, ?_, ?_, ?_, ?_, ?_, ?_⟩, fun k hk => ?_, fun k hk => ?_, fun k hk => ?_, fun k hk => ?_, ?_, ?_, ?_, ?_, ?_, ?_, ?_, ?_⟩, ?_, ?_, ?_, ?_, ?_, fun k hk => ?_⟩, rfl⟩, ?_, ?_, ?_, ?_, ?_, ?_, ?_, ?_, ?_, ?_, ?_, ?_, ?_, ?_, ?_, ?_, ?_, ?_, ?_, ?_, ?_, ?_⟩
  all_goals first | (simp [mr_Wr, mr_Zr]; done) | (simp [mr_Wr, mr_Zr, f0, f8, f7, f5, f6, f9, f10, h8, h9, h10, h11, h12, h13, h14, h15, s0, s1, s2, s3, s4]; done) | (simp [mr_Wr, mr_Zr, h4 k hk]; done) | (simp [mr_Wr, mr_Zr, h5 k hk]; done) | (simp [mr_Wr, mr_Zr, h6 k hk]; done) | (simp [mr_Wr, mr_Zr, (h7 k hk).1, (h7 k hk).2]; done) | (simp [mr_Wr, mr_Zr, s5 k hk]; done)
theorem wx_zq {μ : mm_T} (h : zq_ μ) : zq_ (mm_Z (mm_Z (mm_Z (mm_Z (mm_Z (mm_Z (mm_Z (mm_Z (mm_Z (mm_Z (mm_Z (mm_Z (mm_Z (mm_Z (mm_Z (mm_Z (mm_Z (mm_Z (mm_Z (mm_Z (mm_Z (mm_Z (mm_Z μ 26 0) 27 0) 28 0) 29 0) 30 0) 31 0) 32 0) 33 0) 34 0) 35 0) 36 0) 37 0) 38 0) 39 0) 40 0) 41 0) 42 0) 43 0) 44 0) 45 0) 46 0) 47 0) 48 0) := (zq_Z (zq_Z (zq_Z (zq_Z (zq_Z (zq_Z (zq_Z (zq_Z (zq_Z (zq_Z (zq_Z (zq_Z (zq_Z (zq_Z (zq_Z (zq_Z (zq_Z (zq_Z (zq_Z (zq_Z (zq_Z (zq_Z (zq_Z h 26 0 (by decide)) 27 0 (by decide)) 28 0 (by decide)) 29 0 (by decide)) 30 0 (by decide)) 31 0 (by decide)) 32 0 (by decide)) 33 0 (by decide)) 34 0 (by decide)) 35 0 (by decide)) 36 0 (by decide)) 37 0 (by decide)) 38 0 (by decide)) 39 0 (by decide)) 40 0 (by decide)) 41 0 (by decide)) 42 0 (by decide)) 43 0 (by decide)) 44 0 (by decide)) 45 0 (by decide)) 46 0 (by decide)) 47 0 (by decide)) 48 0 (by decide))
