/-! limit, want, last, heard. -/
theorem r_changeLimit {Po : mm_T → Prop} {μ : mm_T} {v : Int32} (h : ∀ μ2 : mm_T, (∀ a b c, ¬ (a = 10 ∧ c = 0) → μ2.1 a b c = (mm_I μ 6 0 4 v).1 a b c) → μ2.2 = μ.2 → (∀ i, i < 7 → μ2.1 10 i 0 = 0) → Po μ2) : pX0_changeLimit Po μ v := by
  unfold pX0_changeLimit
  intro μ1 e1
  refine lp_up 7 (fun j t => t.2 = nI j ∧ (∀ a b c, ¬ (a = 10 ∧ c = 0) → t.1.1 a b c = μ1.1 a b c) ∧ t.1.2 = μ.2 ∧ ∀ i, i < j → t.1.1 10 i 0 = 0) ?_ 0 (by omega) _ ⟨rfl, fun _ _ _ _ => rfl, by rw [e1]; rfl, fun i hi => absurd hi (Nat.not_lt_zero i)⟩
  rintro j ⟨m, x⟩ hj ⟨i1, i2, i3, i4⟩ K hK
  have i1 : x = nI j := i1
  subst i1
  unfold pX0_changeLimit_l7
  rcases Nat.eq_or_lt_of_le hj with e | hlt
  · subst e
    refine (iT (show (7 : Int32) ≤ nI 7 by decide)).mpr (h m (fun a b c q => ?_) i3 i4)
    rw [← e1]
    exact i2 a b c q
  · refine (iF (show ¬ nI 7 ≤ nI j from nI_ge hlt (by omega))).mpr ⟨vp_in_nI hlt (by omega), ?_⟩
    intro μ3 e3
    rw [nI_clamp (by omega)] at e3
    refine hK hlt _ ⟨nI_1 j, fun a b c q => ?_, ?_, fun i hi => ?_⟩
    · show μ3.1 a b c = _
      rw [e3, mm_Ir, if_neg (fun q2 => q ⟨q2.1, q2.2.2⟩)]
      exact i2 a b c q
    · show μ3.2 = _
      rw [e3]
      exact i3
    · show μ3.1 10 i 0 = 0
      rw [e3, mm_Ir]
      by_cases e : i = j
      · simp [e]
      · rw [if_neg (fun q => e q.2.1)]
        exact i4 i (by omega)
theorem st_limit (k : Nat) (μ : mm_T) (h : Inv_ k μ) (x : Int32) : so_limit (Inv_ k) μ x := by
  have h0 := h
  obtain ⟨pg, ct, sq, N, h7, hN, hM, la, fd⟩ := h
  unfold so_limit pX10_limit pX11_limit
  rcases Nat.eq_zero_or_pos N with e | hp
  · subst e
    exact (q_rd_f hN).mpr (j0.mpr ((q_fd_f hM).mpr (j0.mpr ⟨rfl, h0⟩)))
  obtain ⟨f1, f2, f3, f4, f5, f6, f7, f8⟩ := fd hp
  refine (q_rd_t hN h7 hp).mpr (j1.mpr ?_)
  by_cases b1 : x < 0
  · exact (iT b1).mpr ((q_fd_t hM h7 hp).mpr (j1.mpr ((q_win_f (Or.inl b1)).mpr (j0.mpr ⟨rfl, h0⟩))))
  refine (iF b1).mpr ?_
  by_cases b2 : x ≤ 9999
  · obtain ⟨⟨v, v1, v2, v3, v4⟩, w, w1, w2, w3⟩ := f5
    obtain ⟨j, hj, rfl⟩ := nI_of b1
    have c2 : j ≤ 9999 := (nI_leI (b := 9999) hj (by omega)).mp b2
    refine (iT b2).mpr ?_
    intro y ey
    subst ey
    refine r_changeLimit ?_
    intro m g1 g2 g3
    have e (a b c : Nat) (hh : ¬ (a = 10 ∧ c = 0)) (hh2 : a ≠ 6) : m.1 a b c = μ.1 a b c := by
      rw [g1 a b c hh, mm_Ir, if_neg (fun q => hh2 q.1)]
    have e6 (c : Nat) (hc : c ≠ 4) : m.1 6 0 c = μ.1 6 0 c := by
      rw [g1 6 0 c (by omega), mm_Ir, if_neg (fun q => hc q.2.2)]
    have e64 : m.1 6 0 4 = nI j := by
      rw [g1 6 0 4 (by omega), mm_Ir]
      simp
    have E (a : Nat) (h1 : a ≠ 10) (h2 : a ≠ 6) : ∀ b c, m.1 a b c = μ.1 a b c := fun b c => e a b c (fun q => h1 q.1) h2
    refine (q_fd_t (N := N) (by rw [E 26 (by omega) (by omega)]; exact hM) h7 hp).mpr (j1.mpr ((q_win_t (nI_pos' hj) b2).mpr (j1.mpr ?_)))
    intro y ey μ1 e1
    subst ey
    have M (a b c : Nat) (hh : ¬ (a = 26 ∧ c = 19)) : μ1.1 a b c = m.1 a b c := by
      rw [e1, mm_Ir, if_neg (fun q => hh ⟨q.1, q.2.2⟩)]
    have M2 (a : Nat) (h1 : a ≠ 26) (h2 : a ≠ 10) (h3 : a ≠ 6) : ∀ b c, μ1.1 a b c = μ.1 a b c := fun b c => (M a b c (fun q => h1 q.1)).trans (E a h2 h3 b c)
    have M26 (c : Nat) (hc : c ≠ 19) : μ1.1 26 0 c = μ.1 26 0 c := (M 26 0 c (fun q => hc q.2)).trans (E 26 (by omega) (by omega) 0 c)
    have L : μ1.2 = μ.2 := by rw [e1]; exact g2
    have s9 := M2 9 (by omega) (by omega) (by omega)
    have s15 := M2 15 (by omega) (by omega) (by omega)
    have s42 := M2 42 (by omega) (by omega) (by omega)
    have s43 := M2 43 (by omega) (by omega) (by omega)
    have s12 := M2 12 (by omega) (by omega) (by omega)
    refine ⟨by rw [E 26 (by omega) (by omega), w2, w3], by simpa only [iv_pg, M2 1 (by omega) (by omega) (by omega), M2 2 (by omega) (by omega) (by omega), M2 27 (by omega) (by omega) (by omega), M26 0 (by omega)] using pg, by simpa only [iv_ct, M2 0 (by omega) (by omega) (by omega), M26 27 (by omega), M26 28 (by omega), M26 29 (by omega), M26 30 (by omega)] using ct, by simpa only [iv_sq, M2 20 (by omega) (by omega) (by omega)] using sq, N, h7, by rw [M 6 0 1 (by omega), e6 1 (by omega)]; exact hN, by rw [M26 2 (by omega)]; exact hM, by simpa only [iv_la, is_t, is_a, fl_, nx_, ny_, s9, s15, s42, s43, L, M26 20 (by omega), M26 21 (by omega), M26 22 (by omega), M26 23 (by omega), M26 24 (by omega)] using la, fun hp => ?_⟩
    refine ⟨by simpa only [iv_nd, s9, M2 28 (by omega) (by omega) (by omega), M2 29 (by omega) (by omega) (by omega), M2 30 (by omega) (by omega) (by omega), M2 31 (by omega) (by omega) (by omega), M2 32 (by omega) (by omega) (by omega), M2 33 (by omega) (by omega) (by omega)] using f1, by simpa only [iv_tg, is_t, is_a, s9, M2 34 (by omega) (by omega) (by omega), M2 35 (by omega) (by omega) (by omega)] using f2, by simpa only [iv_ta, is_t, is_a, s9] using f3, by simpa only [iv_tm, L, M26 17 (by omega)] using f4, ⟨⟨v, v1, v2, by rw [M 6 0 3 (by omega), e6 3 (by omega)]; exact v3, by rw [M26 18 (by omega)]; exact v4⟩, j, c2, by rw [M 6 0 4 (by omega)]; exact e64, by rw [e1, mm_Ir]; simp⟩, by simpa only [iv_lk, is_t, is_a, s9, s12, M2 13 (by omega) (by omega) (by omega), M2 14 (by omega) (by omega) (by omega), M2 36 (by omega) (by omega) (by omega), M2 37 (by omega) (by omega) (by omega), M2 38 (by omega) (by omega) (by omega), M2 39 (by omega) (by omega) (by omega), M2 40 (by omega) (by omega) (by omega)] using f6, by simpa only [iv_sl, is_t, is_a, s9, M2 18 (by omega) (by omega) (by omega), M2 41 (by omega) (by omega) (by omega)] using f7, fun t ht hi => Or.inl (by rw [M 10 t 0 (by omega)]; exact g3 t (by omega))⟩
  · exact (iF b2).mpr ((q_fd_t hM h7 hp).mpr (j1.mpr ((q_win_f (Or.inr (Int32.not_le.mp b2))).mpr (j0.mpr ⟨rfl, h0⟩))))
/-- bits counted -/
def bc_ (p1 : Int32) : Int32 :=
  let x1 := p1 - (((p1.toUInt32 >>> ((1 : Int32).toUInt32 &&& Int32.toUInt32 31)).toInt32) &&& (1431655765 : Int32))
  let x2 := (x1 &&& (858993459 : Int32)) + (((x1.toUInt32 >>> ((2 : Int32).toUInt32 &&& Int32.toUInt32 31)).toInt32) &&& (858993459 : Int32))
  let x3 := (x2 + ((x2.toUInt32 >>> ((4 : Int32).toUInt32 &&& Int32.toUInt32 31)).toInt32)) &&& (252645135 : Int32)
  let x4 := x3 + ((x3.toUInt32 >>> ((8 : Int32).toUInt32 &&& Int32.toUInt32 31)).toInt32)
  let x5 := x4 + ((x4.toUInt32 >>> ((16 : Int32).toUInt32 &&& Int32.toUInt32 31)).toInt32)
  x5 &&& (63 : Int32)
theorem r_bits {Po : Int32 → mm_T → Prop} {μ : mm_T} {x : Int32} (h : Po (bc_ x) μ) : pJ6_bitCount_0f7a4 Po μ x := by
  unfold pJ6_bitCount_0f7a4
  intro x1 e1 x2 e2 x3 e3 x4 e4 x5 e5
  subst e1; subst e2; subst e3; subst e4; subst e5
  exact h
theorem bc_17 : ∀ j, j < 17 → (bc_ (nI j) ≤ 1 ↔ (j = 0 ∨ j = 1 ∨ j = 2 ∨ j = 4 ∨ j = 8 ∨ j = 16)) := by decide +kernel
theorem q_mt_t {Po : Int32 → mm_T → Prop} {μ : mm_T} {N t : Nat} (hd : iv_nd N μ) (ht : t < N) (h1 : is_t μ t) : μ.1 28 0 t = 1 := (hd t ht).2.1.trans h1
theorem st_want (k : Nat) (μ : mm_T) (h : Inv_ k μ) (x y : Int32) : so_want (Inv_ k) μ x y := by
  have h0 := h
  obtain ⟨pg, ct, sq, N, h7, hN, hM, la, fd⟩ := h
  have hd : iv_nd N μ := iv_nd0 fd
  unfold so_want pX10_want pX11_want
  rcases nn_cases N x with ⟨t, ht, rfl⟩ | hx
  · obtain ⟨f1, f2, f3, f4, f5, f6, f7, f8⟩ := fd (by omega)
    have v : vp_in (nI t) 7 := vp_in_nI (by omega) (by omega)
    have cl := nI_clamp (show t < 2 ^ 31 by omega)
    rcases ta_cases hd ht with h1 | h1
    · refine (q_tag_a hN h7 ht h1).mpr (j0.mpr ((q_nd_t hM h7 ht).mpr (i1.mpr ⟨v, ?_⟩)))
      rw [cl]
      exact (jT ((hd t ht).2.1.trans h1)).mpr ⟨rfl, h0⟩
    · have e1 : μ.1 28 0 t = 1 := (hd t ht).2.1.trans h1
      refine (q_tag_t hN h7 ht h1).mpr (j1.mpr ?_)
      by_cases b : ∃ j, (j = 0 ∨ j = 1 ∨ j = 2 ∨ j = 4 ∨ j = 8 ∨ j = 16) ∧ y = nI j
      · obtain ⟨j, hj, rfl⟩ := b
        refine (iF (nI_pos (by omega))).mpr ((iF (show ¬ nI 16 < nI j from nI_nlt (by omega) (by omega))).mpr (r_bits ((iT ((bc_17 j (by omega)).mpr hj)).mpr ⟨v, ?_⟩)))
        intro z ez
        refine ⟨v, ?_⟩
        intro μ1 e2
        rw [cl] at ez e2
        subst e2
        refine (q_nd_t (N := N) (by simpa [mm_Ir] using hM) h7 ht).mpr (i1.mpr ⟨v, (jF (by rw [cl]; simp [mm_Ir, e1])).mpr ?_⟩)
        have F : ∀ (Po : Int32 → mm_T → Prop) (m : mm_T), (∀ z, z = m.1 34 0 t → ∀ μ7, μ7 = mm_I m 34 0 t (nI j) → Po z μ7) → pX11_want_b51 Po m (nI t) (nI j) := by
          intro Po m hh
          unfold pX11_want_b51 pX11_want_b56
          refine j1.mpr ⟨v, fun z ez => ⟨v, fun μ7 e7 => hh z (by rw [ez, cl]) μ7 (by rw [e7, cl])⟩⟩
        have G : ∀ (Po : Int32 → mm_T → Prop), (∀ z, z = μ.1 34 0 t → Po z (mm_I (mm_I μ 9 t 6 (nI j)) 34 0 t (nI j))) → pX11_want_b51 Po (mm_I μ 9 t 6 (nI j)) (nI t) (nI j) := by
          intro Po hh
          refine F Po _ ?_
          intro z ez μ7 e7
          subst e7
          refine hh z ?_
          rw [ez, mm_Ir]
          simp
        have R : pX11_want_b51 (fun r2 μ2 => z = r2 ∧ Inv_ k μ2) (mm_I μ 9 t 6 (nI j)) (nI t) (nI j) := by
          refine G _ ?_
          intro z2 ez2
          obtain ⟨⟨p, p1, p2, p3⟩, p4⟩ := (f2 t ht).1 h1
          refine ⟨by rw [ez, ez2, p2, p3], by simpa [iv_pg, mm_Ir] using pg, by simpa [iv_ct, mm_Ir] using ct, by simpa [iv_sq, mm_Ir] using sq, N, h7, by simpa [mm_Ir] using hN, by simpa [mm_Ir] using hM, by simpa [iv_la, is_t, is_a, fl_, nx_, ny_, mm_Ir, mm_I2] using la, fun hp => ?_⟩
          refine ⟨by simpa [iv_nd, mm_Ir] using f1, ?_, by simpa [iv_ta, is_t, is_a, mm_Ir] using f3, by simpa [iv_tm, mm_Ir, mm_I2] using f4, by simpa [iv_lv, mm_Ir] using f5, by simpa [iv_lk, is_t, is_a, mm_Ir] using f6, by simpa [iv_sl, is_t, is_a, mm_Ir] using f7, pl_c ?_ ?_ ?_ ?_ ?_ ?_ ?_ f8⟩
          · intro i hi
            by_cases e : i = t
            · subst e
              refine ⟨fun _ => ⟨⟨j, hj, by simp [mm_Ir], by simp [mm_Ir]⟩, by simpa [is_a, mm_Ir] using p4⟩, fun q => ?_⟩
              have q2 : μ.1 9 i 0 = 0 := by simpa [is_a, mm_Ir] using q
              rw [show μ.1 9 i 0 = 1 from h1] at q2
              exact absurd q2 (by decide)
            · have := f2 i hi
              simpa [is_t, is_a, mm_Ir, e] using this
          all_goals simp [mm_Ir]
        rcases hj with rfl | rfl | rfl | rfl | rfl | rfl
        · exact (iT rfl).mpr R
        · exact (iF (by decide)).mpr ((iT rfl).mpr R)
        · exact (iF (by decide)).mpr ((iF (by decide)).mpr ((iT rfl).mpr R))
        · exact (iF (by decide)).mpr ((iF (by decide)).mpr ((iF (by decide)).mpr ((iT rfl).mpr R)))
        · exact (iF (by decide)).mpr ((iF (by decide)).mpr ((iF (by decide)).mpr ((iF (by decide)).mpr ((iT rfl).mpr R))))
        · exact (iF (by decide)).mpr ((iF (by decide)).mpr ((iF (by decide)).mpr ((iF (by decide)).mpr ((iF (by decide)).mpr ((jT rfl).mpr R)))))
      · have n (j : Nat) (hj : j = 0 ∨ j = 1 ∨ j = 2 ∨ j = 4 ∨ j = 8 ∨ j = 16) : ¬ y = nI j := fun q => b ⟨j, hj, q⟩
        have R : pX11_isNode (fun r2 μ1 => (r2 = 0 → (-1000002 : Int32) = -1000001 ∧ Inv_ k μ1) ∧ (¬ (r2 = 0) → (vp_in (nI t) 7) ∧ ((¬ (μ1.1 28 0 (nI t).toNatClampNeg) = 0 → (y = 0 → pX11_want_b51 (fun r2 μ2 => (-1000002 : Int32) = r2 ∧ Inv_ k μ2) μ1 (nI t) y) ∧ (¬ (y = 0) → (y = (1 : Int32) → pX11_want_b51 (fun r2 μ2 => (-1000002 : Int32) = r2 ∧ Inv_ k μ2) μ1 (nI t) y) ∧ (¬ (y = (1 : Int32)) → (y = (2 : Int32) → pX11_want_b51 (fun r2 μ2 => (-1000002 : Int32) = r2 ∧ Inv_ k μ2) μ1 (nI t) y) ∧ (¬ (y = (2 : Int32)) → (y = (4 : Int32) → pX11_want_b51 (fun r2 μ2 => (-1000002 : Int32) = r2 ∧ Inv_ k μ2) μ1 (nI t) y) ∧ (¬ (y = (4 : Int32)) → (y = (8 : Int32) → pX11_want_b51 (fun r2 μ2 => (-1000002 : Int32) = r2 ∧ Inv_ k μ2) μ1 (nI t) y) ∧ (¬ (y = (8 : Int32)) → (¬ y = (16 : Int32) → pX11_want_b56 (fun r2 μ2 => (-1000002 : Int32) = r2 ∧ Inv_ k μ2) μ1 (nI t) y (0 : Int32)) ∧ (y = (16 : Int32) → pX11_want_b51 (fun r2 μ2 => (-1000002 : Int32) = r2 ∧ Inv_ k μ2) μ1 (nI t) y))))))) ∧ ((μ1.1 28 0 (nI t).toNatClampNeg) = 0 → (-1000002 : Int32) = -1000001 ∧ Inv_ k μ1)))) μ (nI t) := by
          refine (q_nd_t hM h7 ht).mpr (i1.mpr ⟨v, (jF (by rw [cl, e1]; decide)).mpr ((iF (n 0 (by omega))).mpr ((iF (n 1 (by omega))).mpr ((iF (n 2 (by omega))).mpr ((iF (n 4 (by omega))).mpr ((iF (n 8 (by omega))).mpr ((jF (n 16 (by omega))).mpr ?_))))))⟩)
          unfold pX11_want_b56
          exact j0.mpr ⟨rfl, h0⟩
        by_cases b1 : y < 0
        · exact (iT b1).mpr R
        refine (iF b1).mpr ?_
        by_cases b2 : 16 < y
        · exact (iT b2).mpr R
        refine (iF b2).mpr (r_bits ((iF ?_).mpr R))
        obtain ⟨j, hj, rfl⟩ := nI_of b1
        have c2 : j ≤ 16 := Nat.le_of_not_lt (fun q => b2 (nI_lt (a := 16) q hj))
        exact fun q => n j ((bc_17 j (by omega)).mp q) rfl
  · exact (q_tag_f hN h7 hx).mpr (j0.mpr ((q_nd_f hM h7 hx).mpr (i0.mpr ⟨rfl, h0⟩)))
