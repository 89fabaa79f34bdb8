/-! What the calls that only read answer, on both sides. -/
def Iv_ (N k : Nat) (μ : mm_T) : Prop := 0 < N ∧ N ≤ 7 ∧ k ≤ 600 ∧ iv_sq μ ∧ μ.1 6 0 1 = nI N ∧ μ.1 26 0 2 = nI N ∧ iv_la N k μ ∧ iv_fd N k μ
def tm_ (μ : mm_T) : Nat := (μ.1 26 0 17).toNatClampNeg
theorem tm_ok {N k : Nat} {μ : mm_T} (h : Iv_ N k μ) : μ.2 6 0 2 = lN (tm_ μ) ∧ μ.1 26 0 17 = nI (tm_ μ) ∧ tm_ μ ≤ 9999999 + 2400 * k := by
  obtain ⟨-, -, hk, -, -, -, -, -, -, -, ⟨T, t1, t2, t3⟩, -⟩ := h
  unfold tm_
  rw [t2, t3, nI_clamp (by omega)]
  exact ⟨rfl, rfl, t1⟩
/-- node -/
def nd_ (μ : mm_T) (i w : Nat) : Int32 := if w = 6 then Int32.ofInt (ck_ μ i (tm_ μ)) else if w < 6 then μ.1 9 i w else μ.1 9 i (w - 1)
section VN
variable {Po : Int32 → mm_T → Prop} {μ : mm_T} {N k i w : Nat}
theorem ck_i {T : Nat} : (Int64.ofInt (ck_ μ i T)).toInt32 = Int32.ofInt (ck_ μ i T) := Int64.toInt32_ofInt
theorem c_tell (h : Iv_ N k μ) (hi : i < N) (hw : w < 9) (hP : Po (nd_ μ i w) μ) : pX5_tell Po μ i (nI w) (μ.2 6 0 2) := by
  obtain ⟨tm1, tm2, tm3⟩ := tm_ok h
  obtain ⟨hp, h7, hk, sq, hN, hM, la, f1, f2, f3, f4, f5, f6, f7, f8⟩ := h
  unfold pX5_tell
  refine ⟨by omega, ?_⟩
  rcases (show w = 0 ∨ w = 1 ∨ w = 2 ∨ w = 3 ∨ w = 4 ∨ w = 5 ∨ w = 6 ∨ w = 7 ∨ w = 8 by omega) with rfl | rfl | rfl | rfl | rfl | rfl | rfl | rfl | rfl <;> revert hP
  · intro hP
    have hP : Po (μ.1 9 i 0) μ := hP
    rcases ta_cases f1 hi with q | q
    · rw [show μ.1 9 i 0 = 0 from q] at hP ⊢
      simpa [nI_0] using hP
    · rw [show μ.1 9 i 0 = 1 from q] at hP ⊢
      simpa [nI_0] using hP
  · intro hP; have hP : Po (μ.1 9 i 1) μ := hP; simpa [nI] using hP
  · intro hP; have hP : Po (μ.1 9 i 2) μ := hP; simpa [nI] using hP
  · intro hP; have hP : Po (μ.1 9 i 3) μ := hP; simpa [nI] using hP
  · intro hP; have hP : Po (μ.1 9 i 4) μ := hP; simpa [nI] using hP
  · intro hP; have hP : Po (μ.1 9 i 5) μ := hP; simpa [nI] using hP
  · intro hP
    have hP : Po (Int32.ofInt (ck_ μ i (tm_ μ))) μ := hP
    have : pX5_clockAt (fun r3 μ2 => Po r3.toInt32 μ2) μ i (μ.2 6 0 2) := by
      rw [tm1]
      exact r_clockAt f1 h7 hi (by omega) (by rw [ck_i]; exact hP)
    simpa [nI] using this
  · intro hP; have hP : Po (μ.1 9 i 6) μ := hP; simpa [nI] using hP
  · intro hP; have hP : Po (μ.1 9 i 7) μ := hP; simpa [nI] using hP
theorem c_node (h : Iv_ N k μ) (hi : i < N) (hw : w < 9) (hP : Po (nd_ μ i w) μ) : pX10_node Po μ (nI i) (nI w) := by
  have h0 := h
  obtain ⟨hp, h7, hk, sq, hN, hM, la, fd⟩ := h
  unfold pX10_node
  refine (q_has_t hN h7 hi).mpr (j1.mpr ⟨vp_in_nI (by omega) (by omega), ?_⟩)
  rw [nI_clamp (by omega)]
  exact c_tell h0 hi hw hP
theorem m_node (h : Iv_ N k μ) (hi : i < N) (hw : w < 9) (hP : Po (nd_ μ i w) μ) : pX11_nodeNow Po μ (nI i) (nI w) := by
  obtain ⟨tm1, tm2, tm3⟩ := tm_ok h
  obtain ⟨hp, h7, hk, sq, hN, hM, la, f1, f2, f3, f4, f5, f6, f7, f8⟩ := h
  have v : vp_in (nI i) 7 := vp_in_nI (by omega) (by omega)
  have cl := nI_clamp (show i < 2 ^ 31 by omega)
  obtain ⟨-, g2, ⟨x, x1, x2, x3⟩, ⟨y, y1, y2, y3⟩, ⟨s1, -, -⟩, ⟨t, t1, t2, t3⟩, u, u1, u1', u2, u3⟩ := f1 i hi
  unfold pX11_nodeNow
  rw [cl]
  rcases (show w = 0 ∨ w = 1 ∨ w = 2 ∨ w = 3 ∨ w = 4 ∨ w = 5 ∨ w = 6 ∨ w = 7 ∨ w = 8 by omega) with rfl | rfl | rfl | rfl | rfl | rfl | rfl | rfl | rfl <;> revert hP
  · intro hP
    have hP : Po (μ.1 9 i 0) μ := hP
    rcases ta_cases f1 hi with q | q
    · have q : μ.1 9 i 0 = 0 := q
      rw [q] at hP
      simpa [nI_0, v, g2, q] using hP
    · have q : μ.1 9 i 0 = 1 := q
      rw [q] at hP
      simpa [nI_0, v, g2, q] using hP
  · intro hP; have hP : Po (μ.1 9 i 1) μ := hP; rw [x2] at hP; rw [x3]; simpa [nI_0, show nI 1 = 1 from rfl, v] using hP
  · intro hP; have hP : Po (μ.1 9 i 2) μ := hP; rw [y2] at hP; rw [y3]; simpa [nI_0, show nI 2 = 2 from rfl, v] using hP
  · intro hP; have hP : Po (μ.1 9 i 3) μ := hP; rw [s1]; simpa [show nI 3 = 3 from rfl, v] using hP
  · intro hP; have hP : Po (μ.1 9 i 4) μ := hP; rw [t2] at hP; rw [t3]; simpa [show nI 4 = 4 from rfl, v] using hP
  · intro hP; have hP : Po (μ.1 9 i 5) μ := hP; rw [u2] at hP; rw [u3]; simpa [show nI 5 = 5 from rfl, v] using hP
  · intro hP
    have hP : Po (Int32.ofInt (ck_ μ i (tm_ μ))) μ := hP
    have : pX11_clockOf (fun r9 μ8 => Po r9 μ8) μ (nI i) (μ.1 26 0 17) := by
      rw [tm2]
      exact r_clockOf f1 h7 hi (by omega) hP
    simpa [show nI 6 = 6 from rfl] using this
  · intro hP
    have hP : Po (μ.1 9 i 6) μ := hP
    rcases ta_cases f1 hi with q | q
    · rw [((f2 i hi).2 q).1] at hP
      have q : μ.1 9 i 0 = 0 := q
      simpa [show nI 7 = 7 from rfl, v, g2, q] using hP
    · obtain ⟨⟨p, p1, p2, p3⟩, -⟩ := (f2 i hi).1 q
      have q : μ.1 9 i 0 = 1 := q
      rw [p2] at hP
      simpa [show nI 7 = 7 from rfl, v, g2, q, p3] using hP
  · intro hP
    have hP : Po (μ.1 9 i 7) μ := hP
    rcases ta_cases f1 hi with q | q
    · rw [((f2 i hi).2 q).2] at hP
      have q : μ.1 9 i 0 = 0 := q
      simpa [show nI 8 = 8 from rfl, v, g2, q] using hP
    · obtain ⟨-, p, p1, -, p2, p3⟩ := (f2 i hi).1 q
      have q : μ.1 9 i 0 = 1 := q
      rw [p2] at hP
      simpa [show nI 8 = 8 from rfl, v, g2, q, p3] using hP
end VN
theorem Iv_of {k : Nat} {μ : mm_T} (h : Inv_ k μ) (hk : k ≤ 600) : ∃ N, N ≤ 7 ∧ μ.1 6 0 1 = nI N ∧ μ.1 26 0 2 = nI N ∧ iv_nd N μ ∧ (N = 0 ∨ Iv_ N k μ) := by
  obtain ⟨pg, ct, sq, N, h7, hN, hM, la, fd⟩ := h
  refine ⟨N, h7, hN, hM, iv_nd0 fd, ?_⟩
  rcases Nat.eq_zero_or_pos N with e | hp
  · exact Or.inl e
  · exact Or.inr ⟨hp, h7, hk, sq, hN, hM, la, fd hp⟩
theorem st_node (k : Nat) (μ : mm_T) (h : Inv_ k μ) (hk : k ≤ 600) (x y : Int32) : so_node (Inv_ k) μ x y := by
  obtain ⟨N, h7, hN, hM, hd, hI⟩ := Iv_of h hk
  unfold so_node
  rcases nn_cases N x with ⟨i, hi, rfl⟩ | hx
  · replace hI := hI.resolve_left (by omega)
    by_cases b1 : y < 0
    · unfold pX10_node pX11_node pX5_tell
      refine (q_has_t hN h7 hi).mpr (j1.mpr ⟨vp_in_nI (by omega) (by omega), by rw [nI_clamp (by omega)]; omega, ?_⟩)
      refine ⟨?_, ?_, ?_, ?_, ?_, ?_, ?_, ?_, ?_, ?_⟩
      iterate 9 (intro q; subst q; exact absurd b1 (by decide))
      intros
      exact (q_nd_t hM h7 hi).mpr (j1.mpr ((q_win_f (Or.inl b1)).mpr (i0.mpr ⟨rfl, h⟩)))
    · obtain ⟨w, hw, rfl⟩ := nI_of b1
      rcases Nat.lt_or_ge w 9 with b2 | b2
      · refine c_node hI hi b2 ?_
        unfold pX11_node
        exact (q_nd_t hM h7 hi).mpr (j1.mpr ((q_win_t (nI_pos' hw) (nI_le (b := 8) (by omega) (by omega))).mpr (i1.mpr (m_node hI hi b2 ⟨rfl, h⟩))))
      · unfold pX10_node pX11_node pX5_tell
        refine (q_has_t hN h7 hi).mpr (j1.mpr ⟨vp_in_nI (by omega) (by omega), by rw [nI_clamp (by omega)]; omega, ?_⟩)
        have ne (n : Nat) (hn : n < 9) : ¬ nI w = nI n := fun q => by
          have := ni_inj hw (by omega) q
          omega
        refine ⟨?_, ?_, ?_, ?_, ?_, ?_, ?_, ?_, ?_, ?_⟩
        · exact fun q => absurd q (ne 0 (by omega))
        · exact fun q => absurd q (ne 1 (by omega))
        · exact fun q => absurd q (ne 2 (by omega))
        · exact fun q => absurd q (ne 3 (by omega))
        · exact fun q => absurd q (ne 4 (by omega))
        · exact fun q => absurd q (ne 5 (by omega))
        · exact fun q => absurd q (ne 6 (by omega))
        · exact fun q => absurd q (ne 7 (by omega))
        · exact fun q => absurd q (ne 8 (by omega))
        intros
        exact (q_nd_t hM h7 hi).mpr (j1.mpr ((q_win_f (Or.inr (nI_lt (a := 8) (by omega) hw))).mpr (i0.mpr ⟨rfl, h⟩)))
  · unfold pX10_node pX11_node
    exact (q_has_f hN h7 hx).mpr (j0.mpr ((q_nd_f hM h7 hx).mpr (j0.mpr ⟨rfl, h⟩)))
theorem c_flight {Po : Int32 → mm_T → Prop} {μ : mm_T} {N k i j : Nat} (h : Iv_ N k μ) (hi : i < N) (hj : j < N) (hP : Po (nI (fl_ μ i j)) μ) : pX10_flight Po μ (nI i) (nI j) := by
  obtain ⟨hp, h7, hk, sq, hN, hM, la, fd⟩ := h
  unfold pX10_flight
  exact (q_has_t hN h7 hi).mpr (i1.mpr ((q_has_t hN h7 hj).mpr (j1.mpr (r_flightBetween fd.1 sq h7 hi hj hP))))
theorem st_flight (k : Nat) (μ : mm_T) (h : Inv_ k μ) (hk : k ≤ 600) (x y : Int32) : so_flight (Inv_ k) μ x y := by
  obtain ⟨N, h7, hN, hM, hd, hI⟩ := Iv_of h hk
  unfold so_flight
  rcases nn_cases N x with ⟨i, hi, rfl⟩ | hx
  · replace hI := hI.resolve_left (by omega)
    rcases nn_cases N y with ⟨j, hj, rfl⟩ | hy
    · refine c_flight hI hi hj ?_
      unfold pX11_flight
      exact (q_nd_t hM h7 hi).mpr (i1.mpr ((q_nd_t hM h7 hj).mpr (i1.mpr (r_flightOf hd h7 hi hj ⟨rfl, h⟩))))
    · unfold pX10_flight pX11_flight
      exact (q_has_t hN h7 hi).mpr (i1.mpr ((q_has_f hN h7 hy).mpr (j0.mpr ((q_nd_t hM h7 hi).mpr (i1.mpr ((q_nd_f hM h7 hy).mpr (i0.mpr ⟨rfl, h⟩)))))))
  · unfold pX10_flight pX11_flight
    exact (q_has_f hN h7 hx).mpr (i0.mpr ((q_nd_f hM h7 hx).mpr (i0.mpr ⟨rfl, h⟩)))
theorem st_clock (k : Nat) (μ : mm_T) (h : Inv_ k μ) (hk : k ≤ 600) (x y : Int32) : so_clock (Inv_ k) μ x y := by
  obtain ⟨N, h7, hN, hM, hd, hI⟩ := Iv_of h hk
  unfold so_clock pX10_clock pX11_clock
  rcases nn_cases N x with ⟨i, hi, rfl⟩ | hx
  · refine (q_has_t hN h7 hi).mpr (j1.mpr ?_)
    by_cases b1 : y < 0
    · exact (iT b1).mpr ((q_nd_t hM h7 hi).mpr (j1.mpr ((q_win_f (Or.inl b1)).mpr (i0.mpr ⟨rfl, h⟩))))
    refine (iF b1).mpr ?_
    by_cases b2 : y ≤ 1000000
    · obtain ⟨T, hT, rfl⟩ := nI_of b1
      have c2 : T ≤ 1000000 := (nI_leI (b := 1000000) hT (by omega)).mp b2
      refine (iT b2).mpr ⟨vp_in_nI (by omega) (by omega), ?_⟩
      rw [nI_clamp (show i < 2 ^ 31 by omega), nI_l hT]
      refine r_clockAt hd h7 hi (by omega) ?_
      refine (q_nd_t hM h7 hi).mpr (j1.mpr ((q_win_t (nI_pos' hT) b2).mpr (i1.mpr (r_clockOf hd h7 hi (by omega) ⟨ck_i, h⟩))))
    · exact (iF b2).mpr ((q_nd_t hM h7 hi).mpr (j1.mpr ((q_win_f (Or.inr (Int32.not_le.mp b2))).mpr (i0.mpr ⟨rfl, h⟩))))
  · exact (q_has_f hN h7 hx).mpr (j0.mpr ((q_nd_f hM h7 hx).mpr (j0.mpr ⟨rfl, h⟩)))
