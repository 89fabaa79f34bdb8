/-! path, firstPath, limit, want, last, heard. -/
/-- the least extra of the first n paths that are loud enough -/
def fx_ (μ : mm_T) (q : Nat) : Nat → Int32
  | 0 => -1
  | n + 1 => if μ.1 14 q n < μ.1 6 0 3 then fx_ μ q n else if fx_ μ q n = -1 then μ.1 13 q n else if fx_ μ q n ≤ μ.1 13 q n then fx_ μ q n else μ.1 13 q n
def np_ (μ : mm_T) (q : Nat) : Nat := (μ.1 12 q 2).toNatClampNeg
/-- the first path of the pair q -/
def fe_ (μ : mm_T) (q : Nat) : Int32 := fx_ μ q (np_ μ q)
section VP
variable {Po : Int32 → mm_T → Prop} {μ : mm_T} {N k q : Nat}
/-- what is known of a pair's paths -/
def pt_ (μ : mm_T) : Prop := iv_lv μ ∧ ∀ q, q < 49 → np_ μ q ≤ 6 ∧ μ.1 12 q 2 = nI (np_ μ q) ∧ μ.1 36 0 q = nI (np_ μ q) ∧ ∀ t, t < np_ μ q → (∃ x, x ≤ 150 ∧ μ.1 13 q t = nI x ∧ μ.1 37 0 (6 * q + t) = nI x) ∧ μ.1 38 0 (6 * q + t) = μ.1 14 q t
theorem pt_of (h1 : iv_lv μ) (h2 : iv_lk N μ) : pt_ μ := by
  refine ⟨h1, fun q hq => ?_⟩
  obtain ⟨⟨P, p1, p2, p3, p4⟩, -⟩ := h2 q hq
  have : np_ μ q = P := by unfold np_; rw [p2, nI_clamp (by omega)]
  rw [this]
  exact ⟨p1, p2, p3, p4⟩
theorem fx_b (h : pt_ μ) (hq : q < 49) : ∀ n, n ≤ np_ μ q → fx_ μ q n = -1 ∨ ∃ x, x ≤ 150 ∧ fx_ μ q n = nI x
  | 0, _ => Or.inl rfl
  | n + 1, hn => by
    obtain ⟨-, -, -, p⟩ := h.2 q hq
    obtain ⟨⟨x, x1, x2, -⟩, -⟩ := p n (by omega)
    have ih := fx_b h hq n (by omega)
    unfold fx_
    split
    · exact ih
    · split
      · exact Or.inr ⟨x, x1, x2⟩
      · split
        · exact ih
        · exact Or.inr ⟨x, x1, x2⟩
theorem c_least (h : pt_ μ) (hq : q < 49) (hP : Po (fe_ μ q) μ) : pX4_leastExtra Po μ q (μ.1 6 0 3) := by
  obtain ⟨p1, p2, p3, p4⟩ := h.2 q hq
  unfold pX4_leastExtra
  refine ⟨hq, lp_up (np_ μ q) (fun j t => t = (μ, q, μ.1 6 0 3, fx_ μ q j, nI j)) ?_ 0 (by omega) _ rfl⟩
  intro j t hj hI K hK
  subst hI
  unfold pX4_leastExtra_l4
  refine ⟨hq, ?_⟩
  rw [p2]
  rcases Nat.eq_or_lt_of_le hj with e | hlt
  · refine (iT (nI_le (by omega) (by omega))).mpr ?_
    rw [e]
    exact hP
  · have v : vp_in (nI j) 6 := vp_in_nI (by omega) (by omega)
    have cl := nI_clamp (show j < 2 ^ 31 by omega)
    have nx : nI j + 1 = nI (j + 1) := nI_1 j
    refine (iF (nI_ge hlt (by omega))).mpr ((iF (show ¬ nI 6 ≤ nI j from nI_ge (by omega) (by omega))).mpr ⟨v, ?_⟩)
    simp only [cl, nx, pX4_leastExtra_b43]
    replace hK := hK hlt
    by_cases b1 : μ.1 14 q j < μ.1 6 0 3
    · exact (iT b1).mpr (hK _ (by simp [fx_, b1]))
    refine (iF b1).mpr ?_
    by_cases b2 : fx_ μ q j = -1
    · refine (iT b2).mpr ⟨hq, v, fun x hx => hK _ ?_⟩
      subst hx
      simp [fx_, b1, b2]
    refine (iF b2).mpr ⟨v, ?_⟩
    by_cases b3 : fx_ μ q j ≤ μ.1 13 q j
    · exact (iT b3).mpr (hK _ (by simp [fx_, b1, b2, b3]))
    · refine (iF b3).mpr ⟨hq, v, fun x hx => hK _ ?_⟩
      subst hx
      simp [fx_, b1, b2, b3]
theorem m_first {t a : Nat} (h : pt_ μ) (ht : t < 7) (ha : a < 7) (hP : Po (fe_ μ (7 * t + a)) μ) : pX11_firstExtra Po μ (nI t) (nI a) := by
  have hq : 7 * t + a < 49 := by omega
  obtain ⟨⟨⟨lv, lv1, lv2, lv3, lv4⟩, -⟩, h⟩ := h
  obtain ⟨p1, p2, p3, p4⟩ := h _ hq
  unfold pX11_firstExtra
  refine (q_pair ht ha).mpr ?_
  generalize 7 * t + a = q at *
  refine lp_up (np_ μ q) (fun j t => t = (μ, nI q, fx_ μ q j, nI j)) ?_ 0 (by omega) _ rfl
  intro j t hj hI K hK
  subst hI
  unfold pX11_firstExtra_l12
  refine ⟨vp_in_nI hq (by omega), ?_⟩
  simp only [nI_clamp (show q < 2 ^ 31 by omega), p3]
  rcases Nat.eq_or_lt_of_le hj with e | hlt
  · refine (iT (nI_le (by omega) (by omega))).mpr ?_
    rw [e]
    exact hP
  · have e6 : (6 : Int32) * nI q + nI j = nI (6 * q + j) := by rw [show (6 : Int32) = nI 6 from rfl, pk_mul, nI_add]
    have v : vp_in (nI (6 * q + j)) 294 := vp_in_nI (by omega) (by omega)
    have cl := nI_clamp (show 6 * q + j < 2 ^ 31 by omega)
    have nx : nI j + 1 = nI (j + 1) := nI_1 j
    obtain ⟨⟨x, x1, x2, x3⟩, x4⟩ := p4 j hlt
    refine (iF (nI_ge hlt (by omega))).mpr ?_
    rw [e6]
    refine ⟨v, ?_⟩
    intro y hy
    refine ⟨v, ?_⟩
    rw [cl, x3, ← x2] at hy
    subst hy
    simp only [cl, nx, x4, lv4, ← lv3, pX11_firstExtra_b73, pX11_firstExtra_b69, pX11_firstExtra_b74]
    replace hK := hK hlt
    by_cases b1 : μ.1 14 q j < μ.1 6 0 3
    · exact (iT b1).mpr ((iT trivial).mpr (hK _ (by simp [fx_, b1])))
    refine (iF b1).mpr ?_
    by_cases b2 : fx_ μ q j = -1
    · exact (iT b2).mpr (i1.mpr (hK _ (by simp [fx_, b1, b2])))
    refine (iF b2).mpr ?_
    by_cases b3 : fx_ μ q j ≤ μ.1 13 q j
    · exact (iT b3).mpr ((iT trivial).mpr (hK _ (by simp [fx_, b1, b2, b3])))
    · exact (iF b3).mpr (i1.mpr (hK _ (by simp [fx_, b1, b2, b3])))
end VP
theorem c_firstPath {Po : Int32 → mm_T → Prop} {μ : mm_T} {N k t a : Nat} (h : Iv_ N k μ) (ht : t < N) (ha : a < N) (h1 : is_t μ t) (h2 : is_a μ a) (hP : Po (fe_ μ (7 * t + a)) μ) : pX10_firstPath Po μ (nI t) (nI a) := by
  obtain ⟨hp, h7, hk, sq, hN, hM, la, f1, f2, f3, f4, f5, f6, f7, f8⟩ := h
  unfold pX10_firstPath
  exact (q_pr_t hN h7 ht ha h1 h2).mpr (j1.mpr ((q_link (by omega) (by omega)).mpr ⟨by omega, c_least (pt_of f5 f6) (by omega) hP⟩))
theorem st_firstPath (k : Nat) (μ : mm_T) (h : Inv_ k μ) (hk : k ≤ 600) (x y : Int32) : so_firstPath (Inv_ k) μ x y := by
  obtain ⟨N, h7, hN, hM, hd, hI⟩ := Iv_of h hk
  unfold so_firstPath
  by_cases b : pr_ N μ x y
  · obtain ⟨t, a, ht, ha, h1, h2, rfl, rfl⟩ := b
    replace hI := hI.resolve_left (by omega)
    refine c_firstPath hI ht ha h1 h2 ?_
    obtain ⟨hp, h7, hk, sq, hN, hM, la, f1, f2, f3, f4, f5, f6, f7, f8⟩ := hI
    unfold pX11_firstPath
    exact (q_mp_t hM h7 hd ht ha h1 h2).mpr (i1.mpr (m_first (pt_of f5 f6) (by omega) (by omega) ⟨rfl, h⟩))
  · unfold pX10_firstPath pX11_firstPath
    exact (q_pr_f hN h7 hd b).mpr (j0.mpr ((q_mp_f hM h7 hd b).mpr (i0.mpr ⟨rfl, h⟩)))
theorem st_path (k : Nat) (μ : mm_T) (h : Inv_ k μ) (x y z u : Int32) : so_path (Inv_ k) μ x y z u := by
  have h0 := h
  obtain ⟨pg, ct, sq, N, h7, hN, hM, la, fd⟩ := h
  have hd : iv_nd N μ := iv_nd0 fd
  unfold so_path pX10_path pX11_path
  by_cases b : pr_ N μ x y
  · obtain ⟨t, a, ht, ha, h1, h2, rfl, rfl⟩ := b
    obtain ⟨f1, f2, f3, f4, f5, f6, f7, f8⟩ := fd (by omega)
    refine (q_pr_t hN h7 ht ha h1 h2).mpr (j1.mpr ?_)
    have M {Po : Int32 → mm_T → Prop} : Po 1 μ → pX11_isPair Po μ (nI t) (nI a) := (q_mp_t hM h7 hd ht ha h1 h2).mpr
    by_cases b1 : z < 0
    · exact (iT b1).mpr (M (j1.mpr ((q_win_f (Or.inl b1)).mpr (i0.mpr ⟨rfl, h0⟩))))
    refine (iF b1).mpr ?_
    by_cases b2 : 150 < z
    · exact (iT b2).mpr (M (j1.mpr ((q_win_f (Or.inr b2)).mpr (i0.mpr ⟨rfl, h0⟩))))
    refine (iF b2).mpr ?_
    have W {Po : Int32 → mm_T → Prop} {μ : mm_T} : Po 1 μ → pX11_within Po μ z 0 150 := (q_win_t (Int32.not_lt.mp b1) (Int32.not_lt.mp b2)).mpr
    by_cases b3 : u < 1
    · exact (iT b3).mpr (M (j1.mpr (W (i1.mpr ((q_win_f (Or.inl b3)).mpr (j0.mpr ⟨rfl, h0⟩))))))
    refine (iF b3).mpr ?_
    by_cases b4 : u ≤ 9
    · refine (iT b4).mpr ?_
      have W2 {Po : Int32 → mm_T → Prop} {μ : mm_T} : Po 1 μ → pX11_within Po μ u 1 9 := (q_win_t (Int32.not_lt.mp b3) b4).mpr
      obtain ⟨e, he, rfl⟩ := nI_of b1
      have c2 : e ≤ 150 := Nat.le_of_not_lt (fun q => b2 (nI_lt (a := 150) q he))
      have hq : 7 * t + a < 49 := by omega
      obtain ⟨⟨P, p1, p2, p3, p4⟩, -⟩ := f6 (7 * t + a) hq
      refine (q_link (by omega) (by omega)).mpr ⟨hq, ?_⟩
      rw [p2]
      rcases Nat.eq_or_lt_of_le p1 with e6 | hlt
      · subst e6
        refine (iF (by decide)).mpr (M (j1.mpr (W (i1.mpr (W2 (j1.mpr ((q_pair (by omega) (by omega)).mpr ⟨vp_in_nI hq (by omega), (jT ?_).mpr ⟨rfl, h0⟩⟩)))))))
        rw [nI_clamp (show 7 * t + a < 2 ^ 31 by omega), p3]
        rfl
      · have clP := nI_clamp (show P < 2 ^ 31 by omega)
        have clq := nI_clamp (show 7 * t + a < 2 ^ 31 by omega)
        refine (iT (nI_lt (b := 6) hlt (by omega))).mpr ?_
        unfold pX4_add
        rw [p2, clP]
        refine ⟨hq, (iF (show ¬ nI 6 ≤ nI P from nI_ge hlt (by omega))).mpr ⟨vp_in_nI hlt (by omega), ?_⟩⟩
        intro μ1 e1
        have r1 : μ1.1 12 (7 * t + a) 2 = nI P := by rw [e1, mm_Ir]; simpa using p2
        rw [r1, clP]
        refine ⟨vp_in_nI hlt (by omega), ?_⟩
        intro μ2 e2 μ3 e3
        have r2 : μ2.1 12 (7 * t + a) 2 = nI P := by rw [e2, mm_Ir]; simpa using r1
        rw [r2, nI_1] at e3
        subst e1; subst e2; subst e3
        refine (q_mp_t (N := N) (by simpa [mm_Ir] using hM) h7 (by simpa [iv_nd, mm_Ir] using f1) ht ha (by simpa [is_t, mm_Ir] using h1) (by simpa [is_a, mm_Ir] using h2)).mpr (j1.mpr (W (i1.mpr (W2 (j1.mpr ((q_pair (by omega) (by omega)).mpr ⟨vp_in_nI hq (by omega), ?_⟩))))))
        have e36 : ∀ v : Int32, (6 : Int32) * nI (7 * t + a) + nI P = nI (6 * (7 * t + a) + P) := fun _ => by rw [show (6 : Int32) = nI 6 from rfl, pk_mul, nI_add]
        have c36 := nI_clamp (show 6 * (7 * t + a) + P < 2 ^ 31 by omega)
        have v6 : vp_in (nI (6 * (7 * t + a) + P)) 294 := vp_in_nI (by omega) (by omega)
        rw [clq]
        refine (jF ?_).mpr ⟨vp_in_nI hq (by omega), ?_⟩
        · simp only [mm_Ir]
          simp [p3]
          exact fun q => absurd (ni_inj (by omega) (by omega) (show nI P = nI 6 from q)) (by omega)
        have r3 : (mm_I (mm_I (mm_I μ 13 (7 * t + a) P (nI e)) 14 (7 * t + a) P u) 12 (7 * t + a) 2 (nI (P + 1))).1 36 0 (7 * t + a) = nI P := by simpa [mm_Ir] using p3
        rw [r3, e36 0, c36]
        refine ⟨v6, ?_⟩
        intro μ4 e4
        refine ⟨vp_in_nI hq (by omega), ?_⟩
        have r4 : μ4.1 36 0 (7 * t + a) = nI P := by rw [e4, mm_Ir, r3]; simp
        rw [r4, e36 0, c36]
        refine ⟨v6, ?_⟩
        intro μ5 e5
        refine ⟨vp_in_nI hq (by omega), vp_in_nI hq (by omega), ?_⟩
        intro μ6 e6
        refine ⟨vp_in_nI hq (by omega), ?_⟩
        have r5 : μ5.1 36 0 (7 * t + a) = nI P := by rw [e5, mm_Ir, r4]; simp
        rw [r5, nI_1] at e6
        subst e6; subst e5; subst e4
        refine ⟨by simp [mm_Ir], by simpa [iv_pg, mm_Ir] using pg, by simpa [iv_ct, mm_Ir] using ct, by simpa [iv_sq, mm_Ir] using sq, N, h7, by simpa [mm_Ir] using hN, by simpa [mm_Ir] using hM, by simpa [iv_la, is_t, is_a, fl_, nx_, ny_, mm_Ir, mm_I2] using la, fun hp => ?_⟩
        refine ⟨by simpa [iv_nd, mm_Ir] using f1, by simpa [iv_tg, is_t, is_a, mm_Ir] using f2, by simpa [iv_ta, is_t, is_a, mm_Ir] using f3, by simpa [iv_tm, mm_Ir, mm_I2] using f4, by simpa [iv_lv, mm_Ir] using f5, ?_, by simpa [iv_sl, is_t, is_a, mm_Ir] using f7, pl_c ?_ ?_ ?_ ?_ ?_ ?_ ?_ f8⟩
        · intro q hq2
          obtain ⟨g1, g2⟩ := f6 q hq2
          refine ⟨?_, by simpa [is_t, is_a, mm_Ir] using g2⟩
          by_cases eq : q = 7 * t + a
          · refine ⟨P + 1, by omega, by simp [mm_Ir, eq], by simp [mm_Ir, eq], fun s hs => ?_⟩
            by_cases es : s = P
            · exact ⟨⟨e, c2, by simp [mm_Ir, eq, es], by simp [mm_Ir, eq, es]⟩, by simp [mm_Ir, eq, es]⟩
            · obtain ⟨⟨x, x1, x2, x3⟩, x4⟩ := p4 s (by omega)
              exact ⟨⟨x, x1, by simp [mm_Ir, eq, es, x2], by simp [mm_Ir, eq, es, x3]⟩, by simp [mm_Ir, eq, es, x4]⟩
          · obtain ⟨Q, q1, q2, q3, q4⟩ := g1
            refine ⟨Q, q1, by simp [mm_Ir, eq, q2], by simp [mm_Ir, eq, q3], fun s hs => ?_⟩
            have ne : ¬ 6 * q + s = 6 * (7 * t + a) + P := by omega
            obtain ⟨⟨x, x1, x2, x3⟩, x4⟩ := q4 s hs
            exact ⟨⟨x, x1, by simp [mm_Ir, eq, x2], by simp [mm_Ir, ne, x3]⟩, by simp [mm_Ir, eq, ne, x4]⟩
        all_goals simp [mm_Ir]
    · exact (iF b4).mpr (M (j1.mpr (W (i1.mpr ((q_win_f (Or.inr (Int32.not_le.mp b4))).mpr (j0.mpr ⟨rfl, h0⟩))))))
  · exact (q_pr_f hN h7 hd b).mpr (j0.mpr ((q_mp_f hM h7 hd b).mpr (j0.mpr ⟨rfl, h0⟩)))
