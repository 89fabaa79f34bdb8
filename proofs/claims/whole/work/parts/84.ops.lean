/-! misfit, placed, about -/
theorem inv_cp {N k : Nat} {μ m : mm_T} (h : fmi_ cp_ μ m) (hi : Inv_ k μ) (hN0 : μ.1 6 0 1 = nI N) (h70 : N ≤ 7) (pl : iv_pl N m) : Inv_ k m := by
  obtain ⟨pg, ct, sq, N', h7, hN, hM, la, fd⟩ := hi
  have eN : N' = N := ni_inj (by omega) (by omega) (hN.symm.trans hN0)
  subst eN
  have e (a : Nat) (ha : ¬ ((21 ≤ a ∧ a ≤ 25) ∨ a = 10)) : ∀ b c, m.1 a b c = μ.1 a b c := fun b c => h.1 a b c ha
  have l : m.2 = μ.2 := h.2
  have e9 := e 9 (by omega)
  have e6 := e 6 (by omega)
  have e26 := e 26 (by omega)
  have e12 := e 12 (by omega)
  refine ⟨by simpa only [iv_pg, e 1 (by omega), e 2 (by omega), e 27 (by omega), e26] using pg, by simpa only [iv_ct, e 0 (by omega), e26] using ct, by simpa only [iv_sq, e 20 (by omega)] using sq, N', h7, by rw [e6]; exact hN, by rw [e26]; exact hM, by simpa only [iv_la, is_t, is_a, fl_, nx_, ny_, e9, e 15 (by omega), e 42 (by omega), e 43 (by omega), l, e26] using la, fun hp => ?_⟩
  obtain ⟨f1, f2, f3, f4, f5, f6, f7, f8⟩ := fd hp
  exact ⟨by simpa only [iv_nd, e9, e 28 (by omega), e 29 (by omega), e 30 (by omega), e 31 (by omega), e 32 (by omega), e 33 (by omega)] using f1, by simpa only [iv_tg, is_t, is_a, e9, e 34 (by omega), e 35 (by omega)] using f2, by simpa only [iv_ta, is_t, is_a, e9] using f3, by simpa only [iv_tm, l, e26] using f4, by simpa only [iv_lv, e6, e26] using f5, by simpa only [iv_lk, is_t, is_a, e9, e12, e 13 (by omega), e 14 (by omega), e 36 (by omega), e 37 (by omega), e 38 (by omega), e 39 (by omega), e 40 (by omega)] using f6, by simpa only [iv_sl, is_t, is_a, e9, e 18 (by omega), e 41 (by omega)] using f7, pl⟩
theorem cf_sE {μ m : mm_T} (h : fmi_ cf_ μ m) : sE μ m := ⟨fun a b c q => h.1 a b c (fun p => q (by unfold cf_ at p; unfold scr_; omega)), fun a b c _ => by rw [h.2]⟩
theorem Iv_N {k N : Nat} {μ : mm_T} (h : Inv_ k μ) (hk : k ≤ 600) (hN : μ.1 6 0 1 = nI N) (h7 : N ≤ 7) (hp : 0 < N) : Iv_ N k μ := by
  obtain ⟨N', a1, a2, a3, a4, a5⟩ := Iv_of h hk
  have : N' = N := ni_inj (by omega) (by omega) (a2.symm.trans hN)
  subst this
  exact a5.resolve_left (by omega)
theorem st_misfit (k : Nat) (μ : mm_T) (h : Inv_ k μ) (hk : k ≤ 600) (x y z : Int32) : so_misfit (Inv_ k) μ x y z := by
  obtain ⟨N, h7, hN, hM, hd, hI⟩ := Iv_of h hk
  unfold so_misfit pX10_misfit pX11_misfit
  rcases nn_cases N x with ⟨t, ht, rfl⟩ | hx
  rotate_left
  · exact (q_tag_f hN h7 hx).mpr (j0.mpr ((q_nd_f hM h7 hx).mpr (i0.mpr ⟨rfl, h⟩)))
  replace hI := hI.resolve_left (by omega)
  have v : vp_in (nI t) 7 := vp_in_nI (by omega) (by omega)
  have cl := nI_clamp (show t < 2 ^ 31 by omega)
  rcases ta_cases hd ht with h1 | h1
  · refine (q_tag_a hN h7 ht h1).mpr (j0.mpr ((q_nd_t hM h7 ht).mpr (i1.mpr ⟨v, ?_⟩)))
    rw [cl]
    exact (jT ((hd t ht).2.1.trans h1)).mpr ⟨rfl, h⟩
  have e28 : ¬ μ.1 28 0 t = 0 := by rw [(hd t ht).2.1, show μ.1 9 t 0 = 1 from h1]; decide
  refine (q_tag_t hN h7 ht h1).mpr (j1.mpr ?_)
  have out : (y < 0 ∨ 31 < y ∨ z < 0 ∨ 31 < z) → pX11_isNode (fun r2 μ1 => (r2 = 0 → (-1000002 : Int32) = -1000001 ∧ Inv_ k μ1) ∧ (¬ (r2 = 0) → (vp_in (nI t) 7) ∧ ((¬ (μ1.1 28 0 (nI t).toNatClampNeg) = 0 → pX11_within (fun r5 μ4 => (r5 = 0 → (-1000002 : Int32) = -1000002 ∧ Inv_ k μ4) ∧ (¬ (r5 = 0) → pX11_within (fun r7 μ6 => (r7 = 0 → (-1000002 : Int32) = -1000002 ∧ Inv_ k μ6) ∧ (¬ (r7 = 0) → pX11_rangedBy (fun r9 μ8 => pX11_misfitBy (fun r11 μ10 => (-1000002 : Int32) = r11 ∧ Inv_ k μ10) μ8 (nI t) r9 y z) μ6 (nI t))) μ4 z (0 : Int32) (31 : Int32))) μ1 y (0 : Int32) (31 : Int32)) ∧ ((μ1.1 28 0 (nI t).toNatClampNeg) = 0 → (-1000002 : Int32) = -1000001 ∧ Inv_ k μ1)))) μ (nI t) := by
    intro q
    refine (q_nd_t hM h7 ht).mpr (i1.mpr ⟨v, ?_⟩)
    rw [cl]
    refine (jF e28).mpr ?_
    by_cases b1 : y < 0
    · exact (q_win_f (Or.inl b1)).mpr (i0.mpr ⟨rfl, h⟩)
    by_cases b2 : 31 < y
    · exact (q_win_f (Or.inr b2)).mpr (i0.mpr ⟨rfl, h⟩)
    refine (q_win_t (Int32.not_lt.mp b1) (Int32.not_lt.mp b2)).mpr (i1.mpr ((q_win_f ?_).mpr (i0.mpr ⟨rfl, h⟩)))
    rcases q with q | q | q | q
    · exact absurd q b1
    · exact absurd q b2
    · exact Or.inl q
    · exact Or.inr q
  have c32 : ∀ {u : Int32}, ¬ u < 0 → ((32 : Int32) ≤ u → 31 < u) ∧ (¬ (32 : Int32) ≤ u → ∃ n, n < 32 ∧ u = nI n) := by
    intro u hu
    obtain ⟨n, hn, rfl⟩ := nI_of hu
    refine ⟨fun q => nI_lt (a := 31) (by have := (nI_leI (a := 32) (by omega) hn).mp q; omega) hn, fun q => ⟨n, ?_, rfl⟩⟩
    exact Nat.lt_of_not_le (fun z => q (nI_le (a := 32) z hn))
  by_cases b1 : y < 0
  · exact (iT b1).mpr (out (Or.inl b1))
  refine (iF b1).mpr ?_
  by_cases b2 : 32 ≤ y
  · exact (iT b2).mpr (out (Or.inr (Or.inl ((c32 b1).1 b2))))
  refine (iF b2).mpr ?_
  by_cases b3 : z < 0
  · exact (iT b3).mpr (out (Or.inr (Or.inr (Or.inl b3))))
  refine (iF b3).mpr ?_
  by_cases b4 : z < 32
  rotate_left
  · exact (iF b4).mpr (out (Or.inr (Or.inr (Or.inr ((c32 b3).1 (Int32.not_lt.mp b4))))))
  refine (iT b4).mpr ?_
  obtain ⟨xx, hxx, rfl⟩ := (c32 b1).2 b2
  obtain ⟨yy, hyy, rfl⟩ := (c32 b3).2 (Int32.not_le.mpr b4)
  obtain ⟨hp, -, -, sq, -, -, la, f1, f2, f3, f4, f5, f6, f7, f8⟩ := id hI
  obtain ⟨Gr, -⟩ := Gd_ra (k := k) h7 ht h1 f6
  have p1 : (32 * yy + xx) % 32 = xx := by omega
  have p2 : (32 * yy + xx) / 32 = yy := by omega
  refine c_fitting hN h7 ht h1 f6 ?_
  intro w F Fr hw
  refine ⟨rfl, ?_⟩
  have C := fun (Po : Int32 → mm_T → Prop) (hP : Po (Int32.ofInt (ms_ (df_ μ t) (ra_ μ N t) (32 * yy + xx))) w) => c_misfitAt (Po := Po) (p := 32 * yy + xx) f1 sq F Gr Fr hw (by omega) hP
  rw [p1, p2] at C
  refine C _ ?_
  have Iw : Inv_ k w := inv_sE (cf_sE F) h
  have w6 : w.1 6 0 1 = nI N := (F.1 6 0 1 (by unfold cf_; omega)).trans hN
  have Jw := Iv_N Iw hk w6 h7 hp
  obtain ⟨-, -, -, -, -, hMw, -, g1, g2, g3, g4, g5, g6, g7, g8⟩ := id Jw
  have hti : is_t w t := by unfold is_t; rw [F.1 9 t 0 (by unfold cf_; omega)]; exact h1
  obtain ⟨Gw, -⟩ := Gd_ra (k := k) h7 ht hti g6
  have dE : df_ w t = df_ μ t := by
    funext p j
    simp only [df_, nx_, ny_, F.1 9 _ _ (show ¬ cf_ 9 _ by unfold cf_; omega), F.1 12 _ _ (show ¬ cf_ 12 _ by unfold cf_; omega)]
  have rE : ra_ w N t = ra_ μ N t := rs_c N (fun j _ => F.1 12 (7 * t + j) 3 (by unfold cf_; omega))
  refine (q_nd_t hMw h7 ht).mpr (i1.mpr ⟨v, ?_⟩)
  rw [cl]
  refine (jF ?_).mpr ((q_win_t (nI_pos' (by omega)) (nI_le (b := 31) (by omega) (by omega))).mpr (i1.mpr ((q_win_t (nI_pos' (by omega)) (nI_le (b := 31) (by omega) (by omega))).mpr (i1.mpr (m_ranged g1 h7 hMw ht hti g6 ?_)))))
  · rw [(g1 t ht).2.1, show w.1 9 t 0 = 1 from hti]; decide
  have M := fun (Po : Int32 → mm_T → Prop) (hP : Po (Int32.ofInt (ms_ (df_ w t) (ra_ w N t) (32 * yy + xx))) w) => m_misfitBy (Po := Po) (p := 32 * yy + xx) g1 h7 hMw (show t < 7 by omega) Gw (by omega) hP
  rw [p1, p2] at M
  refine M _ ⟨?_, Iw⟩
  rw [dE, rE]
theorem c_tell7 {Po : Int32 → mm_T → Prop} {m : mm_T} {t w : Nat} {x : Int32} (ht : t < 7) (hw : w < 5) (e : m.1 10 t (w + 1) = x) (hP : Po x m) : pX7_tell Po m t (nI w) := by
  unfold pX7_tell
  refine ⟨ht, ?_⟩
  rcases (show w = 0 ∨ w = 1 ∨ w = 2 ∨ w = 3 ∨ w = 4 by omega) with rfl | rfl | rfl | rfl | rfl
  · exact ⟨fun _ => by rw [e]; exact hP, fun q => absurd q (by decide), fun q => absurd q (by decide), fun q => absurd q (by decide), fun q => absurd q (by decide), fun q => absurd rfl q⟩
  · exact ⟨fun q => absurd q (by decide), fun _ => by rw [e]; exact hP, fun q => absurd q (by decide), fun q => absurd q (by decide), fun q => absurd q (by decide), fun _ q => absurd rfl q⟩
  · exact ⟨fun q => absurd q (by decide), fun q => absurd q (by decide), fun _ => by rw [e]; exact hP, fun q => absurd q (by decide), fun q => absurd q (by decide), fun _ _ q => absurd rfl q⟩
  · exact ⟨fun q => absurd q (by decide), fun q => absurd q (by decide), fun q => absurd q (by decide), fun _ => by rw [e]; exact hP, fun q => absurd q (by decide), fun _ _ _ q => absurd rfl q⟩
  · exact ⟨fun q => absurd q (by decide), fun q => absurd q (by decide), fun q => absurd q (by decide), fun q => absurd q (by decide), fun _ => by rw [e]; exact hP, fun _ _ _ _ q => absurd rfl q⟩
theorem pd_01 (μ : mm_T) (N i : Nat) : pd_ μ N i = 0 ∨ pd_ μ N i = 1 := by
  unfold pd_
  split
  · exact Or.inr rfl
  · exact Or.inl rfl
theorem cp_pd {μ m : mm_T} (h : fmi_ cp_ μ m) : pd_ m = pd_ μ := by
  funext N i
  have : (fun j => m.1 12 (7 * i + j) 3) = fun j => μ.1 12 (7 * i + j) 3 := by
    funext j
    exact h.1 12 _ 3 (by unfold cp_; omega)
  unfold pd_
  rw [this]
theorem st_placed (k : Nat) (μ : mm_T) (h : Inv_ k μ) (hk : k ≤ 600) (x y : Int32) : so_placed (Inv_ k) μ x y := by
  obtain ⟨N, h7, hN, hM, hd, hI⟩ := Iv_of h hk
  unfold so_placed pX10_placed pX11_placed
  rcases nn_cases N x with ⟨t, ht, rfl⟩ | hx
  rotate_left
  · exact (q_tag_f hN h7 hx).mpr (j0.mpr ((q_nd_f hM h7 hx).mpr (i0.mpr ⟨rfl, h⟩)))
  replace hI := hI.resolve_left (by omega)
  have v : vp_in (nI t) 7 := vp_in_nI (by omega) (by omega)
  have cl := nI_clamp (show t < 2 ^ 31 by omega)
  rcases ta_cases hd ht with h1 | h1
  · refine (q_tag_a hN h7 ht h1).mpr (j0.mpr ((q_nd_t hM h7 ht).mpr (i1.mpr ⟨v, ?_⟩)))
    rw [cl]
    exact (jT ((hd t ht).2.1.trans h1)).mpr ⟨rfl, h⟩
  have e28 : ¬ μ.1 28 0 t = 0 := by rw [(hd t ht).2.1, show μ.1 9 t 0 = 1 from h1]; decide
  refine (q_tag_t hN h7 ht h1).mpr (j1.mpr ?_)
  by_cases b1 : y < 0
  · refine (iT b1).mpr ((q_nd_t hM h7 ht).mpr (i1.mpr ⟨v, ?_⟩))
    rw [cl]
    exact (jF e28).mpr ((q_win_f (Or.inl b1)).mpr (j0.mpr ⟨rfl, h⟩))
  refine (iF b1).mpr ?_
  by_cases b2 : y ≤ 4
  rotate_left
  · refine (iF b2).mpr ((q_nd_t hM h7 ht).mpr (i1.mpr ⟨v, ?_⟩))
    rw [cl]
    exact (jF e28).mpr ((q_win_f (Or.inr (Int32.not_le.mp b2))).mpr (j0.mpr ⟨rfl, h⟩))
  obtain ⟨w, hw, rfl⟩ := nI_of b1
  have w4 : w ≤ 4 := (nI_leI (b := 4) hw (by omega)).mp b2
  refine (iT b2).mpr (c_isPlaced hI ht ?_)
  rcases pd_01 μ N t with q | q
  · rw [q]
    refine (jT rfl).mpr ((q_nd_t hM h7 ht).mpr (i1.mpr ⟨v, ?_⟩))
    rw [cl]
    refine (jF e28).mpr ((q_win_t (nI_pos' hw) b2).mpr (j1.mpr (m_isPlaced hI ht h1 ?_)))
    rw [q]
    exact (iT rfl).mpr ⟨rfl, h⟩
  · rw [q]
    refine (jF (by decide)).mpr (c_placing hI ht h1 ?_)
    intro m Fm pl vals
    refine ⟨by omega, c_tell7 (by omega) (by omega) (vals w (by omega)) ?_⟩
    have Im := inv_cp Fm h hN h7 pl
    have m6 : m.1 6 0 1 = nI N := (Fm.1 6 0 1 (by unfold cp_; omega)).trans hN
    have Jm := Iv_N Im hk m6 h7 (by omega)
    have hti : is_t m t := by unfold is_t; rw [Fm.1 9 t 0 (by unfold cp_; omega)]; exact h1
    refine (q_nd_t Jm.2.2.2.2.2.1 h7 ht).mpr (i1.mpr ⟨v, ?_⟩)
    rw [cl]
    refine (jF (by rw [Fm.1 28 0 t (by unfold cp_; omega)]; exact e28)).mpr ((q_win_t (nI_pos' hw) b2).mpr (j1.mpr (m_isPlaced Jm ht hti ?_)))
    rw [cp_pd Fm, q]
    refine (iF (by decide)).mpr (m_placed Jm ht hti (by omega) ⟨?_, Im⟩)
    rw [(cp_pv Fm).2.2.2]
