def ml_ (a c : Nat) : Prop := (28 ≤ a ∧ a ≤ 41) ∨ (a = 26 ∧ (c = 2 ∨ (17 ≤ c ∧ c ≤ 20)))
def nm_ (rows : Nat → Nat → Int32) (m : mm_T) (i : Nat) : Prop := m.1 28 0 i = rows i 0 ∧ m.1 29 0 i = rows i 1 ∧ m.1 30 0 i = rows i 2 ∧ m.1 31 0 i = rows i 3 ∧ m.1 32 0 i = rows i 4 ∧ m.1 33 0 i = 100 ∧ m.1 34 0 i = 0
def lm0 (m : mm_T) (q : Nat) : Prop := m.1 36 0 q = 1 ∧ m.1 37 0 (6 * q) = 0 ∧ m.1 38 0 (6 * q) = 9 ∧ m.1 39 0 q = 0
def Ml_ (N : Nat) (rows : Nat → Nat → Int32) (m : mm_T) : Prop := m.1 26 0 2 = nI N ∧ (∀ i, i < N → nm_ rows m i ∧ m.1 35 0 i = nI (f0_ m N)) ∧ (∀ q, q < 49 → lm0 m q) ∧ (∀ s, s < 16 → m.1 41 0 s = -1) ∧ m.1 26 0 17 = 0 ∧ m.1 26 0 18 = 4 ∧ m.1 26 0 19 = 400 ∧ m.1 26 0 20 = 0
def k35 (a _c : Nat) : Prop := a = 35
def kn_ (a _c : Nat) : Prop := 28 ≤ a ∧ a ≤ 34
def kp_ (a _c : Nat) : Prop := 36 ≤ a ∧ a ≤ 39
theorem nd_of {N : Nat} {rows : Nat → Nat → Int32} {m : mm_T} (h1 : ∀ i, i < N → ns_ rows m i) (h2 : ∀ i, i < N → nm_ rows m i) (ro : ∀ i, i < N → rok rows i 5) : iv_nd N m := by
  intro i hi
  obtain ⟨a0, a1, a2, a3, a4, a5, a6⟩ := h1 i hi
  obtain ⟨b0, b1, b2, b3, b4, b5, b6⟩ := h2 i hi
  obtain ⟨r0, r1, r2, r3, r4⟩ := ro i hi
  obtain ⟨x, x1, x2⟩ := r1 (by omega)
  obtain ⟨y, y1, y2⟩ := r2 (by omega)
  obtain ⟨s1, s2⟩ := r3 (by omega)
  obtain ⟨t, t1, t2⟩ := r4 (by omega)
  refine ⟨by rw [a0]; exact r0, by rw [b0, a0], ⟨x, x1, by rw [a1, x2], by rw [b1, x2]⟩, ⟨y, y1, by rw [a2, y2], by rw [b2, y2]⟩, ⟨by rw [b3, a3], by rw [a3]; exact s1, by rw [a3]; exact s2⟩, ⟨t, t1, by rw [a4, t2], by rw [b4, t2]⟩, 100, by omega, by omega, a5, b5⟩
theorem m_lay {Po : mm_T → Prop} {μ : mm_T} {N : Nat} {rows : Nat → Nat → Int32} (h7 : N ≤ 7) (hT : Tk_ N rows μ) (ro : ∀ i, i < N → rok rows i 5) (ta : iv_ta N μ) (h33 : μ.1 26 0 33 = nI N) (h44 : ∀ i, i < N → μ.1 44 0 i = rows i 0) (h45 : ∀ i, i < N → μ.1 45 0 i = rows i 1) (h46 : ∀ i, i < N → μ.1 46 0 i = rows i 2) (h47 : ∀ i, i < N → μ.1 47 0 i = rows i 3) (h48 : ∀ i, i < N → μ.1 48 0 i = rows i 4) (hP : ∀ m, fm_ ml_ μ m → Ml_ N rows m → Po m) : pX11_layField Po μ := by
  unfold pX11_layField
  intro m1 e1
  rw [h33] at e1
  have F1 : fm_ ml_ μ m1 := by rw [e1]; exact fm_.rf.I (by unfold ml_; omega)
  have s1 : m1.1 26 0 2 = nI N := by rw [e1, mm_Ir]; simp
  have x1 : ∀ a, a ≠ 26 → ∀ b k, m1.1 a b k = μ.1 a b k := fun a ha b k => by rw [e1, mm_Ir, if_neg (fun q => ha q.1)]
  /- nodes -/
  refine lp_up N (fun j x => x.2 = nI j ∧ fm_ kn_ m1 x.1 ∧ ∀ i, i < j → nm_ rows x.1 i) ?_ 0 (by omega) _ ?_
  rotate_left
  · exact ⟨rfl, fm_.rf, fun i hi => absurd hi (Nat.not_lt_zero i)⟩
  rintro j ⟨w, x⟩ hj ⟨i1', F, A⟩ K hK
  have i1' : x = nI j := i1'
  subst i1'
  unfold pX11_layField_l10
  have w1 : w.1 26 0 2 = nI N := (F.1 26 0 2 (by unfold kn_; omega)).trans s1
  show ((w.1 26 0 2) ≤ nI j → _) ∧ _
  rw [w1]
  rcases Nat.eq_or_lt_of_le hj with e | hlt
  rotate_left
  · refine (iF (nI_ge hlt (by omega))).mpr ?_
    have v : vp_in (nI j) 7 := vp_in_nI (by omega) (by omega)
    have o : ∀ a, 44 ≤ a → ∀ b k, w.1 a b k = μ.1 a b k := fun a ha b k => (F.1 a b k (by unfold kn_; omega)).trans (x1 a (by omega) b k)
    show pX11_layNode _ w (nI j)
    unfold pX11_layNode
    simp only [nI_clamp (show j < 2 ^ 31 by omega)]
    rw [o 44 (by omega), h44 j hlt]
    refine ⟨v, v, (ro j hlt).1, ?_⟩
    intro m4 e4
    refine ⟨v, v, ?_⟩
    intro m7 e7
    refine ⟨v, v, ?_⟩
    intro m10 e10
    refine ⟨v, v, ?_⟩
    intro m13 e13
    refine ⟨v, v, ?_⟩
    intro m16 e16
    refine ⟨v, ?_⟩
    intro m18 e18
    refine ⟨v, ?_⟩
    intro m20 e20
    have g4 : m4.1 45 0 j = rows j 1 := by rw [e4]; simp [mm_Ir]; rw [o 45 (by omega), h45 j hlt]
    rw [g4] at e7
    have g7 : m7.1 46 0 j = rows j 2 := by rw [e7, e4]; simp [mm_Ir]; rw [o 46 (by omega), h46 j hlt]
    rw [g7] at e10
    have g10 : m10.1 47 0 j = rows j 3 := by rw [e10, e7, e4]; simp [mm_Ir]; rw [o 47 (by omega), h47 j hlt]
    rw [g10] at e13
    have g13 : m13.1 48 0 j = rows j 4 := by rw [e13, e10, e7, e4]; simp [mm_Ir]; rw [o 48 (by omega), h48 j hlt]
    rw [g13] at e16
    refine hK hlt _ ⟨nI_1 j, ?_, fun i hi => ?_⟩
    · rw [e20, e18, e16, e13, e10, e7, e4]
      refine fm_.I (fm_.I (fm_.I (fm_.I (fm_.I (fm_.I (fm_.I F ?_) ?_) ?_) ?_) ?_) ?_) ?_
      all_goals (unfold kn_; omega)
    · show nm_ rows m20 i
      subst e20; subst e18; subst e16; subst e13; subst e10; subst e7; subst e4
      by_cases e : i = j
      · subst e
        unfold nm_
        simp [mm_Ir]
      · have := A i (by omega)
        unfold nm_ at *
        simpa [mm_Ir, e] using this
  refine (iT (show nI N ≤ nI j by rw [e]; exact Int32.le_refl _)).mpr ?_
  subst e
  clear hK K hj
  have F2 : fm_ ml_ μ w := F1.tr (F.mono (fun a c q => by unfold kn_ at q; unfold ml_; omega))
  have w9 : ∀ i k, w.1 9 i k = μ.1 9 i k := fun i k => F2.1 9 i k (by unfold ml_; omega)
  have ndw : iv_nd j w := by
    refine nd_of (rows := rows) (fun i hi => ?_) A ro
    have := (hT.2.1 i hi).1
    unfold ns_ at this ⊢
    rw [w9, w9, w9, w9, w9, w9, w9]
    exact this
  have taw : iv_ta j w := by simpa only [iv_ta, is_t, is_a, w9] using ta
  /- nexts -/
  refine lp_up j (fun i x => x.2 = nI i ∧ fm_ k35 w x.1 ∧ ∀ n, n < i → x.1.1 35 0 n = nI (f0_ w j)) ?_ 0 (by omega) _ ?_
  rotate_left
  · exact ⟨rfl, fm_.rf, fun i hi => absurd hi (Nat.not_lt_zero i)⟩
  rintro i ⟨u, x⟩ hi ⟨i1', G, B⟩ K hK
  have i1' : x = nI i := i1'
  subst i1'
  unfold pX11_layField_l31
  have u1 : u.1 26 0 2 = nI j := (G.1 26 0 2 (by unfold k35; omega)).trans w1
  have uo : ∀ a, a ≠ 35 → ∀ b k, u.1 a b k = w.1 a b k := fun a ha b k => G.1 a b k ha
  show ((u.1 26 0 2) ≤ nI i → _) ∧ _
  rw [u1]
  rcases Nat.eq_or_lt_of_le hi with e | hlt
  rotate_left
  · refine (iF (nI_ge hlt (by omega))).mpr ?_
    have ndu : iv_nd j u := by simpa only [iv_nd, uo 9 (by omega), uo 28 (by omega), uo 29 (by omega), uo 30 (by omega), uo 31 (by omega), uo 32 (by omega), uo 33 (by omega)] using ndw
    have tau : iv_ta j u := by simpa only [iv_ta, is_t, is_a, uo 9 (by omega)] using taw
    refine m_from (s := 0) (v := f0_ u j) u1 h7 ndu tau (by omega) ?_ ⟨vp_in_nI (by omega) (by omega), ?_⟩
    · rw [Nat.sub_zero, f0_s tau]
      rfl
    intro m21 e21
    have e21 : m21 = mm_I u 35 0 (nI i).toNatClampNeg (nI (f0_ u j)) := e21
    rw [nI_clamp (by omega), f0_c (fun i => uo 9 (by omega) i 0)] at e21
    refine hK hlt _ ⟨nI_1 i, by rw [e21]; exact G.I rfl, fun n hn => ?_⟩
    show m21.1 35 0 n = _
    rw [e21, mm_Ir]
    by_cases en : n = i
    · rw [if_pos ⟨rfl, rfl, en⟩]
    · rw [if_neg (fun q => en q.2.2)]
      exact B n (by omega)
  refine (iT (show nI j ≤ nI i by rw [e]; exact Int32.le_refl _)).mpr ?_
  subst e
  clear hK K hi
  have F3 : fm_ ml_ μ u := F2.tr (G.mono (fun a c q => by unfold k35 at q; unfold ml_; omega))
  /- pairs -/
  refine lp_up 49 (fun j x => x.2 = nI j ∧ fm_ kp_ u x.1 ∧ ∀ q, q < j → lm0 x.1 q) ?_ 0 (by omega) _ ?_
  rotate_left
  · exact ⟨rfl, fm_.rf, fun i hi => absurd hi (Nat.not_lt_zero i)⟩
  rintro j ⟨y, x⟩ hj ⟨i1', H, D⟩ K hK
  have i1' : x = nI j := i1'
  subst i1'
  unfold pX11_layField_l58
  rcases Nat.eq_or_lt_of_le hj with e | hlt
  rotate_left
  · refine (iF (show ¬ nI 49 ≤ nI j from nI_ge hlt (by omega))).mpr ?_
    have v : vp_in (nI j) 49 := vp_in_nI (by omega) (by omega)
    have e6 : (6 : Int32) * nI j = nI (6 * j) := by rw [show (6 : Int32) = nI 6 from rfl, pk_mul]
    have v6 : vp_in (nI (6 * j)) 294 := vp_in_nI (by omega) (by omega)
    show vp_in (nI j) 49 ∧ _
    simp only [e6, nI_clamp (show j < 2 ^ 31 by omega), nI_clamp (show 6 * j < 2 ^ 31 by omega)]
    refine ⟨v, ?_⟩
    intro m10 e10
    refine ⟨v6, ?_⟩
    intro m12 e12
    refine ⟨v6, ?_⟩
    intro m14 e14
    refine ⟨v, ?_⟩
    intro m16 e16
    refine hK hlt _ ⟨nI_1 j, ?_, fun q hq => ?_⟩
    · rw [e16, e14, e12, e10]
      refine fm_.I (fm_.I (fm_.I (fm_.I H ?_) ?_) ?_) ?_
      all_goals (unfold kp_; omega)
    · show lm0 m16 q
      subst e16; subst e14; subst e12; subst e10
      by_cases e : q = j
      · subst e
        unfold lm0
        simp [mm_Ir]
      · have := D q (by omega)
        have e2 : ¬ 6 * q = 6 * j := by omega
        unfold lm0 at *
        simpa [mm_Ir, e, e2] using this
  subst e
  refine (iT (show (49 : Int32) ≤ nI 49 by decide)).mpr ?_
  clear hK K hj
  have F4 : fm_ ml_ μ y := F3.tr (H.mono (fun a c q => by unfold kp_ at q; unfold ml_; omega))
  /- slots -/
  refine lp_up 16 (fun j x => x.2 = nI j ∧ fm_ d41 y x.1 ∧ ∀ s, s < j → x.1.1 41 0 s = -1) ?_ 0 (by omega) _ ?_
  rotate_left
  · exact ⟨rfl, fm_.rf, fun i hi => absurd hi (Nat.not_lt_zero i)⟩
  rintro j ⟨z, x⟩ hj ⟨i1', J, C⟩ K hK
  have i1' : x = nI j := i1'
  subst i1'
  unfold pX11_layField_l107
  rcases Nat.eq_or_lt_of_le hj with e | hlt
  rotate_left
  · refine (iF (show ¬ nI 16 ≤ nI j from nI_ge hlt (by omega))).mpr ⟨vp_in_nI (by omega) (by omega), ?_⟩
    intro m7 e7
    have e7 : m7 = mm_I z 41 0 (nI j).toNatClampNeg (-1) := e7
    rw [nI_clamp (by omega)] at e7
    refine hK hlt _ ⟨nI_1 j, by rw [e7]; exact J.I rfl, fun s hs => ?_⟩
    show m7.1 41 0 s = -1
    rw [e7, mm_Ir]
    by_cases e : s = j
    · rw [if_pos ⟨rfl, rfl, e⟩]
    · rw [if_neg (fun q => e q.2.2)]
      exact C s (by omega)
  subst e
  refine (iT (show (16 : Int32) ≤ nI 16 by decide)).mpr ?_
  clear hK K hj
  have F5 : fm_ ml_ μ z := F4.tr (J.mono (fun a c q => by unfold d41 at q; unfold ml_; omega))
  intro n2 g2 n3 g3 n4 g4 n5 g5
  have nE : ∀ a, a ≠ 26 → ∀ b k, n5.1 a b k = z.1 a b k := by
    intro a ha b k
    subst g5; subst g4; subst g3; subst g2
    simp [mm_Ir, ha]
  have zu : ∀ a, a < 36 → ∀ b k, z.1 a b k = u.1 a b k := fun a ha b k => (J.1 a b k (by unfold d41; omega)).trans (H.1 a b k (by unfold kp_; omega))
  have n9 : ∀ b k, n5.1 9 b k = w.1 9 b k := fun b k => (nE 9 (by omega) b k).trans ((zu 9 (by omega) b k).trans (uo 9 (by omega) b k))
  refine hP n5 ?_ ⟨?_, fun n hn => ⟨?_, ?_⟩, fun q hq => ?_, fun s hs => ?_, ?_, ?_, ?_, ?_⟩
  · rw [g5, g4, g3, g2]
    refine fm_.I (fm_.I (fm_.I (fm_.I F5 ?_) ?_) ?_) ?_
    all_goals (unfold ml_; omega)
  · subst g5; subst g4; subst g3; subst g2
    simp [mm_Ir]
    rw [zu 26 (by omega)]
    exact u1
  · have := A n hn
    unfold nm_ at this ⊢
    rw [nE 28 (by omega), nE 29 (by omega), nE 30 (by omega), nE 31 (by omega), nE 32 (by omega), nE 33 (by omega), nE 34 (by omega), zu 28 (by omega), zu 29 (by omega), zu 30 (by omega), zu 31 (by omega), zu 32 (by omega), zu 33 (by omega), zu 34 (by omega), uo 28 (by omega), uo 29 (by omega), uo 30 (by omega), uo 31 (by omega), uo 32 (by omega), uo 33 (by omega), uo 34 (by omega)]
    exact this
  · rw [nE 35 (by omega), zu 35 (by omega), f0_c (m := n5) (μ := w) (fun i => n9 i 0)]
    exact B n hn
  · have := D q hq
    unfold lm0 at this ⊢
    rw [nE 36 (by omega), nE 37 (by omega), nE 38 (by omega), nE 39 (by omega), J.1 36 0 q (by unfold d41; omega), J.1 37 0 (6 * q) (by unfold d41; omega), J.1 38 0 (6 * q) (by unfold d41; omega), J.1 39 0 q (by unfold d41; omega)]
    exact this
  · rw [nE 41 (by omega)]
    exact C s hs
  · subst g5; subst g4; subst g3; subst g2
    simp [mm_Ir]
  · subst g5; subst g4; subst g3; subst g2
    simp [mm_Ir]
  · subst g5; subst g4; subst g3; subst g2
    simp [mm_Ir]
  · subst g5; subst g4; subst g3; subst g2
    simp [mm_Ir]
theorem tc_pos {rows : Nat → Nat → Int32} : ∀ n, 0 < tc_ rows n → ∃ i, i < n ∧ rows i 0 = 1
  | 0, h => absurd h (Nat.lt_irrefl 0)
  | n + 1, h => by
    unfold tc_ at h
    by_cases e : rows n 0 = 1
    · exact ⟨n, by omega, e⟩
    · rw [if_neg e] at h
      obtain ⟨i, hi, q⟩ := tc_pos (rows := rows) n (by omega)
      exact ⟨i, by omega, q⟩
theorem tc_lt {rows : Nat → Nat → Int32} : ∀ n, tc_ rows n < n → ∃ i, i < n ∧ ¬ rows i 0 = 1
  | 0, h => absurd h (Nat.not_lt_zero _)
  | n + 1, h => by
    unfold tc_ at h
    by_cases e : rows n 0 = 1
    · rw [if_pos e] at h
      obtain ⟨i, hi, q⟩ := tc_lt (rows := rows) n (by omega)
      exact ⟨i, by omega, q⟩
    · exact ⟨n, by omega, e⟩
/-- all of a new field, from what both have laid -/
theorem inv_new {k L N : Nat} {rows : Nat → Nat → Int32} {m : mm_T} (h7 : N ≤ 7) (sq : iv_sq m) (ct : iv_ct m) (p1 : m.1 1 0 1 = 0) (p2 : m.1 26 0 0 = 0) (T : Tk_ N rows m) (M : Ml_ N rows m) (ro : ∀ i, i < N → rok rows i 5) (ta : iv_ta N m) : Inv_ k m := by
  obtain ⟨T1, T2, T3, T4, T5, T6, T7, T8, T9⟩ := T
  obtain ⟨M1, M2, M3, M4, M5, M6, M7, M8⟩ := M
  have z := af_s N 0 _ (f0_s ta)
  refine ⟨⟨0, by omega, p1, p2, fun k hk => absurd hk (Nat.not_lt_zero k)⟩, ct, sq, N, h7, T1, M1, Or.inl ⟨T7, M8⟩, fun hp => ⟨nd_of (fun i hi => (T2 i hi).1) (fun i hi => (M2 i hi).1) ro, fun i hi => ?_, ta, ⟨0, by omega, T4, M5⟩, ⟨⟨4, by omega, by omega, T5, M6⟩, 400, by omega, T6, M7⟩, fun q hq => ?_, fun s hs => ⟨(M4 s hs).trans (T8 s hs).symm, Or.inl (T8 s hs)⟩, fun t ht _ => Or.inl (T9 t (by omega))⟩⟩
  · obtain ⟨⟨a0, a1, a2, a3, a4, a5, a6⟩, a7⟩ := T2 i hi
    obtain ⟨⟨b0, b1, b2, b3, b4, b5, b6⟩, b7⟩ := M2 i hi
    refine ⟨fun q => ?_, fun q => ?_⟩
    · have q : m.1 9 i 0 = 1 := q
      have n0 : ¬ rows i 0 = 0 := by rw [← a0, q]; decide
      rw [if_neg n0] at a6 a7
      exact ⟨⟨0, Or.inl rfl, a6, b6⟩, f0_ m N, by omega, z.2.2, a7, b7⟩
    · have q : rows i 0 = 0 := a0.symm.trans q
      rw [if_pos q] at a6 a7
      exact ⟨a6, a7⟩
  · obtain ⟨c1, c2, c3, c4, c5⟩ := T3 q hq
    obtain ⟨d1, d2, d3, d4⟩ := M3 q hq
    refine ⟨⟨1, by omega, c1, d1, fun t ht => ?_⟩, Or.inl ⟨c4, d4, c5⟩⟩
    have : t = 0 := by omega
    subst this
    exact ⟨⟨0, by omega, c2, d2⟩, by rw [c3]; exact d3⟩
theorem st_field (k : Nat) (μ : mm_T) (h : Inv_ k μ) : so_field (Inv_ k) μ := by
  have h0 := h
  obtain ⟨L, l1, l2, l3, l4⟩ := h.1
  unfold so_field pX10_field
  refine c_read (lt := fun k => μ.1 2 0 k) l1 l2 (fun _ _ => rfl) ?_
  intro m Fm Pm
  obtain ⟨PKr, bf, -⟩ := rdg_ok (lt := fun k => μ.1 2 0 k) L 0 S0_ PK0 (by show 0 ≤ 0; omega)
  have rb := (rdg_ok (lt := fun k => μ.1 2 0 k) L 0 S0_ PK0 (by show 0 ≤ 0; omega)).2.2
  have mr : ∀ (w : mm_T) (Po : Int32 → mm_T → Prop), w.1 26 0 0 = nI L → (∀ k, k < L → w.1 27 0 k = μ.1 2 0 k) → (∀ v, fmi_ pm_ w v → PM (rdg (fun k => μ.1 2 0 k) L 0 S0_).2 v → Po (nI (rdg (fun k => μ.1 2 0 k) L 0 S0_).1) v) → pX11_read Po w := fun w Po a b hh => m_read l1 a b hh
  generalize hR : rdg (fun k => μ.1 2 0 k) L 0 S0_ = R at *
  obtain ⟨r, c, t, p, f, ng, rows⟩ := R
  have Pm : Pc_ c t p f ng rows m := Pm
  have ok : pok c t p f ng rows := PKr
  have bf : f ≤ 0 + L := bf
  have rb : r ≤ 0 + L := rb
  have mr : ∀ (w : mm_T) (Po : Int32 → mm_T → Prop), w.1 26 0 0 = nI L → (∀ k, k < L → w.1 27 0 k = μ.1 2 0 k) → (∀ v, fmi_ pm_ w v → Pm_ c t p f ng rows v → Po (nI r) v) → pX11_read Po w := mr
  have m1 : m.1 1 0 1 = nI L := (Fm.1 1 0 1 (by unfold pc_; omega)).trans l2
  have m26 : ∀ c, m.1 26 0 c = μ.1 26 0 c := fun c => Fm.1 26 0 c (by unfold pc_; omega)
  have m27 : ∀ c, m.1 27 0 c = μ.1 27 0 c := fun c => Fm.1 27 0 c (by unfold pc_; omega)
  have v26 : ∀ {w v : mm_T}, fmi_ pm_ w v → v.1 26 0 0 = w.1 26 0 0 := fun hf => hf.1 26 0 0 (by unfold pm_; omega)
  obtain ⟨R1, R2, R3, R4, R5, R6⟩ := id Pm
  obtain ⟨h1, h2, h3, ⟨v, v1, v2⟩, h4, h5, h6, h7, h8⟩ := id ok
  /- refused -/
  have no : ¬ (r = L ∧ p = 4 ∧ 0 < f ∧ 0 < t ∧ t < c + 1) → pX11_field (fun r2 μ2 => (-1000003 : Int32) = r2 ∧ Inv_ k μ2) m := by
    intro hno
    unfold pX11_field
    refine mr m _ ((m26 0).trans l3) (fun k hk => (m27 k).trans (l4 k hk)) ?_
    intro w Fw Pw
    have J : Inv_ k w := inv_sE ((pc_sE Fm).tr (pm_sE Fw)) h0
    have bad : pX11_field_b49 (fun r2 μ2 => (-1000003 : Int32) = r2 ∧ Inv_ k μ2) w := by
      unfold pX11_field_b49 pX11_field_b50
      exact j0.mpr ⟨rfl, J⟩
    obtain ⟨q1, q2, q3, q4, -⟩ := Pw
    rw [v26 Fw, m26 0, l3, q1]
    by_cases b1 : r = L
    · refine (jT (by rw [b1])).mpr ?_
      by_cases b2 : p = 4
      · refine (jT (by rw [b2]; rfl)).mpr ?_
        rw [q4 (by omega), q2, q3, if_neg (show ¬ p = 0 by omega)]
        by_cases b3 : f = 0
        · exact (iT (by rw [if_pos b3])).mpr bad
        · refine (iF (by rw [if_neg b3, v2]; exact nIm1 (by have : gr_ p ≤ 9999 := by rw [b2]; decide
                                                            omega))).mpr ?_
          by_cases b4 : t = 0
          · exact (iT (by rw [b4]; decide)).mpr bad
          · refine (iF (nI_nle (by omega) (by omega))).mpr ?_
            exact (iT (nI_le (by omega) (by omega))).mpr bad
      · exact (jF (fun q => b2 (ni_inj (b := 4) (by omega) (by omega) q))).mpr bad
    · exact (jF (fun q => b1 (ni_inj (by omega) (by omega) q))).mpr bad
  show (¬ nI r = m.1 1 0 1 → _) ∧ (nI r = m.1 1 0 1 → _)
  rw [m1]
  unfold pX10_field_b26
  by_cases b1 : r = L
  rotate_left
  · exact (jF (fun q => b1 (ni_inj (by omega) (by omega) q))).mpr (i0.mpr (no (fun q => b1 q.1)))
  refine (jT (by rw [b1])).mpr (i1.mpr ?_)
  unfold pX8_hasWholeField
  rw [R3]
  by_cases b2 : p = 4
  rotate_left
  · exact (jF (fun q => b2 (ni_inj (b := 4) (by omega) (by omega) q))).mpr (j0.mpr (no (fun q => b2 q.2.1)))
  refine (jT (by rw [b2]; rfl)).mpr ?_
  rw [R4]
  by_cases b3 : f = 0
  · exact (iT (by rw [b3]; decide)).mpr (j0.mpr (no (by omega)))
  refine (iF (nI_nle (by omega) (by omega))).mpr ?_
  rw [R2]
  by_cases b4 : t = 0
  · exact (iT (by rw [b4]; decide)).mpr (j0.mpr (no (by omega)))
  refine (iF (nI_nle (by omega) (by omega))).mpr ?_
  unfold pX8_nodeCount
  rw [R1, nI_1]
  by_cases b5 : t < c + 1
  rotate_left
  · exact (iT (nI_le (by omega) (by omega))).mpr (j0.mpr (no (by omega)))
  refine (iF (nI_ge b5 (by omega))).mpr (j1.mpr ?_)
  /- taken -/
  clear no
  subst b2
  have v9 : v ≤ 9999 := v1
  have ro : ∀ i, i < c + 1 → rok rows i 5 := by
    intro i hi
    by_cases e : i = c
    · subst e
      exact ⟨h7.1, fun _ => h7.2.1 (by omega), fun _ => h7.2.2.1 (by omega), fun _ => h7.2.2.2.1 (by omega), fun _ => ⟨v, by omega, v2⟩⟩
    · exact h6 i (by omega)
  have h01 : ∀ i, i ≤ c → rows i 0 = 0 ∨ rows i 0 = 1 := fun i hi => (ro i (by omega)).1
  obtain ⟨xt, xt1, xt2⟩ := tc_pos (rows := rows) (c + 1) (by omega)
  obtain ⟨xa, xa1, xa2⟩ := tc_lt (rows := rows) (c + 1) (by omega)
  have xa2 : rows xa 0 = 0 := (h01 xa (by omega)).resolve_right xa2
  refine c_take h1 R1 (fun i j hi hj => R6 i j (by omega)) h01 ⟨xa, by omega, xa2⟩ ⟨xt, by omega, xt2⟩ ?_
  intro w Fw T
  unfold pX6_clear
  intro w6 e6 w7 e7
  have w7o : ∀ a, a ≠ 0 → a ≠ 1 → ∀ b k, w7.1 a b k = w.1 a b k := by
    intro a ha hb b k
    rw [e7, mm_Ir, if_neg (fun q => ha q.1), e6, mm_Ir, if_neg (fun q => hb q.1)]
  have w72 : w7.2 = w.2 := by rw [e7, e6]; rfl
  have T7 : Tk_ (c + 1) rows w7 := by
    have f0e : f0_ w7 (c + 1) = f0_ w (c + 1) := f0_c (fun i => w7o 9 (by omega) (by omega) i 0)
    simpa only [Tk_, ns_, ls0, f0e, w72, w7o 6 (by omega) (by omega), w7o 9 (by omega) (by omega), w7o 12 (by omega) (by omega), w7o 13 (by omega) (by omega), w7o 14 (by omega) (by omega), w7o 15 (by omega) (by omega), w7o 18 (by omega) (by omega), w7o 10 (by omega) (by omega)] using T
  have w1m : ∀ a, ¬ tk_ a 0 → a ≠ 0 → a ≠ 1 → a ≠ 3 → a ≠ 5 → ∀ b k, w7.1 a b k = μ.1 a b k := by
    intro a h1 h2 h3 h4 h5 b k
    rw [w7o a h2 h3, Fw.1 a b k h1, Fm.1 a b k (by unfold pc_; omega)]
  have c05 : w7.1 0 0 5 = μ.1 0 0 5 + 1 := by
    rw [e7, mm_Ir, if_pos ⟨rfl, rfl, rfl⟩, e6, mm_Ir, if_neg (by omega), Fw.1 0 0 5 (by unfold tk_; omega), Fm.1 0 0 5 (by unfold pc_; omega)]
  have c0x : ∀ x, x ≠ 5 → w7.1 0 0 x = μ.1 0 0 x := by
    intro x hx
    rw [e7, mm_Ir, if_neg (fun q => hx q.2.2), e6, mm_Ir, if_neg (by omega), Fw.1 0 0 x (by unfold tk_; omega), Fm.1 0 0 x (by unfold pc_; omega)]
  have p11 : w7.1 1 0 1 = 0 := by rw [e7, mm_Ir, if_neg (by omega), e6, mm_Ir]; simp
  have ta7 : iv_ta (c + 1) w7 := by
    refine ⟨⟨xa, xa1, ?_⟩, xt, xt1, ?_⟩
    · exact ((T7.2.1 xa xa1).1.1).trans xa2
    · exact ((T7.2.1 xt xt1).1.1).trans xt2
  rw [T7.1]
  unfold pX11_field
  refine mr w7 _ ((w1m 26 (by unfold tk_; omega) (by omega) (by omega) (by omega) (by omega) 0 0).trans l3) (fun k hk => (w1m 27 (by unfold tk_; omega) (by omega) (by omega) (by omega) (by omega) 0 k).trans (l4 k hk)) ?_
  intro y Fy Py
  obtain ⟨q1, q2, q3, q4, q5, q6, q7, q8, q9, q10⟩ := id Py
  rw [v26 Fy, w1m 26 (by unfold tk_; omega) (by omega) (by omega) (by omega) (by omega) 0 0, l3, q1]
  refine (jT (by rw [b1])).mpr ((jT rfl).mpr ?_)
  rw [q4 (by omega), q2, q3, if_neg (show ¬ 4 = 0 by omega), if_neg b3, v2]
  refine (iF (nIm1 (by omega))).mpr ((iF (nI_nle (by omega) (by omega))).mpr ((iF (nI_ge b5 (by omega))).mpr ?_))
  unfold pX11_field_b50
  refine j1.mpr (m_keep h1 (by omega) (by omega) b3 h5 Py ?_)
  rw [if_neg (by omega)]
  have yE : ∀ a b k, ¬ pm_ a k → (mm_I y (44 + 4) 0 c (rows c 4)).1 a b k = w7.1 a b k := by
    intro a b k hq
    rw [mm_Ir, if_neg (fun q => hq (by unfold pm_; omega))]
    exact Fy.1 a b k hq
  have y2 : (mm_I y (44 + 4) 0 c (rows c 4)).2 = w7.2 := Fy.2
  have g33 : (mm_I y (44 + 4) 0 c (rows c 4)).1 26 0 33 = nI (c + 1) := by
    rw [mm_Ir, if_neg (by omega), q3, if_neg (by omega)]
  have g44 : ∀ i, i < c + 1 → (mm_I y (44 + 4) 0 c (rows c 4)).1 44 0 i = rows i 0 := fun i hi => by rw [mm_Ir, if_neg (by omega)]; exact q6 i (by omega)
  have g45 : ∀ i, i < c + 1 → (mm_I y (44 + 4) 0 c (rows c 4)).1 45 0 i = rows i 1 := fun i hi => by rw [mm_Ir, if_neg (by omega)]; exact q7 i (by omega)
  have g46 : ∀ i, i < c + 1 → (mm_I y (44 + 4) 0 c (rows c 4)).1 46 0 i = rows i 2 := fun i hi => by rw [mm_Ir, if_neg (by omega)]; exact q8 i (by omega)
  have g47 : ∀ i, i < c + 1 → (mm_I y (44 + 4) 0 c (rows c 4)).1 47 0 i = rows i 3 := fun i hi => by rw [mm_Ir, if_neg (by omega)]; exact q9 i (by omega)
  have g48 : ∀ i, i < c + 1 → (mm_I y (44 + 4) 0 c (rows c 4)).1 48 0 i = rows i 4 := fun i hi => by
    rw [mm_Ir]
    by_cases e : i = c
    · rw [if_pos ⟨rfl, rfl, e⟩, e]
    · rw [if_neg (fun q => e q.2.2)]
      exact q10 i (by omega)
  generalize mm_I y (44 + 4) 0 c (rows c 4) = z at *
  have zo : ∀ a, a < 44 → a ≠ 26 → ∀ b k, z.1 a b k = w7.1 a b k := fun a ha hb b k => yE a b k (by unfold pm_; omega)
  have tkc : ∀ {x y : mm_T}, (∀ a, a < 26 → ∀ b k, y.1 a b k = x.1 a b k) → y.2 6 0 2 = x.2 6 0 2 → Tk_ (c + 1) rows x → Tk_ (c + 1) rows y := by
    intro x y hx hx2 hT
    have f0e : f0_ y (c + 1) = f0_ x (c + 1) := f0_c (fun i => hx 9 (by omega) i 0)
    simpa only [Tk_, ns_, ls0, f0e, hx2, hx 6 (by omega), hx 9 (by omega), hx 12 (by omega), hx 13 (by omega), hx 14 (by omega), hx 15 (by omega), hx 18 (by omega), hx 10 (by omega)] using hT
  have Tz : Tk_ (c + 1) rows z := tkc (fun a ha b k => zo a (by omega) (by omega) b k) (by rw [y2]) T7
  have taz : iv_ta (c + 1) z := by simpa only [iv_ta, is_t, is_a, zo 9 (by omega) (by omega)] using ta7
  refine m_lay (by omega) Tz ro taz g33 g44 g45 g46 g47 g48 ?_
  intro u Fu Mu
  intro n5 j5 n6 j6
  have nE : ∀ a, a ≠ 26 → ∀ b k, n6.1 a b k = u.1 a b k := by
    intro a ha b k
    rw [j6, mm_Ir, if_neg (fun q => ha q.1), j5, mm_Ir, if_neg (fun q => ha q.1)]
  have n2 : n6.2 = u.2 := by rw [j6, j5]; rfl
  have n26 : ∀ x, x ≠ 0 → x ≠ 29 → n6.1 26 0 x = u.1 26 0 x := by
    intro x hx hy
    rw [j6, mm_Ir, if_neg (fun q => hx q.2.2), j5, mm_Ir, if_neg (fun q => hy q.2.2)]
  have Mn : Ml_ (c + 1) rows n6 := by
    have f0e : f0_ n6 (c + 1) = f0_ u (c + 1) := f0_c (fun i => nE 9 (by omega) i 0)
    simpa only [Ml_, nm_, lm0, f0e, n26 2 (by omega) (by omega), n26 17 (by omega) (by omega), n26 18 (by omega) (by omega), n26 19 (by omega) (by omega), n26 20 (by omega) (by omega), nE 28 (by omega), nE 29 (by omega), nE 30 (by omega), nE 31 (by omega), nE 32 (by omega), nE 33 (by omega), nE 34 (by omega), nE 35 (by omega), nE 36 (by omega), nE 37 (by omega), nE 38 (by omega), nE 39 (by omega), nE 41 (by omega)] using Mu
  have uz : ∀ a, a < 26 → ∀ b k, n6.1 a b k = z.1 a b k := fun a ha b k => (nE a (by omega) b k).trans (Fu.1 a b k (by unfold ml_; omega))
  have Tn : Tk_ (c + 1) rows n6 := tkc uz (by rw [n2]; exact Fu.2 6 0 2 (by unfold ml_; omega)) Tz
  have z26 : ∀ x, x < 31 → z.1 26 0 x = μ.1 26 0 x := fun x hx => (yE 26 0 x (by unfold pm_; omega)).trans (w1m 26 (by unfold tk_; omega) (by omega) (by omega) (by omega) (by omega) 0 x)
  have u26 : ∀ x, x < 31 → x ≠ 2 → ¬ (17 ≤ x ∧ x ≤ 20) → u.1 26 0 x = μ.1 26 0 x := fun x hx h2 h3 => (Fu.1 26 0 x (by unfold ml_; omega)).trans (z26 x hx)
  have nw : ∀ a, a < 26 → ∀ b k, n6.1 a b k = w7.1 a b k := fun a ha b k => (uz a ha b k).trans (zo a (by omega) (by omega) b k)
  obtain ⟨ct1, ct2, ct3, ct4⟩ := h.2.1
  have sq := h.2.2.1
  refine ⟨?_, inv_new (L := L) (N := c + 1) (rows := rows) (by omega) ?_ ⟨?_, ?_, ?_, ?_⟩ ?_ ?_ Tn Mn ro ?_⟩
  · rw [Mn.1]
  · intro j hj
    rw [nw 20 (by omega), w1m 20 (by unfold tk_; omega) (by omega) (by omega) (by omega) (by omega)]
    exact sq j hj
  · rw [n26 27 (by omega) (by omega), u26 27 (by omega) (by omega) (by omega), nw 0 (by omega), c0x 3 (by omega)]
    exact ct1
  · rw [n26 28 (by omega) (by omega), u26 28 (by omega) (by omega) (by omega), nw 0 (by omega), c0x 4 (by omega)]
    exact ct2
  · rw [nw 0 (by omega), c05, j6, mm_Ir, if_neg (by omega), j5, mm_Ir, if_pos ⟨rfl, rfl, rfl⟩, u26 29 (by omega) (by omega) (by omega), ct3]
  · rw [n26 30 (by omega) (by omega), u26 30 (by omega) (by omega) (by omega), nw 0 (by omega), c0x 6 (by omega)]
    exact ct4
  · rw [nw 1 (by omega)]
    exact p11
  · rw [j6, mm_Ir]
    simp
  · simpa only [iv_ta, is_t, is_a, nw 9 (by omega)] using ta7
