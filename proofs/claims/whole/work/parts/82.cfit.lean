/-! The class's placing. -/
def cf_ (a _c : Nat) : Prop := 21 ≤ a ∧ a ≤ 25
def Fr_ (t R : Nat) (μ w : mm_T) : Prop := ∀ j, j < 7 → R.testBit j = true → w.1 22 0 j = μ.1 9 j 1 ∧ w.1 23 0 j = μ.1 9 j 2 ∧ w.1 24 0 j = μ.1 12 (7 * t + j) 4
section CF
variable {Po : Int32 → mm_T → Prop} {μ w : mm_T} {N t S R : Nat}
theorem cf_sq (h : fmi_ cf_ μ w) (sq : iv_sq μ) : iv_sq w := by
  intro j hj
  rw [h.1 20 0 j (by unfold cf_; omega)]
  exact sq j hj
theorem c_mfBy {p j : Nat} (hd : iv_nd N μ) (sq : iv_sq μ) (F : fmi_ cf_ μ w) (G : Gd_ N t μ R) (Fr : Fr_ t R μ w) (hp : p < 1024) (hj : j < 7) (hb : R.testBit j = true) (hP : Po (Int32.ofInt (df_ μ t p j)) w) : pX1_misfitBy Po w (nI j) (nI (p % 32)) (nI (p / 32)) := by
  obtain ⟨a1, -, -, -⟩ := G.2 j hj hb
  obtain ⟨x1, x2, x3, y1, y2, y3⟩ := xy_ hd a1
  obtain ⟨f1, f2, f3⟩ := Fr j hj hb
  unfold pX1_misfitBy
  rw [nI_clamp (show j < 2 ^ 31 by omega), f1, f2, f3, x1, y1]
  refine ⟨vp_in_nI hj (by omega), vp_in_nI hj (by omega), vp_in_nI hj (by omega), r_over (cf_sq F sq) x3 y3 (by omega) (by omega) ?_⟩
  intro x6 e6
  have : x6 * x6 = Int32.ofInt (df_ μ t p j) := by
    rw [e6, oI_t (μ.1 12 (7 * t + j) 4), oI_n, ← Int32.ofInt_sub, ← Int32.ofInt_mul]
    rfl
  rw [this]
  exact hP
theorem c_asks {j : Nat} (h : w.1 21 0 4 = nI S) (hS : S < 128) (hj : j < 7) (hP : Po (if S.testBit j then 1 else 0) w) : pX1_asks Po w (nI j) := by
  unfold pX1_asks
  rw [h]
  cases b : S.testBit j with
  | false =>
    rw [b] at hP
    exact (jF (btf hS hj b)).mpr hP
  | true =>
    rw [b] at hP
    exact (jT (btt hS hj b)).mpr hP
theorem c_misfitAt {p : Nat} (hd : iv_nd N μ) (sq : iv_sq μ) (F : fmi_ cf_ μ w) (G : Gd_ N t μ S) (Fr : Fr_ t S μ w) (hw : w.1 21 0 4 = nI S) (hp : p < 1024) (hP : Po (Int32.ofInt (ms_ (df_ μ t) S p)) w) : pX1_misfitAt Po w (nI (p % 32)) (nI (p / 32)) := by
  unfold pX1_misfitAt
  refine lp_up 7 (fun j x => x = (w, nI (p % 32), nI (p / 32), Int32.ofInt (mf_ (df_ μ t p) S j), nI j)) ?_ 0 (by omega) _ rfl
  intro j x hj hI K hK
  subst hI
  unfold pX1_misfitAt_l5
  rcases Nat.eq_or_lt_of_le hj with e | hlt
  · subst e
    exact (iT (show (7 : Int32) ≤ nI 7 by decide)).mpr hP
  · refine (iF (show ¬ nI 7 ≤ nI j from nI_ge hlt (by omega))).mpr (c_asks hw G.1 hlt ?_)
    cases b : S.testBit j with
    | false =>
      refine (iT rfl).mpr (hK hlt _ ?_)
      show (w, nI (p % 32), nI (p / 32), Int32.ofInt (mf_ (df_ μ t p) S j), nI j + 1) = _
      rw [nI_1, mf_S, b]
      simp
    | true =>
      refine (iF (by decide)).mpr (c_mfBy hd sq F G Fr hp hlt b ?_)
      intro x5 e5
      have e5 : x5 = Int32.ofInt (mf_ (df_ μ t p) S j) + Int32.ofInt (df_ μ t p j) := e5
      rw [← Int32.ofInt_add] at e5
      refine hK hlt _ ?_
      show (w, nI (p % 32), nI (p / 32), x5, nI j + 1) = _
      rw [nI_1, mf_S, b, e5]
      rfl
theorem c_fitting {Po : Nat → mm_T → Prop} (hN : μ.1 6 0 1 = nI N) (h7 : N ≤ 7) (ht : t < N) (hti : is_t μ t) (lk : iv_lk N μ) (hP : ∀ w, fmi_ cf_ μ w → Fr_ t (ra_ μ N t) μ w → w.1 21 0 4 = nI (ra_ μ N t) → Po 0 w) : pX0_fittingOf Po μ (nI t) := by
  obtain ⟨-, hg⟩ := Gd_ra (k := 0) h7 ht hti lk
  unfold pX0_fittingOf pX1_clear
  intro m1 e1
  have F1 : fmi_ cf_ μ m1 := by rw [e1]; exact fmi_.rf.I (by unfold cf_; omega)
  refine lp_up N (fun j x => x.2 = (nI t, nI j) ∧ fmi_ cf_ μ x.1 ∧ Fr_ t (rs_ (fun j => μ.1 12 (7 * t + j) 3) j) μ x.1 ∧ x.1.1 21 0 4 = nI (rs_ (fun j => μ.1 12 (7 * t + j) 3) j)) ?_ 0 (by omega) _ ?_
  rotate_left
  · refine ⟨rfl, F1, fun j hj hb => ?_, ?_⟩
    · have hb : Nat.testBit 0 j = true := hb
      simp at hb
    · show m1.1 21 0 4 = 0
      rw [e1, mm_Ir]
      simp
  rintro j ⟨u, x1, x2⟩ hj ⟨k1, F, Fr, B⟩ K hK
  cases k1
  unfold pX0_fittingOf_l9
  have u6 : u.1 6 0 1 = nI N := (F.1 6 0 1 (by unfold cf_; omega)).trans hN
  show ((u.1 6 0 1) ≤ nI j → _) ∧ _
  rw [u6]
  rcases Nat.eq_or_lt_of_le hj with e | hlt
  · refine (iT (show nI N ≤ nI j by rw [e]; exact Int32.le_refl _)).mpr ?_
    rw [e] at Fr B
    exact hP u F Fr B
  · refine (iF (nI_ge hlt (by omega))).mpr ((q_link (by omega) (by omega)).mpr ⟨by omega, ?_⟩)
    obtain ⟨r1, r2, r3⟩ := rs_b (fun j => μ.1 12 (7 * t + j) 3) j (by omega)
    have u12 : ∀ c, u.1 12 (7 * t + j) c = μ.1 12 (7 * t + j) c := fun c => F.1 12 (7 * t + j) c (by unfold cf_; omega)
    have u9 : ∀ c, u.1 9 j c = μ.1 9 j c := fun c => F.1 9 j c (by unfold cf_; omega)
    rw [u12, u12, nI_clamp (show j < 2 ^ 31 by omega), u9, u9]
    rcases (hg j hlt).1 with z | ⟨z, -⟩
    · have hs : rs_ (fun j => μ.1 12 (7 * t + j) 3) (j + 1) = rs_ (fun j => μ.1 12 (7 * t + j) 3) j := by
        rw [rs_S, if_neg (by rw [z]; decide), Nat.add_zero]
      refine (iT z).mpr (hK hlt _ ⟨by rw [← nI_1], F, ?_, ?_⟩)
      · rw [hs]; exact Fr
      · rw [hs]; exact B
    · have hs : rs_ (fun j => μ.1 12 (7 * t + j) 3) (j + 1) = rs_ (fun j => μ.1 12 (7 * t + j) 3) j + 2 ^ j := by
        rw [rs_S, if_pos z]
      have v : vp_in (nI j) 7 := vp_in_nI (by omega) (by omega)
      refine (iF (by rw [z]; decide)).mpr ⟨v, v, ?_⟩
      unfold pX1_add
      rw [nI_clamp (show j < 2 ^ 31 by omega)]
      refine (iF (nI_pos (by omega))).mpr ((iF (show ¬ nI 7 ≤ nI j from nI_ge (by omega) (by omega))).mpr ⟨v, ?_⟩)
      intro m2 e2
      refine ⟨v, ?_⟩
      intro m4 e4
      refine ⟨v, ?_⟩
      intro m6 e6 m7 e7
      have g6 : m6.1 21 0 4 = nI (rs_ (fun j => μ.1 12 (7 * t + j) 3) j) := by
        rw [e6, e4, e2]
        simpa [mm_Ir] using B
      rw [g6, bo_ _ r2 j (by omega) (by rw [r3 j (by omega)]; simp)] at e7
      refine hK hlt _ ⟨by rw [← nI_1], ?_, fun i hi hb => ?_, ?_⟩
      · rw [e7, e6, e4, e2]
        refine fmi_.I (fmi_.I (fmi_.I (fmi_.I F ?_) ?_) ?_) ?_
        all_goals (unfold cf_; omega)
      · show m7.1 22 0 i = _ ∧ m7.1 23 0 i = _ ∧ m7.1 24 0 i = _
        subst e7; subst e6; subst e4; subst e2
        by_cases e : i = j
        · subst e
          simp [mm_Ir]
        · have hb2 : (rs_ (fun j => μ.1 12 (7 * t + j) 3) j).testBit i = true := by
            rw [hs] at hb
            have := (bs_ j (by omega) _ r2 r1).2 i hi
            rw [this] at hb
            simpa [e] using hb
          have := Fr i hi hb2
          simpa [mm_Ir, e] using this
      · show m7.1 21 0 4 = _
        rw [e7, mm_Ir, hs]
        simp
theorem c_leastPlace {g : Nat → Int} (hg : ∀ p, p < 1024 → w.1 25 0 p = Int32.ofInt (g p) ∧ -2147483648 ≤ g p ∧ g p < 2147483648) (hP : Po (nI (am_ g 1023)) w) : pX1_leastPlace Po w := by
  unfold pX1_leastPlace
  refine lp_up 1023 (fun j x => x = (w, nI (am_ g j), nI (j + 1))) ?_ 0 (by omega) _ rfl
  intro j x hj hI K hK
  subst hI
  unfold pX1_leastPlace_l4
  rcases Nat.eq_or_lt_of_le hj with e | hlt
  · subst e
    exact (iT (show (1024 : Int32) ≤ nI (1023 + 1) by decide)).mpr hP
  · have al := am_le g j
    refine (iF (show ¬ nI 1024 ≤ nI (j + 1) from nI_ge (by omega) (by omega))).mpr ⟨vp_in_nI (by omega) (by omega), vp_in_nI (by omega) (by omega), ?_⟩
    obtain ⟨a1, a2, a3⟩ := hg (am_ g j) (by omega)
    obtain ⟨b1, b2, b3⟩ := hg (j + 1) (by omega)
    show ((w.1 25 0 (nI (am_ g j)).toNatClampNeg) ≤ (w.1 25 0 (nI (j + 1)).toNatClampNeg) → _) ∧ _
    rw [nI_clamp (by omega), nI_clamp (by omega), a1, b1, oI_le a2 a3 b2 b3]
    by_cases b : g (j + 1) < g (am_ g j)
    · refine (iF (by omega)).mpr (hK hlt _ ?_)
      show (w, nI (j + 1), nI (j + 1) + 1) = _
      rw [nI_1, am_s, if_pos b]
    · refine (iT (by omega)).mpr (hK hlt _ ?_)
      show (w, nI (am_ g j), nI (j + 1) + 1) = _
      rw [nI_1, am_s, if_neg b]
/-- the least so far, over places -/
def lw_ (g : Nat → Int) (L : Int) : Nat → Bool
  | 0 => false
  | n + 1 => decide (g (am_ g n) < L)
theorem c_worst {b : Nat} (hd : iv_nd N μ) (sq : iv_sq μ) (F : fmi_ cf_ μ w) (G : Gd_ N t μ S) (Fr : Fr_ t S μ w) (hw : w.1 21 0 4 = nI S) (hm : ∀ p, p < 1024 → w.1 25 0 p = Int32.ofInt (ms_ (df_ μ t) S p)) (hb : wf_ (df_ μ t) S 7 = some b) (hP : Po (nI b) w) : pX1_worstFitting Po w := by
  unfold pX1_worstFitting
  refine lp_up 7 (fun j x => ∃ (u : Int32) (L : Int), x = (w, u, Int32.ofInt L, nI j) ∧ ((wf_ (df_ μ t) S j = none ∧ L = 2147483647) ∨ ∃ c, wf_ (df_ μ t) S j = some c ∧ u = nI c ∧ L = lb_ (df_ μ t) (wo_ S c))) ?_ 0 (by omega) _ ⟨0, 2147483647, rfl, Or.inl ⟨rfl, rfl⟩⟩
  intro j x hj hI K hK
  obtain ⟨u, L, rfl, hu⟩ := hI
  have hL : -2147483648 ≤ L ∧ L < 2147483648 := by
    rcases hu with ⟨-, rfl⟩ | ⟨c, q1, -, rfl⟩
    · omega
    · have hc := wf_s j c q1
      have := lb_b hd (Gd_w (b := c) G (by omega))
      omega
  unfold pX1_worstFitting_l7
  rcases Nat.eq_or_lt_of_le hj with e | hlt
  · subst e
    refine (iT (show (7 : Int32) ≤ nI 7 by decide)).mpr ?_
    rcases hu with ⟨q, -⟩ | ⟨c, q1, q2, -⟩
    · rw [hb] at q; cases q
    · rw [hb] at q1
      cases q1
      show Po u w
      rw [q2]
      exact hP
  · refine (iF (show ¬ nI 7 ≤ nI j from nI_ge hlt (by omega))).mpr (c_asks hw G.1 hlt ?_)
    cases bb : S.testBit j with
    | false =>
      have hs : wf_ (df_ μ t) S (j + 1) = wf_ (df_ μ t) S j := by rw [wf_S, bb]; simp
      refine (jT rfl).mpr (hK hlt _ ⟨u, L, ?_, ?_⟩)
      · show (w, u, Int32.ofInt L, nI j + 1) = _
        rw [nI_1]
      · rw [hs]
        exact hu
    | true =>
      refine (jF (by decide)).mpr ?_
      have Gj := Gd_w (b := j) G hlt
      refine lp_up 1024 (fun i x => x = (w, (if lw_ (fun p => ms_ (df_ μ t) (wo_ S j) p) L i then nI j else u), (if lw_ (fun p => ms_ (df_ μ t) (wo_ S j) p) L i then Int32.ofInt (ms_ (df_ μ t) (wo_ S j) (am_ (fun p => ms_ (df_ μ t) (wo_ S j) p) (i - 1))) else Int32.ofInt L), nI j, nI i)) ?_ 0 (by omega) _ rfl
      intro i x hi hI K2 hK2
      subst hI
      unfold pX1_worstFitting_l27
      rcases Nat.eq_or_lt_of_le hi with e | hilt
      · subst e
        refine (iT (show (1024 : Int32) ≤ nI 1024 by decide)).mpr (hK hlt _ ?_)
        have lwe : lw_ (fun p => ms_ (df_ μ t) (wo_ S j) p) L 1024 = decide (lb_ (df_ μ t) (wo_ S j) < L) := rfl
        have lbe : ms_ (df_ μ t) (wo_ S j) (am_ (fun p => ms_ (df_ μ t) (wo_ S j) p) (1024 - 1)) = lb_ (df_ μ t) (wo_ S j) := rfl
        simp only [lwe, lbe]
        have lj := lb_b hd Gj
        by_cases q : lb_ (df_ μ t) (wo_ S j) < L
        · refine ⟨nI j, lb_ (df_ μ t) (wo_ S j), by simp [q, nI_1], Or.inr ⟨j, ?_, rfl, rfl⟩⟩
          rw [wf_S, bb]
          rcases hu with ⟨q1, -⟩ | ⟨c, q1, -, rfl⟩
          · rw [q1]; rfl
          · rw [q1]; simp [q]
        · refine ⟨u, L, by simp [q, nI_1], ?_⟩
          rcases hu with ⟨-, rfl⟩ | ⟨c, q1, q2, rfl⟩
          · omega
          · refine Or.inr ⟨c, ?_, q2, rfl⟩
            rw [wf_S, bb, q1]
            simp [q]
      · refine (iF (show ¬ nI 1024 ≤ nI i from nI_ge hilt (by omega))).mpr ⟨vp_in_nI hilt (by omega), ?_⟩
        obtain ⟨n1, n2⟩ := nI32 hilt
        show pX1_misfitBy _ w (nI j) (nI i - nI i / 32 * 32) (nI i / 32)
        rw [n1, n2]
        refine c_mfBy hd sq F G Fr hilt hlt bb ?_
        intro x6 e6
        have e6 : x6 = w.1 25 0 (nI i).toNatClampNeg - Int32.ofInt (df_ μ t i j) := e6
        rw [nI_clamp (by omega), hm i hilt, ← Int32.ofInt_sub, ← ms_w G.1 hlt bb] at e6
        subst e6
        have mi := ms_b hd Gj hilt
        have nx : nI i + 1 = nI (i + 1) := nI_1 i
        generalize hgg : (fun p => ms_ (df_ μ t) (wo_ S j) p) = g at hK2 ⊢
        have gp : ∀ p, ms_ (df_ μ t) (wo_ S j) p = g p := fun p => by rw [← hgg]
        simp only [gp] at hK2 ⊢
        rw [gp] at mi
        have gb : ∀ p, p < 1024 → -2147483648 ≤ g p ∧ g p < 2147483648 := fun p hp => by
          have := ms_b hd Gj hp
          rw [gp] at this
          omega
        have lw1 : lw_ g L (i + 1) = decide (g (am_ g i) < L) := rfl
        show ((if lw_ g L i then Int32.ofInt (g (am_ g (i - 1))) else Int32.ofInt L) ≤ Int32.ofInt (g i) → K2 (w, (if lw_ g L i then nI j else u), (if lw_ g L i then Int32.ofInt (g (am_ g (i - 1))) else Int32.ofInt L), nI j, nI i + 1)) ∧ (¬ ((if lw_ g L i then Int32.ofInt (g (am_ g (i - 1))) else Int32.ofInt L) ≤ Int32.ofInt (g i)) → K2 (w, nI j, Int32.ofInt (g i), nI j, nI i + 1))
        rw [nx]
        have hK2 := hK2 hilt
        simp only [Nat.add_sub_cancel] at hK2
        rw [lw1] at hK2
        cases i with
        | zero =>
          have l0 : lw_ g L 0 = false := rfl
          have a0 : am_ g 0 = 0 := rfl
          rw [l0]
          simp only [Bool.false_eq_true, if_false]
          rw [oI_le hL.1 hL.2 (gb 0 (by omega)).1 (gb 0 (by omega)).2]
          rw [a0] at hK2
          by_cases q : g 0 < L
          · exact (iF (by omega)).mpr (hK2 _ (by simp [q]))
          · exact (iT (by omega)).mpr (hK2 _ (by simp [q]))
        | succ i =>
          have li : lw_ g L (i + 1) = decide (g (am_ g i) < L) := rfl
          have al := am_le g i
          rw [li]
          simp only [Nat.add_sub_cancel]
          by_cases q : g (am_ g i) < L
          · simp only [q, decide_true, if_true]
            rw [oI_le (gb _ (show am_ g i < 1024 by omega)).1 (gb _ (show am_ g i < 1024 by omega)).2 (gb (i + 1) (by omega)).1 (gb (i + 1) (by omega)).2]
            by_cases q2 : g (i + 1) < g (am_ g i)
            · refine (iF (by omega)).mpr (hK2 _ ?_)
              have : g (i + 1) < L := by omega
              simp [am_s, q2, this]
            · refine (iT (by omega)).mpr (hK2 _ ?_)
              simp [am_s, q2, q]
          · simp only [q, decide_false, Bool.false_eq_true, if_false]
            rw [oI_le hL.1 hL.2 (gb (i + 1) (by omega)).1 (gb (i + 1) (by omega)).2]
            by_cases q2 : g (i + 1) < L
            · refine (iF (by omega)).mpr (hK2 _ ?_)
              have : g (i + 1) < g (am_ g i) := by omega
              simp [am_s, q2, this]
            · refine (iT (by omega)).mpr (hK2 _ ?_)
              by_cases q3 : g (i + 1) < g (am_ g i)
              · simp [am_s, q3, q2]
              · simp [am_s, q3, q]
end CF
