/-! The model's placing. -/
section MF
variable {Po : Int32 → mm_T → Prop} {μ : mm_T} {N t S : Nat}
theorem nI32 {p : Nat} (hp : p < 1024) : nI p - nI p / 32 * 32 = nI (p % 32) ∧ nI p / 32 = nI (p / 32) := ⟨pk_rem (d := 32) (by omega) (by omega) (by omega), pk_div (d := 32) (by omega) (by omega) (by omega)⟩
theorem m_misfitBy {p : Nat} (hd : iv_nd N μ) (h7 : N ≤ 7) (hM : μ.1 26 0 2 = nI N) (ht : t < 7) (G : Gd_ N t μ S) (hp : p < 1024) (hP : Po (Int32.ofInt (ms_ (df_ μ t) S p)) μ) : pX11_misfitBy Po μ (nI t) (nI S) (nI (p % 32)) (nI (p / 32)) := by
  unfold pX11_misfitBy
  refine lp_up N (fun j x => x = (μ, nI t, nI S, nI (p % 32), nI (p / 32), Int32.ofInt (mf_ (df_ μ t p) S j), nI j)) ?_ 0 (by omega) _ rfl
  intro j x hj hI K hK
  subst hI
  unfold pX11_misfitBy_l6
  rw [hM]
  rcases Nat.eq_or_lt_of_le hj with e | hlt
  · refine (iT (show nI N ≤ nI j by rw [e]; exact Int32.le_refl _)).mpr ?_
    rw [mf_N G h7, ← e] at hP
    exact hP
  · refine (iF (nI_ge hlt (by omega))).mpr ?_
    have nx : nI j + 1 = nI (j + 1) := nI_1 j
    cases b : S.testBit j with
    | false =>
      refine (jF (btf G.1 (by omega) b)).mpr (hK hlt _ ?_)
      show (μ, nI t, nI S, nI (p % 32), nI (p / 32), Int32.ofInt (mf_ (df_ μ t p) S j), nI j + 1) = _
      rw [nx]
      have : mf_ (df_ μ t p) S (j + 1) = mf_ (df_ μ t p) S j := by rw [mf_S, b]; simp
      rw [this]
    | true =>
      refine (jT (btt G.1 (by omega) b)).mpr ((q_pair ht (by omega)).mpr ?_)
      obtain ⟨a1, a2, a3, a4⟩ := G.2 j (by omega) b
      obtain ⟨x1, x2, x3, y1, y2, y3⟩ := xy_ hd hlt
      rw [nI_clamp (show 7 * t + j < 2 ^ 31 by omega), nI_clamp (show j < 2 ^ 31 by omega), a2, x2, y2]
      refine ⟨vp_in_nI (by omega) (by omega), vp_in_nI (by omega) (by omega), vp_in_nI (by omega) (by omega), r_flightBy (by omega) (by omega) x3 y3 ?_⟩
      intro x8 e8 x9 e9
      refine hK hlt _ ?_
      show (μ, nI t, nI S, nI (p % 32), nI (p / 32), x9, nI j + 1) = _
      rw [nx]
      have e9 : x9 = Int32.ofInt (mf_ (df_ μ t p) S j) + x8 * x8 := e9
      have : x9 = Int32.ofInt (mf_ (df_ μ t p) S (j + 1)) := by
        rw [e9, e8, oI_t (μ.1 12 (7 * t + j) 4), oI_n, ← Int32.ofInt_sub, ← Int32.ofInt_mul, ← Int32.ofInt_add]
        congr 1
        conv => rhs; unfold mf_
        rw [b]
        simp only [if_true]
        unfold df_
        rw [fp_cm (p % 32)]
      rw [this]
theorem m_fitBy (hd : iv_nd N μ) (h7 : N ≤ 7) (hM : μ.1 26 0 2 = nI N) (ht : t < 7) (G : Gd_ N t μ S) (hP : Po (nI (ft_ (df_ μ t) S)) μ) : pX11_fitBy Po μ (nI t) (nI S) := by
  have B : ∀ p, p < 1024 → -2147483648 ≤ ms_ (df_ μ t) S p ∧ ms_ (df_ μ t) S p < 2147483648 := fun p hp => by
    have := ms_b hd G hp
    omega
  unfold pX11_fitBy
  refine m_misfitBy (p := 0) hd h7 hM ht G (by omega) ?_
  refine lp_up 1023 (fun j x => x = (μ, nI t, nI S, nI (am_ (fun p => ms_ (df_ μ t) S p) j), Int32.ofInt (ms_ (df_ μ t) S (am_ (fun p => ms_ (df_ μ t) S p) j)), nI (j + 1))) ?_ 0 (by omega) _ rfl
  intro j x hj hI K hK
  subst hI
  unfold pX11_fitBy_l15
  rcases Nat.eq_or_lt_of_le hj with e | hlt
  · subst e
    exact (iT (show (1024 : Int32) ≤ nI (1023 + 1) by decide)).mpr hP
  · refine (iF (show ¬ nI 1024 ≤ nI (j + 1) from nI_ge (by omega) (by omega))).mpr ?_
    obtain ⟨n1, n2⟩ := nI32 (p := j + 1) (by omega)
    show pX11_misfitBy _ μ (nI t) (nI S) (nI (j + 1) - nI (j + 1) / 32 * 32) (nI (j + 1) / 32)
    rw [n1, n2]
    refine m_misfitBy (p := j + 1) hd h7 hM ht G (by omega) ?_
    have al := am_le (fun p => ms_ (df_ μ t) S p) j
    have c := oI_le (B _ (show am_ (fun p => ms_ (df_ μ t) S p) j < 1024 by omega)).1 (B _ (show am_ (fun p => ms_ (df_ μ t) S p) j < 1024 by omega)).2 (B _ (show j + 1 < 1024 by omega)).1 (B _ (show j + 1 < 1024 by omega)).2
    unfold pX11_fitBy_b54
    by_cases b : ms_ (df_ μ t) S (j + 1) < ms_ (df_ μ t) S (am_ (fun p => ms_ (df_ μ t) S p) j)
    · have nc : ¬ Int32.ofInt (ms_ (df_ μ t) S (am_ (fun p => ms_ (df_ μ t) S p) j)) ≤ Int32.ofInt (ms_ (df_ μ t) S (j + 1)) := fun q => by have := c.mp q; omega
      refine (iF nc).mpr ((iF nc).mpr (hK hlt _ ?_))
      show (μ, nI t, nI S, nI (j + 1), Int32.ofInt (ms_ (df_ μ t) S (j + 1)), nI (j + 1) + 1) = _
      rw [nI_1, am_s, if_pos b]
    · have nc : Int32.ofInt (ms_ (df_ μ t) S (am_ (fun p => ms_ (df_ μ t) S p) j)) ≤ Int32.ofInt (ms_ (df_ μ t) S (j + 1)) := c.mpr (by omega)
      refine (iT nc).mpr ((iT nc).mpr (hK hlt _ ?_))
      show (μ, nI t, nI S, nI (am_ (fun p => ms_ (df_ μ t) S p) j), Int32.ofInt (ms_ (df_ μ t) S (am_ (fun p => ms_ (df_ μ t) S p) j)), nI (j + 1) + 1) = _
      rw [nI_1, am_s, if_neg b]
theorem m_leastBy (hd : iv_nd N μ) (h7 : N ≤ 7) (hM : μ.1 26 0 2 = nI N) (ht : t < 7) (G : Gd_ N t μ S) (hP : Po (Int32.ofInt (lb_ (df_ μ t) S)) μ) : pX11_leastBy Po μ (nI t) (nI S) := by
  unfold pX11_leastBy
  refine m_fitBy hd h7 hM ht G ?_
  have hl := ft_lt (df_ μ t) S
  obtain ⟨n1, n2⟩ := nI32 hl
  rw [n1, n2]
  exact m_misfitBy hd h7 hM ht G hl hP
theorem m_many (hS : S < 128) (hP : Po (nI (cn_ S 7)) μ) : pX11_many Po μ (nI S) := by
  unfold pX11_many
  refine lp_up 7 (fun j x => x = (μ, nI S, nI (cn_ S j), nI j)) ?_ 0 (by omega) _ rfl
  intro j x hj hI K hK
  subst hI
  unfold pX11_many_l4
  rcases Nat.eq_or_lt_of_le hj with e | hlt
  · subst e
    exact (iT (show (7 : Int32) ≤ nI 7 by decide)).mpr hP
  · refine (iF (show ¬ nI 7 ≤ nI j from nI_ge hlt (by omega))).mpr ?_
    intro x1 e1
    refine hK hlt _ ?_
    show (μ, nI S, x1, nI j + 1) = _
    have e1 : x1 = nI (cn_ S j) + ((nI S >>> (nI j &&& 31)) &&& 1) := e1
    rw [nI_1, e1, bt_ S hS j hlt]
    cases b : S.testBit j with
    | false =>
      have : cn_ S (j + 1) = cn_ S j := by rw [cn_S, b]; simp
      rw [this]
      simp
    | true =>
      have : cn_ S (j + 1) = cn_ S j + 1 := by rw [cn_S, b]; simp
      rw [this]
      simp
      exact nI_1 _
/-- which anchor of S is left out -/
theorem wf_s {d : Nat → Nat → Int} : ∀ n b, wf_ d S n = some b → b < n ∧ S.testBit b = true
  | 0, b, h => by cases h
  | n + 1, b, h => by
    unfold wf_ at h
    cases e : S.testBit n with
    | false =>
      rw [e] at h
      have := wf_s n b (by simpa using h)
      exact ⟨by omega, this.2⟩
    | true =>
      rw [e] at h
      simp only [if_true] at h
      cases e2 : wf_ d S n with
      | none =>
        rw [e2] at h
        cases h
        exact ⟨by omega, e⟩
      | some c =>
        rw [e2] at h
        have hc := wf_s n c e2
        by_cases q : lb_ d (wo_ S n) < lb_ d (wo_ S c)
        · simp only [if_pos q] at h
          cases h
          exact ⟨by omega, e⟩
        · simp only [if_neg q] at h
          cases h
          exact ⟨by omega, hc.2⟩
theorem wf_N {d : Nat → Nat → Int} (h : ∀ j, j < 7 → S.testBit j = true → j < N) (h7 : N ≤ 7) : wf_ d S 7 = wf_ d S N := by
  have k : ∀ n, N ≤ n → n ≤ 7 → wf_ d S n = wf_ d S N := by
    intro n
    induction n with
    | zero => intro h1 _; rw [show N = 0 by omega]
    | succ n ih =>
      intro h1 h2
      by_cases e : N = n + 1
      · rw [e]
      · have hb : S.testBit n = false := by
          cases b : S.testBit n with
          | false => rfl
          | true => exact absurd (h n (by omega) b) (by omega)
        conv => lhs; unfold wf_
        rw [hb, ih (by omega) (by omega)]
        simp
  exact k 7 h7 (Nat.le_refl _)
theorem wf_e {d : Nat → Nat → Int} : ∀ n, (∃ b, b < n ∧ S.testBit b = true) → ∃ b, wf_ d S n = some b
  | 0, h => by obtain ⟨b, hb, -⟩ := h; omega
  | n + 1, h => by
    unfold wf_
    cases e : S.testBit n with
    | false =>
      obtain ⟨b, hb, q⟩ := h
      have : b ≠ n := by rintro rfl; rw [e] at q; cases q
      obtain ⟨c, hc⟩ := wf_e (d := d) n ⟨b, by omega, q⟩
      exact ⟨c, by simpa using hc⟩
    | true =>
      simp only [if_true]
      cases wf_ d S n with
      | none => exact ⟨n, rfl⟩
      | some c =>
        by_cases q : lb_ d (wo_ S n) < lb_ d (wo_ S c)
        · exact ⟨n, by simp [q]⟩
        · exact ⟨c, by simp [q]⟩
theorem lb_b (hd : iv_nd N μ) (G : Gd_ N t μ S) : -2147483648 ≤ lb_ (df_ μ t) S ∧ lb_ (df_ μ t) S < 2147483648 ∧ 0 ≤ lb_ (df_ μ t) S ∧ lb_ (df_ μ t) S ≤ 28000000 := by
  have := ms_b hd G (ft_lt (df_ μ t) S)
  unfold lb_
  omega
theorem m_worstOf {b : Nat} (hd : iv_nd N μ) (h7 : N ≤ 7) (hM : μ.1 26 0 2 = nI N) (ht : t < 7) (G : Gd_ N t μ S) (hb : wf_ (df_ μ t) S 7 = some b) (hP : Po (nI b) μ) : pX11_worstOf Po μ (nI t) (nI S) := by
  have hw : wf_ (df_ μ t) S N = some b := by rw [← wf_N (fun j hj q => (G.2 j hj q).1) h7]; exact hb
  unfold pX11_worstOf
  refine lp_up N (fun j x => (wf_ (df_ μ t) S j = none ∧ x = (μ, nI t, nI S, -1, 0, nI j)) ∨ ∃ c, wf_ (df_ μ t) S j = some c ∧ x = (μ, nI t, nI S, nI c, Int32.ofInt (lb_ (df_ μ t) (wo_ S c)), nI j)) ?_ 0 (by omega) _ (Or.inl ⟨rfl, rfl⟩)
  intro j x hj hI K hK
  have split : ∃ (u v : Int32), x = (μ, nI t, nI S, u, v, nI j) ∧ ((wf_ (df_ μ t) S j = none ∧ u = -1) ∨ ∃ c, wf_ (df_ μ t) S j = some c ∧ u = nI c ∧ v = Int32.ofInt (lb_ (df_ μ t) (wo_ S c))) := by
    rcases hI with ⟨q1, q2⟩ | ⟨c, q1, q2⟩
    · exact ⟨-1, 0, q2, Or.inl ⟨q1, rfl⟩⟩
    · exact ⟨_, _, q2, Or.inr ⟨c, q1, rfl, rfl⟩⟩
  obtain ⟨u, v, rfl, hu⟩ := split
  unfold pX11_worstOf_l8
  rw [hM]
  rcases Nat.eq_or_lt_of_le hj with e | hlt
  · refine (iT (show nI N ≤ nI j by rw [e]; exact Int32.le_refl _)).mpr ?_
    rw [e, hw] at hu
    rcases hu with ⟨q, -⟩ | ⟨c, q1, q2, -⟩
    · cases q
    · cases q1
      show Po u μ
      rw [q2]
      exact hP
  · refine (iF (nI_ge hlt (by omega))).mpr ?_
    have nx : nI j + 1 = nI (j + 1) := nI_1 j
    cases bb : S.testBit j with
    | false =>
      have hs : wf_ (df_ μ t) S (j + 1) = wf_ (df_ μ t) S j := by rw [wf_S, bb]; simp
      refine (jF (btf G.1 (by omega) bb)).mpr (hK hlt _ ?_)
      show (wf_ (df_ μ t) S (j + 1) = none ∧ (μ, nI t, nI S, u, v, nI j + 1) = _) ∨ ∃ c, wf_ (df_ μ t) S (j + 1) = some c ∧ (μ, nI t, nI S, u, v, nI j + 1) = _
      rw [hs, nx]
      rcases hI with ⟨q1, q2⟩ | ⟨c, q1, q2⟩
      · cases q2
        exact Or.inl ⟨q1, rfl⟩
      · cases q2
        exact Or.inr ⟨c, q1, rfl⟩
    | true =>
      refine (jT (btt G.1 (by omega) bb)).mpr ?_
      show pX11_leastBy _ μ (nI t) (nI S &&& (((1 : Int32) <<< (nI j &&& 31)) ^^^ (-1 : Int32)))
      rw [ba_ S G.1 j (by omega)]
      have Gj := Gd_w (b := j) G (by omega)
      refine m_leastBy hd h7 hM ht Gj ?_
      have lj := lb_b hd Gj
      unfold pX11_worstOf_b54 pX11_worstOf_b59 pX11_worstOf_b72
      have take : wf_ (df_ μ t) S (j + 1) = some j → K (μ, nI t, nI S, nI j, Int32.ofInt (lb_ (df_ μ t) (wo_ S j)), nI j + 1) := by
        intro q
        refine hK hlt _ (Or.inr ⟨j, q, ?_⟩)
        rw [nx]
      rcases hu with ⟨q1, rfl⟩ | ⟨c, q1, rfl, rfl⟩
      · refine (iT rfl).mpr (i1.mpr (i1.mpr (take ?_)))
        unfold wf_
        rw [bb, q1]
        rfl
      · have hc := wf_s j c q1
        have Gc := Gd_w (b := c) G (by omega)
        have lc := lb_b hd Gc
        refine (iF (nIm1 (by omega))).mpr ?_
        by_cases q : lb_ (df_ μ t) (wo_ S j) < lb_ (df_ μ t) (wo_ S c)
        · refine (iF (fun z => by have := (oI_le lc.1 lc.2.1 lj.1 lj.2.1).mp z; omega)).mpr (i1.mpr (i1.mpr (take ?_)))
          unfold wf_
          rw [bb, q1]
          simp [q]
        · refine (iT ((oI_le lc.1 lc.2.1 lj.1 lj.2.1).mpr (by omega))).mpr (i0.mpr (i0.mpr (hK hlt _ (Or.inr ⟨c, ?_, ?_⟩))))
          · unfold wf_
            rw [bb, q1]
            simp [q]
          · show (μ, nI t, nI S, nI c, Int32.ofInt (lb_ (df_ μ t) (wo_ S c)), nI j + 1) = _
            rw [nx]
end MF
/-- ranges, for a tag -/
theorem Gd_ra {N k t : Nat} {μ : mm_T} (h7 : N ≤ 7) (ht : t < N) (hti : is_t μ t) (lk : iv_lk N μ) : Gd_ N t μ (ra_ μ N t) ∧ ∀ j, j < N → (μ.1 12 (7 * t + j) 3 = 0 ∨ μ.1 12 (7 * t + j) 3 = 1 ∧ is_a μ j) ∧ μ.1 39 0 (7 * t + j) = μ.1 12 (7 * t + j) 3 := by
  obtain ⟨h1, h2, h3⟩ := rs_b (fun j => μ.1 12 (7 * t + j) 3) N h7
  refine ⟨⟨h2, fun j hj hb => ?_⟩, fun j hj => ?_⟩
  · have hb : (rs_ (fun j => μ.1 12 (7 * t + j) 3) N).testBit j = true := hb
    rw [h3 j hj] at hb
    simp at hb
    rcases (lk (7 * t + j) (by omega)).2 with ⟨g1, -⟩ | ⟨g1, g2, g3, g4, g5, -⟩
    · rw [g1] at hb
      exact absurd hb.2 (by decide)
    · exact ⟨hb.1, g3, g4, g5⟩
  · rcases (lk (7 * t + j) (by omega)).2 with ⟨g1, g2, -⟩ | ⟨g1, g2, g3, g4, g5, t', a', b1, b2, b3, b4, b5⟩
    · exact ⟨Or.inl g1, by rw [g1, g2]⟩
    · have : j = a' := by omega
      subst this
      exact ⟨Or.inr ⟨g1, b4⟩, by rw [g1, g2]⟩
theorem m_ranged {Po : Int32 → mm_T → Prop} {N t : Nat} {μ : mm_T} (hd : iv_nd N μ) (h7 : N ≤ 7) (hM : μ.1 26 0 2 = nI N) (ht : t < N) (hti : is_t μ t) (lk : iv_lk N μ) (hP : Po (nI (ra_ μ N t)) μ) : pX11_rangedBy Po μ (nI t) := by
  obtain ⟨-, hg⟩ := Gd_ra (k := 0) h7 ht hti lk
  unfold pX11_rangedBy
  refine lp_up N (fun j x => x = (μ, nI t, nI (rs_ (fun j => μ.1 12 (7 * t + j) 3) j), nI j)) ?_ 0 (by omega) _ rfl
  intro j x hj hI K hK
  subst hI
  unfold pX11_rangedBy_l4
  rw [hM]
  rcases Nat.eq_or_lt_of_le hj with e | hlt
  · refine (iT (show nI N ≤ nI j by rw [e]; exact Int32.le_refl _)).mpr ?_
    rw [e]
    exact hP
  · obtain ⟨g1, g2⟩ := hg j hlt
    obtain ⟨r1, r2, r3⟩ := rs_b (fun j => μ.1 12 (7 * t + j) 3) j (by omega)
    refine (iF (nI_ge hlt (by omega))).mpr ⟨vp_in_nI (by omega) (by omega), ?_⟩
    show (¬ (μ.1 28 0 (nI j).toNatClampNeg) = 0 → _) ∧ ((μ.1 28 0 (nI j).toNatClampNeg) = 0 → _)
    rw [nI_clamp (by omega), (hd j hlt).2.1]
    have stay : ¬ μ.1 12 (7 * t + j) 3 = 1 → pX11_rangedBy_b41 (fun μ a1 a2 a3 => K (μ, a1, a2, a3)) μ (nI t) (nI j) (nI (rs_ (fun j => μ.1 12 (7 * t + j) 3) j)) := by
      intro q
      unfold pX11_rangedBy_b41
      intro x2 e2
      rw [Int32.or_zero] at e2
      refine hK hlt _ ?_
      rw [nI_1, e2]
      have : rs_ (fun j => μ.1 12 (7 * t + j) 3) (j + 1) = rs_ (fun j => μ.1 12 (7 * t + j) 3) j := by
        conv => lhs; unfold rs_
        rw [if_neg q, Nat.add_zero]
      rw [this]
    rcases ta_cases hd hlt with q | q
    · refine (jT q).mpr ((q_pair (by omega) (by omega)).mpr ⟨vp_in_nI (by omega) (by omega), ?_⟩)
      rw [nI_clamp (by omega), g2]
      rcases g1 with z | ⟨z, -⟩
      · exact (iT z).mpr (stay (by rw [z]; decide))
      · refine (iF (by rw [z]; decide)).mpr ?_
        intro x6 e6
        have e6 : x6 = nI (rs_ (fun j => μ.1 12 (7 * t + j) 3) j) ||| ((1 : Int32) <<< (nI j &&& 31)) := e6
        rw [bo_ _ r2 j (by omega) (by rw [r3 j (by omega)]; simp)] at e6
        refine hK hlt _ ?_
        show (μ, nI t, x6, nI j + 1) = _
        rw [nI_1, e6]
        have : rs_ (fun j => μ.1 12 (7 * t + j) 3) (j + 1) = rs_ (fun j => μ.1 12 (7 * t + j) 3) j + 2 ^ j := by
          conv => lhs; unfold rs_
          rw [if_pos z]
        rw [this]
    · refine (jF (by rw [show μ.1 9 j 0 = 1 from q]; decide)).mpr (stay ?_)
      rcases g1 with z | ⟨-, z⟩
      · rw [z]; decide
      · rw [is_a, show μ.1 9 j 0 = 1 from q] at z
        exact absurd z (by decide)
/-- the anchors that are left -/
theorem m_left {Po : Int32 → mm_T → Prop} {N t : Nat} {μ : mm_T} (hd : iv_nd N μ) (h7 : N ≤ 7) (hM : μ.1 26 0 2 = nI N) (ht : t < N) (hti : is_t μ t) (lk : iv_lk N μ) (lv : iv_lv μ) (hP : Gd_ N t μ (lt_ μ N t) → Po (nI (lt_ μ N t)) μ) : pX11_leftOf Po μ (nI t) := by
  obtain ⟨Gr, -⟩ := Gd_ra (k := 0) h7 ht hti lk
  obtain ⟨-, lm, lm1, lm2, lm3⟩ := lv
  have lmT : (μ.1 6 0 4).toInt = lm := by rw [lm2]; exact nI_toInt (by omega)
  have b7 := bn7 (ra_ μ N t) Gr.1
  unfold pX11_leftOf
  refine m_ranged hd h7 hM ht hti lk ?_
  refine lp_up 7 (fun j x => ∃ S n, x = (μ, nI t, nI S) ∧ Gd_ N t μ S ∧ lt_ μ N t = lf_ (df_ μ t) (μ.1 6 0 4).toInt n S ∧ cn_ S 7 ≤ n ∧ j + cn_ S 7 ≤ 7) ?_ 0 (by omega) _ ⟨_, 7, rfl, Gr, rfl, b7, by omega⟩
  intro j x hj hI K hK
  obtain ⟨S, n, rfl, G, hl, hn, hj7⟩ := hI
  unfold pX11_leftOf_l6
  refine m_many G.1 ?_
  have lb := lb_b hd G
  have c7 := bn7 S G.1
  have stop : ¬ (3 < cn_ S 7 ∧ (lm : Int) < lb_ (df_ μ t) S) → Po (nI S) μ := by
    intro q
    have : lt_ μ N t = S := by
      rw [hl, lmT]
      cases n with
      | zero => rfl
      | succ n => unfold lf_; rw [if_neg q]
    rw [this] at hP
    exact hP G
  by_cases b3 : cn_ S 7 ≤ 3
  · exact (iT (show nI (cn_ S 7) ≤ nI 3 from nI_le b3 (by omega))).mpr (stop (by omega))
  · refine (iF (show ¬ nI (cn_ S 7) ≤ nI 3 from nI_ge (by omega) (by omega))).mpr (m_leastBy hd h7 hM (by omega) G ?_)
    rw [lm3, oI_n lm, oI_le lb.1 lb.2.1 (by omega) (by omega)]
    by_cases bl : lb_ (df_ μ t) S ≤ (lm : Int)
    · exact (iT bl).mpr (stop (by omega))
    · refine (iF bl).mpr ?_
      obtain ⟨b0, hb0, hbt⟩ := b3n S G.1 (by omega)
      obtain ⟨b, hb⟩ := wf_e (d := df_ μ t) (S := S) 7 ⟨b0, hb0, hbt⟩
      have hbs := wf_s 7 b hb
      refine m_worstOf hd h7 hM (by omega) G hb ?_
      intro x9 e9
      have e9 : x9 = nI S &&& (((1 : Int32) <<< (nI b &&& 31)) ^^^ (-1 : Int32)) := e9
      rw [ba_ S G.1 b hbs.1] at e9
      have cw := bwc S G.1 b hbs.1 hbs.2
      obtain ⟨n', rfl⟩ : ∃ n', n = n' + 1 := ⟨n - 1, by omega⟩
      refine hK (by omega) _ ⟨wo_ S b, n', by rw [e9], Gd_w G hbs.1, ?_, by omega, by omega⟩
      rw [hl, lmT]
      conv => lhs; unfold lf_
      rw [if_pos ⟨by omega, by omega⟩, hb]
