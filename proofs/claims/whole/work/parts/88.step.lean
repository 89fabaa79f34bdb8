/-! digest, and all the calls. -/
section DE
variable {μ m : mm_T} {N : Nat}
theorem cp_g (F : fmi_ cp_ μ m) : (∀ h, g1_ m N h = g1_ μ N h) ∧ (∀ h, g2_ m N h = g2_ μ N h) ∧ (∀ h, g3_ m N h = g3_ μ N h) ∧ (∀ h, g5_ m N h = g5_ μ N h) ∧ (∀ h, g6_ m N h = g6_ μ N h) := by
  have E (a : Nat) (ha : ¬ ((21 ≤ a ∧ a ≤ 25) ∨ a = 10)) : m.1 a = μ.1 a := by
    funext b c
    exact F.1 a b c ha
  have e9 := E 9 (by omega)
  have e6 := E 6 (by omega)
  have e12 := E 12 (by omega)
  have e13 := E 13 (by omega)
  have e14 := E 14 (by omega)
  have e15 := E 15 (by omega)
  have e18 := E 18 (by omega)
  have e26 := E 26 (by omega)
  have e42 := E 42 (by omega)
  have e43 := E 43 (by omega)
  have pdE := cp_pd F
  have pvE := (cp_pv F).2.2.2
  have pnE : ∀ n, pn_ m N n = pn_ μ N n := by
    intro n
    induction n with
    | zero => rfl
    | succ n ih => simp only [pn_, ih, pdE]
  have tmE : tm_ m = tm_ μ := by simp only [tm_, e26]
  have ckE : ck_ m = ck_ μ := by funext i T; simp only [ck_, e9]
  have flE : fl_ m = fl_ μ := by funext i j; simp only [fl_, nx_, ny_, e9]
  have feE : fe_ m = fe_ μ := by
    have e : ∀ q n, fx_ m q n = fx_ μ q n := by
      intro q n
      induction n with
      | zero => rfl
      | succ n ih => simp only [fx_, ih, e13, e14, e6]
    funext q
    simp only [fe_, e, np_, e12]
  have avE : av_ m N = av_ μ N := by funext w; simp only [av_, e9, e6, e18, tmE, pnE]
  have ndE : nd_ m = nd_ μ := by funext i w; simp only [nd_, e9, ckE, tmE]
  have q3E : q3_ m = q3_ μ := by funext t a h; simp only [q3_, e9, e12, flE, feE]
  have lsE : ls_ m = ls_ μ := by funext w; simp only [ls_, e43, e15]
  have hdE : hd_ m = hd_ μ := by funext i; simp only [hd_, e42, e26, e43, e15, ckE, flE]
  have q5E : q5_ m = q5_ μ := by funext i h; simp only [q5_, e15, hdE]
  have q6E : q6_ m N = q6_ μ N := by funext t h; simp only [q6_, pdE, pvE]
  exact ⟨fun h => by simp only [g1_, avE], fun h => by simp only [g2_, ndE], fun h => by simp only [g3_, q3E], fun h => by simp only [g5_, e15, q5E, lsE], fun h => by simp only [g6_, q6E]⟩
end DE
theorem st_digest (k : Nat) (μ : mm_T) (h : Inv_ k μ) (hk : k ≤ 600) : so_digest (Inv_ k) μ := by
  obtain ⟨N, h7, hN, hM, hd, hI⟩ := Iv_of h hk
  obtain ⟨L, l1, l2, l3, l4⟩ := h.1
  have ct := h.2.1
  unfold so_digest pX10_digest
  rcases hI with e | hI
  · subst e
    refine (q_rd_f hN).mpr (i0.mpr (c_with8 l1 l2 ?_))
    unfold pX11_digest
    intro m1 e1
    rw [e1]
    exact (q_fd_f (μ := mm_L μ 26 0 41 1601) hM).mpr (i0.mpr (m_tail l1 l3 l2 l4 ct ⟨rfl, inv_sE ((sE.rf μ).L) h⟩))
  · have hp := hI.1
    refine (q_rd_t hN h7 hp).mpr (i1.mpr (c_with1 hI (c_with3 hI (c_with5 hI (c_with6 hk h hN h7 hp ?_)))))
    intro m F pl
    have mV := inv_cp F h hN h7 pl
    have m6 : m.1 6 0 1 = nI N := (F.1 6 0 1 (by unfold cp_; omega)).trans hN
    have J := Iv_N mV hk m6 h7 hp
    have m1 : m.1 1 0 1 = nI L := (F.1 1 0 1 (by unfold cp_; omega)).trans l2
    have m26 : m.1 26 0 0 = nI L := (F.1 26 0 0 (by unfold cp_; omega)).trans l3
    have m27 : ∀ k, k < L → m.1 27 0 k = m.1 2 0 k := fun k hk => by
      rw [F.1 27 0 k (by unfold cp_; omega), F.1 2 0 k (by unfold cp_; omega)]
      exact l4 k hk
    refine c_with7 J (c_with8 l1 m1 ?_)
    unfold pX11_digest
    intro w1 e1
    rw [e1]
    obtain ⟨G1, G2, G3, G5, G6⟩ := cp_g (N := N) F
    refine (q_fd_t (μ := mm_L m 26 0 41 1601) J.2.2.2.2.2.1 h7 hp).mpr (i1.mpr (m_field (Iv_h mV hk m6 h7 hp) (m_tail l1 m26 m1 m27 mV.2.1 ⟨?_, inv_sE ((sE.rf m).L) mV⟩)))
    rw [G1, G2, G3, G5, G6]
theorem step_all (k : Nat) (μ : mm_T) (hk : k < 512) (h : Inv_ k μ) : so_all (Inv_ (k + 1)) μ := by
  have h1 := inv_skip k μ hk h
  exact ⟨st_letter _ μ h1, st_blank _ μ h1, st_fault _ μ h1, st_field _ μ h1, st_node _ μ h1 (by omega), st_flight _ μ h1 (by omega), st_clock _ μ h1 (by omega), st_delay _ μ h1, st_path _ μ h1, st_block _ μ h1, st_firstPath _ μ h1 (by omega), st_level _ μ h1, st_exchange k μ h (by omega), st_idle _ μ h1 (by omega), st_last _ μ h1 (by omega), st_heard _ μ h1 (by omega), st_range _ μ h1, st_misfit _ μ h1 (by omega), st_placed _ μ h1 (by omega), st_limit _ μ h1, st_want _ μ h1, st_deal _ μ h1, st_slot _ μ h1, st_frame _ μ h1 (by omega), st_about _ μ h1 (by omega), st_count _ μ h1, st_digest _ μ h1 (by omega)⟩
