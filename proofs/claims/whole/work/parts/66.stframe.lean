theorem st_frame (k : Nat) (μ : mm_T) (h : Inv_ k μ) (hk : k ≤ 512) : so_frame (Inv_ k) μ := by
  have h0 := h
  obtain ⟨pg, ct, sq, N, h7, hN, hM, la, fd⟩ := h
  unfold so_frame
  rcases Nat.eq_zero_or_pos N with e | hp
  · subst e
    unfold pX10_frame pX11_frame
    exact (q_rd_f hN).mpr (i0.mpr ((q_fd_f hM).mpr (i0.mpr ⟨rfl, h0⟩)))
  obtain ⟨X, Rc, Rm, V, S⟩ := X_of (N := N) (k := k) ⟨hp, h7, by omega, sq, hN, hM, la, fd hp⟩ ct
  obtain ⟨f1, f2, f3, f4, f5, f6, f7, f8⟩ := fd hp
  have Vb := V.1
  by_cases hB : X.1 + 48000 ≤ 9999999
  · refine c_frame S f3 f7 V hp rfl hB (by omega) Rc f8 ?_
    intro m Fc Rc2 pl2 an2
    have Fa : fm_ xc_ μ (mm_I m 0 0 6 (m.1 0 0 6 + 1)) → True := fun _ => trivial
    have c05 : m.1 0 0 5 = μ.1 0 0 5 := Fc.1 0 0 5 (by unfold xc_; omega)
    have c06 : m.1 0 0 6 = μ.1 0 0 6 := Fc.1 0 0 6 (by unfold xc_; omega)
    have E : ∀ x b c, x ≠ 0 → (mm_I m 0 0 6 (m.1 0 0 6 + 1)).1 x b c = m.1 x b c := by
      intro x b c hx
      rw [mm_Ir, if_neg (fun q => hx q.1)]
    have S1 := Sx_fr (xp_c Fc) S
    have ta1 := x_ta (xp_c Fc) f3
    have sl1 : iv_sl N m := by simpa only [iv_sl, x_t (xp_c Fc), x_o (xp_c Fc) 18 (by omega), x_o (xp_c Fc) 41 (by omega)] using f7
    have Rm1 := Rm_fr Fc Rm
    have V1 := Xv_fr (xp_c Fc) V
    have S1' : Sx_ N (mm_I m 0 0 6 (m.1 0 0 6 + 1)) := by
      simpa only [Sx_, iv_nd, iv_sq, pt_, iv_lv, np_, E _ _ _ (show (9 : Nat) ≠ 0 by omega), E _ _ _ (show (6 : Nat) ≠ 0 by omega), E _ _ _ (show (12 : Nat) ≠ 0 by omega), E _ _ _ (show (13 : Nat) ≠ 0 by omega), E _ _ _ (show (14 : Nat) ≠ 0 by omega), E _ _ _ (show (20 : Nat) ≠ 0 by omega), E _ _ _ (show (26 : Nat) ≠ 0 by omega), E _ _ _ (show (28 : Nat) ≠ 0 by omega), E _ _ _ (show (29 : Nat) ≠ 0 by omega), E _ _ _ (show (30 : Nat) ≠ 0 by omega), E _ _ _ (show (31 : Nat) ≠ 0 by omega), E _ _ _ (show (32 : Nat) ≠ 0 by omega), E _ _ _ (show (33 : Nat) ≠ 0 by omega), E _ _ _ (show (36 : Nat) ≠ 0 by omega), E _ _ _ (show (37 : Nat) ≠ 0 by omega), E _ _ _ (show (38 : Nat) ≠ 0 by omega)] using S1
    have ta1' : iv_ta N (mm_I m 0 0 6 (m.1 0 0 6 + 1)) := by
      simpa only [iv_ta, is_t, is_a, E _ _ _ (show (9 : Nat) ≠ 0 by omega)] using ta1
    have sl1' : iv_sl N (mm_I m 0 0 6 (m.1 0 0 6 + 1)) := by
      simpa only [iv_sl, is_t, E _ _ _ (show (9 : Nat) ≠ 0 by omega), E _ _ _ (show (18 : Nat) ≠ 0 by omega), E _ _ _ (show (41 : Nat) ≠ 0 by omega)] using sl1
    have V1' : Xv_ N (9999999 + 2400 * k) (mm_I m 0 0 6 (m.1 0 0 6 + 1)) X := by
      simpa only [Xv_, is_t, is_a, E _ _ _ (show (9 : Nat) ≠ 0 by omega)] using V1
    have Rm1' : Rm_ N X (mm_I m 0 0 6 (m.1 0 0 6 + 1)) := by
      obtain ⟨r1, r2, r3, r4, r5, r6⟩ := Rm1
      refine ⟨by rw [E _ _ _ (by omega)]; exact r1, Lm_c (fun c _ _ => E _ _ _ (by omega)) (fun c => E _ _ _ (by omega)) (fun c => E _ _ _ (by omega)) _ r2, fun q hq => ?_, by rw [E _ _ _ (by omega)]; exact r4, by rw [E _ _ _ (by omega)]; exact r5, fun i hi ht => ?_⟩
      · rw [E _ _ _ (by omega), E _ _ _ (by omega)]
        exact r3 q hq
      · rw [E _ _ _ (by omega)]
        exact r6 i hi (by simpa only [is_t, E _ _ _ (show (9 : Nat) ≠ 0 by omega)] using ht)
    have Rc1' : Rc_ N (X.1 + 48000, (fz_ μ N X.1 X 16).1.2) (mm_I m 0 0 6 (m.1 0 0 6 + 1)) := by
      obtain ⟨r1, r2, r3, r4, r5, r6⟩ := Rc2
      refine ⟨r1, Lc_c (fun c => E _ _ _ (by omega)) (fun c => rfl) (fun c => rfl) ?_ _ r2, fun q hq => ?_, by simpa [mm_Ir] using r4, by simpa [mm_Ir] using r5, fun i hi ht => ?_⟩
      · funext i j
        simp only [fl_, nx_, ny_, E _ _ _ (show (9 : Nat) ≠ 0 by omega)]
      · rw [E _ _ _ (by omega), E _ _ _ (by omega)]
        exact r3 q hq
      · rw [E _ _ _ (by omega)]
        exact r6 i hi (by simpa only [is_t, E _ _ _ (show (9 : Nat) ≠ 0 by omega)] using ht)
    have pl1' : iv_pl N (mm_I m 0 0 6 (m.1 0 0 6 + 1)) := pl_c (fun _ => E _ _ _ (by omega)) (fun _ => E _ _ _ (by omega)) (fun _ => E _ _ _ (by omega)) (fun _ => E _ _ _ (by omega)) (E _ _ _ (by omega)) (fun _ => E _ _ _ (by omega)) (fun _ _ => E _ _ _ (by omega)) pl2
    have fz_eq : fz_ (mm_I m 0 0 6 (m.1 0 0 6 + 1)) N X.1 X = fz_ μ N X.1 X := by
      have G : fm_ (fun a c => xc_ a c ∨ (a = 0 ∧ c = 6)) μ (mm_I m 0 0 6 (m.1 0 0 6 + 1)) := (Fc.mono (fun a c q => Or.inl q)).I (Or.inr ⟨rfl, rfl⟩)
      have a9 : ∀ i c, c ≠ 7 → (mm_I m 0 0 6 (m.1 0 0 6 + 1)).1 9 i c = μ.1 9 i c := fun i c hc => by rw [E _ _ _ (by omega)]; exact x_9 (xp_c Fc) i c hc
      have F1 : xn_ (mm_I m 0 0 6 (m.1 0 0 6 + 1)) = xn_ m ∧ xv_ (mm_I m 0 0 6 (m.1 0 0 6 + 1)) = xv_ m ∧ ab_ (mm_I m 0 0 6 (m.1 0 0 6 + 1)) = ab_ m := by
        have ec : ck_ (mm_I m 0 0 6 (m.1 0 0 6 + 1)) = ck_ m := by
          funext i T
          simp only [ck_, E _ _ _ (show (9 : Nat) ≠ 0 by omega)]
        have el : fl_ (mm_I m 0 0 6 (m.1 0 0 6 + 1)) = fl_ m := by
          funext i j
          simp only [fl_, nx_, ny_, E _ _ _ (show (9 : Nat) ≠ 0 by omega)]
        have ef : fe_ (mm_I m 0 0 6 (m.1 0 0 6 + 1)) = fe_ m := by
          have e : ∀ q n, fx_ (mm_I m 0 0 6 (m.1 0 0 6 + 1)) q n = fx_ m q n := by
            intro q n
            induction n with
            | zero => rfl
            | succ n ih => simp only [fx_, ih, E _ _ _ (show (13 : Nat) ≠ 0 by omega), E _ _ _ (show (14 : Nat) ≠ 0 by omega), E _ _ _ (show (6 : Nat) ≠ 0 by omega)]
          funext q
          simp only [fe_, e, np_, E _ _ _ (show (12 : Nat) ≠ 0 by omega)]
        have et : tt_ (mm_I m 0 0 6 (m.1 0 0 6 + 1)) = tt_ m := by
          funext t a T j
          simp only [tt_, wy_, dl_, ef, el, E _ _ _ (show (9 : Nat) ≠ 0 by omega)]
        have es : sc_ (mm_I m 0 0 6 (m.1 0 0 6 + 1)) = sc_ m := by
          funext t a T j
          simp only [sc_, ec, et]
        have ea : ∀ n i, af_ (mm_I m 0 0 6 (m.1 0 0 6 + 1)) n i = af_ m n i := by
          intro n
          induction n with
          | zero => intro i; rfl
          | succ n ih => intro i; simp only [af_, ih, E _ _ _ (show (9 : Nat) ≠ 0 by omega)]
        refine ⟨?_, ?_, ?_⟩
        · funext X t a
          simp only [xn_, ef, et, es, one_, two_]
        · funext X t a
          simp only [xv_, ef, es, two_]
        · funext N a
          simp only [ab_, f0_, ea]
      funext s
      induction s with
      | zero => rfl
      | succ s ih => simp only [fz_, ih, fs_, F1.1, F1.2.1, F1.2.2, x_xn (xp_c Fc), x_xv (xp_c Fc), x_ab (xp_c Fc), E _ _ _ (show (18 : Nat) ≠ 0 by omega), x_o (xp_c Fc) 18 (by omega)]
    have e26 : ∀ c, m.1 26 0 c = μ.1 26 0 c := fun c => Fc.1 26 0 c (by unfold xc_; omega)
    have o26 : ∀ c, (mm_I m 0 0 6 (m.1 0 0 6 + 1)).1 26 0 c = μ.1 26 0 c := fun c => (E _ _ _ (by omega)).trans (e26 c)
    have n05 : (mm_I m 0 0 6 (m.1 0 0 6 + 1)).1 0 0 5 = μ.1 0 0 5 := by simp [mm_Ir, c05]
    have n06 : (mm_I m 0 0 6 (m.1 0 0 6 + 1)).1 0 0 6 = μ.1 0 0 6 + 1 := by simp [mm_Ir, c06]
    have o9 : ∀ i c, c ≠ 7 → (mm_I m 0 0 6 (m.1 0 0 6 + 1)).1 9 i c = μ.1 9 i c := fun i c hc => (E _ _ _ (by omega)).trans (x_9 (xp_c Fc) i c hc)
    have oo : ∀ a, (a = 13 ∨ a = 14 ∨ a = 18 ∨ a = 20 ∨ a = 28 ∨ a = 29 ∨ a = 30 ∨ a = 31 ∨ a = 32 ∨ a = 33 ∨ a = 34 ∨ a = 36 ∨ a = 37 ∨ a = 38 ∨ a = 41 ∨ a = 1 ∨ a = 2 ∨ a = 27) → ∀ b c, (mm_I m 0 0 6 (m.1 0 0 6 + 1)).1 a b c = μ.1 a b c := fun a ha b c => (E _ _ _ (by omega)).trans (x_o (xp_c Fc) a ha b c)
    have an3 : ∀ i, i < N → is_a μ i → (mm_I m 0 0 6 (m.1 0 0 6 + 1)).1 9 i 7 = μ.1 9 i 7 := fun i hi ha => (E _ _ _ (by omega)).trans (an2 i hi ha)
    generalize mm_I m 0 0 6 (m.1 0 0 6 + 1) = w at *
    refine m_frame S1' ta1' sl1' V1' hp rfl hB (by omega) Rm1' ?_
    intro w2 Fm Rm2
    rw [fz_eq] at Rm2 ⊢
    have Z := fz_ok S f3 f7 V (Nat.le_refl _) hB (by omega) 16 (by omega)
    have Rc3 := Rc_fr Fm Rc1'
    have g : ∀ x b c, ¬ (x = 26 ∧ c = 30) → (mm_I w2 26 0 30 (w2.1 26 0 30 + 1)).1 x b c = w2.1 x b c := by
      intro x b c hx
      rw [mm_Ir, if_neg (fun q => hx ⟨q.1, q.2.2⟩)]
    have gE : ∀ x, x ≠ 26 → ∀ b c, (mm_I w2 26 0 30 (w2.1 26 0 30 + 1)).1 x b c = w2.1 x b c := fun x hx b c => g x b c (fun q => hx q.1)
    have g26 : ∀ c, c ≠ 30 → (mm_I w2 26 0 30 (w2.1 26 0 30 + 1)).1 26 0 c = w2.1 26 0 c := fun c hc => g 26 0 c (fun q => hc q.2)
    have S2 := Sx_fr (xp_m Fm) S1'
    have h9 : ∀ i c, c ≠ 7 → (mm_I w2 26 0 30 (w2.1 26 0 30 + 1)).1 9 i c = μ.1 9 i c := fun i c hc => (gE 9 (by omega) i c).trans ((x_9 (xp_m Fm) i c hc).trans (o9 i c hc))
    have ho : ∀ a, (a = 13 ∨ a = 14 ∨ a = 18 ∨ a = 20 ∨ a = 28 ∨ a = 29 ∨ a = 30 ∨ a = 31 ∨ a = 32 ∨ a = 33 ∨ a = 34 ∨ a = 36 ∨ a = 37 ∨ a = 38 ∨ a = 41 ∨ a = 1 ∨ a = 2 ∨ a = 27) → ∀ b c, (mm_I w2 26 0 30 (w2.1 26 0 30 + 1)).1 a b c = μ.1 a b c := fun a ha b c => (gE a (by omega) b c).trans ((x_o (xp_m Fm) a ha b c).trans (oo a ha b c))
    have ht : ∀ i, is_t (mm_I w2 26 0 30 (w2.1 26 0 30 + 1)) i ↔ is_t μ i := fun i => by unfold is_t; rw [h9 i 0 (by omega)]
    have ha : ∀ i, is_a (mm_I w2 26 0 30 (w2.1 26 0 30 + 1)) i ↔ is_a μ i := fun i => by unfold is_a; rw [h9 i 0 (by omega)]
    refine ⟨rfl, inv_X (X := (X.1 + 48000, (fz_ μ N X.1 X 16).1.2)) (N := N) ?_ ?_ ?_ ?_ ?_ ?_ ?_ ?_ ?_ ?_ ?_⟩
    · simpa only [Sx_, iv_nd, iv_sq, pt_, iv_lv, np_, gE 9 (by omega), gE 6 (by omega), gE 12 (by omega), gE 13 (by omega), gE 14 (by omega), gE 20 (by omega), g26 18 (by omega), g26 19 (by omega), g26 2 (by omega), gE 28 (by omega), gE 29 (by omega), gE 30 (by omega), gE 31 (by omega), gE 32 (by omega), gE 33 (by omega), gE 36 (by omega), gE 37 (by omega), gE 38 (by omega)] using S2
    · obtain ⟨r1, r2, r3, r4, r5, r6⟩ := Rc3
      refine ⟨r1, Lc_c (fun c => gE _ (by omega) _ _) (fun c => rfl) (fun c => rfl) ?_ _ r2, fun q hq => ?_, by rw [gE _ (by omega)]; exact r4, by rw [gE _ (by omega)]; exact r5, fun i hi ht => ?_⟩
      · funext i j
        simp only [fl_, nx_, ny_, gE 9 (by omega)]
      · rw [gE _ (by omega), gE _ (by omega)]
        exact r3 q hq
      · rw [gE _ (by omega)]
        exact r6 i hi (by simpa only [is_t, gE 9 (by omega)] using ht)
    · obtain ⟨r1, r2, r3, r4, r5, r6⟩ := Rm2
      refine ⟨by rw [g26 _ (by omega)]; exact r1, Lm_c (fun c _ _ => g26 _ (by omega)) (fun c => gE _ (by omega) _ _) (fun c => gE _ (by omega) _ _) _ r2, fun q hq => ?_, by rw [g26 _ (by omega)]; exact r4, by rw [g26 _ (by omega)]; exact r5, fun i hi ht => ?_⟩
      · rw [gE _ (by omega), gE _ (by omega)]
        exact r3 q hq
      · rw [gE _ (by omega)]
        exact r6 i hi (by simpa only [is_t, gE 9 (by omega)] using ht)
    · have : Xv_ N (9999999 + 2400 * k) μ (X.1 + 48000, (fz_ μ N X.1 X 16).1.2) := ⟨show X.1 + 48000 ≤ _ by omega, Z.1.2⟩
      simpa only [Xv_, ht, ha] using this
    · have e (x b c : Nat) (hh : ¬ xm_ x c) (h26 : x ≠ 26) : (mm_I w2 26 0 30 (w2.1 26 0 30 + 1)).1 x b c = w.1 x b c := (gE x h26 b c).trans (Fm.1 x b c hh)
      exact pl_c (fun q => e 12 q 3 (by unfold xm_; omega) (by omega)) (fun q => e 12 q 4 (by unfold xm_; omega) (by omega)) (fun q => e 9 q 1 (by unfold xm_; omega) (by omega)) (fun q => e 9 q 2 (by unfold xm_; omega) (by omega)) (e 6 0 4 (by unfold xm_; omega) (by omega)) (fun q => e 9 q 0 (by unfold xm_; omega) (by omega)) (fun q j => e 10 q j (by unfold xm_; omega) (by omega)) pl1'
    · simpa only [iv_pg, ho 1 (by omega), ho 2 (by omega), ho 27 (by omega), g26 0 (by omega), x_26 (xp_m Fm) 0 (by omega), o26 0] using pg
    · rw [g26 29 (by omega), x_26 (xp_m Fm) 29 (by omega), o26, gE 0 (by omega), Fm.1 0 0 5 (by unfold xm_; omega), n05]
      exact ct.2.2.1
    · rw [gE 0 (by omega), Fm.1 0 0 6 (by unfold xm_; omega), n06, mm_Ir, if_pos ⟨rfl, rfl, rfl⟩, x_26 (xp_m Fm) 30 (by omega), o26, ct.2.2.2]
    · intro i hi
      rw [ht, ha, h9 i 6 (by omega), ho 34 (by omega)]
      refine ⟨fun q => ((f2 i hi).1 q).1, fun q => ⟨((f2 i hi).2 q).1, ?_⟩⟩
      rw [gE 9 (by omega), Fm.1 9 i 7 (by unfold xm_; omega), an3 i hi q]
      exact ((f2 i hi).2 q).2
    · simpa only [iv_ta, ht, ha] using f3
    · simpa only [iv_sl, ht, ho 18 (by omega), ho 41 (by omega)] using f7
  · unfold pX10_frame pX11_frame
    refine (q_rd_t hN h7 hp).mpr (i1.mpr ((iF ?_).mpr ((q_fd_t hM h7 hp).mpr (i1.mpr ((iT ?_).mpr ⟨rfl, h0⟩)))))
    · rw [lg_cmp_le, Rc.1, show (48000 : Int64) = lN 48000 from rfl, lN_add]
      exact fun q => hB ((lN_le (b := 9999999) (by omega) (by omega)).mp q)
    · rw [Rm.1, show (48000 : Int32) = nI 48000 from rfl, nI_add]
      exact nI_lt (a := 9999999) (by omega) (by omega)
