section DM
variable {Po : Int32 → mm_T → Prop} {μ : mm_T} {per o t N : Nat} {own : Nat → Int32}
theorem m_dealTo (hp : pw_ per) (ht : t < 7) (hper : μ.1 34 0 t = nI per) (hw : ∀ s, s < 16 → μ.1 41 0 s = own s) (h : ∀ m, fm_ d41 μ m → (∀ s, s < 16 → m.1 41 0 s = (gv_ own per t).1 s) → Po (nI (gv_ own per t).2) m) : pX11_dealTo Po μ (nI t) := by
  have hp16 : per ≤ 16 := by rcases hp with rfl | rfl | rfl | rfl | rfl <;> omega
  unfold pX11_dealTo
  refine ⟨vp_in_nI ht (by omega), ?_⟩
  intro x2 e2
  rw [nI_clamp (by omega), hper] at e2
  subst e2
  refine lp_up per (fun j x => x = (μ, nI t, nI per, nI j) ∧ ff_ own per (per - j) j = ff_ own per per 0) ?_ 0 (by omega) _ ⟨rfl, rfl⟩
  intro j x hj hI K hK
  obtain ⟨rfl, hI⟩ := hI
  unfold pX11_dealTo_l9
  rcases Nat.eq_or_lt_of_le hj with e | hlt
  · have le : nI per ≤ nI j := by rw [e]; exact Int32.le_refl _
    refine (iT le).mpr ?_
    rw [e, Nat.sub_self] at hI
    have hI : none = ff_ own per per 0 := hI
    have hg : gv_ own per t = (own, 0) := by unfold gv_; rw [← hI]
    rw [hg] at h
    refine lp_up 0 (fun _ x => x = (μ, nI t, nI per, nI j, nI j)) ?_ 0 (by omega) _ rfl
    intro i x _ hx K2 _
    subst hx
    unfold pX11_dealTo_l32
    have fin : (nI per ≤ nI j → Po 0 μ) ∧ (¬ (nI per ≤ nI j) → Po 1 μ) := (iT le).mpr (h μ fm_.rf hw)
    by_cases b : (16 : Int32) ≤ nI j
    · exact (iT b).mpr fin
    · exact (iF b).mpr ((iT le).mpr fin)
  · have nle : ¬ nI per ≤ nI j := nI_ge hlt (by omega)
    refine (iF nle).mpr (m_free hp hlt hw ?_)
    obtain ⟨m, hm⟩ : ∃ m, per - j = m + 1 := ⟨per - j - 1, by omega⟩
    rw [hm, ff_s] at hI
    cases hf : fb_ own per j with
    | false =>
      rw [hf, if_neg (by decide)] at hI
      refine (jT rfl).mpr (hK hlt _ ⟨by rw [nI_1], ?_⟩)
      rw [show per - (j + 1) = m by omega]
      exact hI
    | true =>
      rw [hf, if_pos rfl] at hI
      refine (jF (by decide)).mpr ?_
      have hg : gv_ own per t = (fun s => if s % per = j then nI t else own s, 1) := by unfold gv_; rw [← hI]
      rw [hg] at h
      refine lp_up 16 (fun i x => x.2 = (nI t, nI per, nI j, nI (j + i * per)) ∧ fm_ d41 μ x.1 ∧ ∀ s, s < 16 → x.1.1 41 0 s = wr_ own per j t (j + i * per) s) ?_ 0 (by omega) _ ?_
      rotate_left
      · refine ⟨by rw [Nat.zero_mul, Nat.add_zero], fm_.rf, fun s hs => ?_⟩
        unfold wr_
        rw [if_neg, hw s hs]
        rcases hp with rfl | rfl | rfl | rfl | rfl <;> omega
      rintro i ⟨w, y1, y2, y3, y4⟩ hi ⟨k1, k2, k3⟩ K2 hK2
      cases k1
      unfold pX11_dealTo_l32
      have hb : j + i * per < 2 ^ 20 := by rcases hp with rfl | rfl | rfl | rfl | rfl <;> omega
      rcases Nat.lt_or_ge (j + i * per) 16 with b | b
      · refine (iF (show ¬ nI 16 ≤ nI (j + i * per) from nI_ge b (by omega))).mpr ((iF nle).mpr ⟨vp_in_nI b (by omega), ?_⟩)
        intro m2 e2 x3 e3
        have e3 : x3 = nI (j + i * per) + nI per := e3
        rw [nI_add] at e3
        have e2 : m2 = mm_I w 41 0 (nI (j + i * per)).toNatClampNeg (nI t) := e2
        rw [nI_clamp (by omega)] at e2
        refine hK2 (by rcases hp with rfl | rfl | rfl | rfl | rfl <;> omega) _ ⟨by rw [e3, Nat.succ_mul, Nat.add_assoc], by rw [e2]; exact k2.I rfl, fun s hs => ?_⟩
        show m2.1 41 0 s = _
        rw [e2, mm_Ir]
        unfold wr_
        by_cases e : s = j + i * per
        · rw [if_pos ⟨rfl, rfl, e⟩, if_pos]
          rcases hp with rfl | rfl | rfl | rfl | rfl <;> omega
        · rw [if_neg (fun q => e q.2.2)]
          have k3 : w.1 41 0 s = _ := k3 s hs
          rw [k3]
          unfold wr_
          by_cases e5 : s % per = j ∧ s < j + i * per
          · rw [if_pos e5, if_pos]
            rcases hp with rfl | rfl | rfl | rfl | rfl <;> omega
          · rw [if_neg e5, if_neg]
            rcases hp with rfl | rfl | rfl | rfl | rfl <;> omega
      · refine (iT (show nI 16 ≤ nI (j + i * per) from nI_le b (by omega))).mpr ((iF nle).mpr (h w k2 (fun s hs => ?_)))
        have k3 : w.1 41 0 s = _ := k3 s hs
        rw [k3]
        unfold wr_
        by_cases e5 : s % per = j
        · rw [if_pos ⟨e5, by omega⟩]
          exact (if_pos e5).symm
        · rw [if_neg (fun q => e5 q.1)]
          exact (if_neg e5).symm
theorem c_clear {Po : mm_T → Prop} (h : ∀ m, fm_ d18 μ m → (∀ s, s < 16 → m.1 18 0 s = -1) → Po m) : pX9_clear Po μ := by
  unfold pX9_clear pJ7_fill_53178
  refine lp_up 16 (fun i x => x.2 = (-1, nI i, 16) ∧ fm_ d18 μ x.1 ∧ ∀ s, s < i → x.1.1 18 0 s = -1) ?_ 0 (by omega) _ ?_
  rotate_left
  · exact ⟨rfl, fm_.rf, fun s hs => absurd hs (Nat.not_lt_zero s)⟩
  rintro i ⟨w, y1, y2, y3⟩ hi ⟨k1, k2, k3⟩ K hK
  cases k1
  unfold pJ7_fill_53178_l5
  rcases Nat.eq_or_lt_of_le hi with e | hlt
  · subst e
    exact (iT (show (16 : Int32) ≤ nI 16 by decide)).mpr (h w k2 k3)
  · refine (iF (show ¬ nI 16 ≤ nI i from nI_ge hlt (by omega))).mpr ⟨vp_in_nI hlt (by omega), ?_⟩
    intro m2 e2
    have e2 : m2 = mm_I w 18 0 (nI i).toNatClampNeg (-1) := e2
    rw [nI_clamp (by omega)] at e2
    refine hK hlt _ ⟨by rw [← nI_1], by rw [e2]; exact k2.I rfl, fun s hs => ?_⟩
    show m2.1 18 0 s = -1
    rw [e2, mm_Ir]
    by_cases e : s = i
    · rw [if_pos ⟨rfl, rfl, e⟩]
    · rw [if_neg (fun q => e q.2.2)]
      exact k3 s (by omega)
theorem pw2 {p : Nat} (h : p < 5) : pw_ (2 ^ p) ∧ 2 ^ p ≤ 16 := by
  rcases (show p = 0 ∨ p = 1 ∨ p = 2 ∨ p = 3 ∨ p = 4 by omega) with rfl | rfl | rfl | rfl | rfl <;> exact ⟨by unfold pw_; decide, by decide⟩
theorem c_deal (hN : μ.1 6 0 1 = nI N) (h7 : N ≤ 7) (h : ∀ m, fm_ d18 μ m → (∀ s, s < 16 → m.1 18 0 s = (dz_ (fun i => μ.1 9 i 6) N 5).1 s) → Po (nI (dz_ (fun i => μ.1 9 i 6) N 5).2) m) : pX0_dealSlots Po μ := by
  unfold pX0_dealSlots
  refine c_clear ?_
  intro m0 F0 C0
  refine lp_up 5 (fun p x => x.2 = (nI (dz_ (fun i => μ.1 9 i 6) N p).2, nI (2 ^ p)) ∧ fm_ d18 μ x.1 ∧ ∀ s, s < 16 → x.1.1 18 0 s = (dz_ (fun i => μ.1 9 i 6) N p).1 s) ?_ 0 (by omega) _ ?_
  rotate_left
  · exact ⟨rfl, F0, C0⟩
  rintro p ⟨w, y1, y2⟩ hp ⟨k1, k2, k3⟩ K hK
  cases k1
  unfold pX0_dealSlots_l11
  rcases Nat.eq_or_lt_of_le hp with e | hlt
  · subst e
    exact (iT (show (16 : Int32) < nI (2 ^ 5) by decide)).mpr (h w k2 k3)
  obtain ⟨pw, p16⟩ := pw2 hlt
  refine (iF (show ¬ nI 16 < nI (2 ^ p) from nI_nlt p16 (by omega))).mpr ?_
  generalize hZ : dz_ (fun i => μ.1 9 i 6) N p = Z at k3 ⊢
  have hZ1 : dz_ (fun i => μ.1 9 i 6) N (p + 1) = dv_ (fun i => μ.1 9 i 6) (2 ^ p) Z N := by rw [← hZ]; rfl
  refine lp_up N (fun i x => x.2 = (nI (dv_ (fun i => μ.1 9 i 6) (2 ^ p) Z i).2, nI (2 ^ p), nI i) ∧ fm_ d18 μ x.1 ∧ ∀ s, s < 16 → x.1.1 18 0 s = (dv_ (fun i => μ.1 9 i 6) (2 ^ p) Z i).1 s) ?_ 0 (by omega) _ ?_
  rotate_left
  · exact ⟨rfl, k2, k3⟩
  rintro i ⟨v, z1, z2, z3⟩ hi ⟨l1, l2, l3⟩ K2 hK2
  cases l1
  unfold pX0_dealSlots_l19
  have e6 : v.1 6 0 1 = nI N := (l2.1 6 0 1 (by unfold d18; omega)).trans hN
  show ((v.1 6 0 1) ≤ nI i → _) ∧ _
  rw [e6]
  rcases Nat.eq_or_lt_of_le hi with e | hilt
  · refine (iT (show nI N ≤ nI i by rw [e]; exact Int32.le_refl _)).mpr ?_
    intro x2 e2
    have e2 : x2 = nI (2 ^ p) * 2 := e2
    rw [show (2 : Int32) = nI 2 from rfl, pk_mul, ← Nat.pow_succ] at e2
    refine hK hlt _ ⟨?_, l2, ?_⟩
    · rw [hZ1, e2, ← e]
    · rw [hZ1, ← e]
      exact l3
  · refine (iF (nI_ge hilt (by omega))).mpr ⟨vp_in_nI (by omega) (by omega), ?_⟩
    show (¬ (v.1 9 (nI i).toNatClampNeg 6) = nI (2 ^ p) → _) ∧ ((v.1 9 (nI i).toNatClampNeg 6) = nI (2 ^ p) → _)
    rw [nI_clamp (by omega), l2.1 9 i 6 (by unfold d18; omega)]
    by_cases b : μ.1 9 i 6 = nI (2 ^ p)
    · have hs : dv_ (fun i => μ.1 9 i 6) (2 ^ p) Z (i + 1) = ((gv_ (dv_ (fun i => μ.1 9 i 6) (2 ^ p) Z i).1 (2 ^ p) i).1, (dv_ (fun i => μ.1 9 i 6) (2 ^ p) Z i).2 + (gv_ (dv_ (fun i => μ.1 9 i 6) (2 ^ p) Z i).1 (2 ^ p) i).2) := if_pos b
      refine (jT b).mpr (c_give pw l3 ?_)
      intro m Fm Cm
      have F2 := l2.tr Fm
      have hg : (gv_ (dv_ (fun i => μ.1 9 i 6) (2 ^ p) Z i).1 (2 ^ p) i).2 = 0 ∨ (gv_ (dv_ (fun i => μ.1 9 i 6) (2 ^ p) Z i).1 (2 ^ p) i).2 = 1 := by
        unfold gv_
        split
        · exact Or.inl rfl
        · exact Or.inr rfl
      rcases hg with g | g
      · refine (iT (by rw [g]; rfl)).mpr (hK2 hilt _ ⟨?_, F2, ?_⟩)
        · rw [nI_1, hs, g]
          rfl
        · rw [hs]
          exact Cm
      · refine (iF (by rw [g]; decide)).mpr (hK2 hilt _ ⟨?_, F2, ?_⟩)
        · rw [hs, g]
          show (nI (dv_ (fun i => μ.1 9 i 6) (2 ^ p) Z i).2 + 1, nI (2 ^ p), nI i + 1) = _
          rw [nI_1, nI_1]
        · rw [hs]
          exact Cm
    · have hs : dv_ (fun i => μ.1 9 i 6) (2 ^ p) Z (i + 1) = dv_ (fun i => μ.1 9 i 6) (2 ^ p) Z i := if_neg b
      refine (jF b).mpr (hK2 hilt _ ⟨?_, l2, ?_⟩)
      · rw [nI_1, hs]
      · rw [hs]
        exact l3
theorem m_deal {pr : Nat → Int32} (hM : μ.1 26 0 2 = nI N) (h7 : N ≤ 7) (hpr : ∀ i, i < N → (μ.1 28 0 i = 0 ∧ pr i = -1) ∨ (μ.1 28 0 i = 1 ∧ μ.1 34 0 i = pr i)) (h : ∀ m, fm_ d41 μ m → (∀ s, s < 16 → m.1 41 0 s = (dz_ pr N 5).1 s) → Po (nI (dz_ pr N 5).2) m) : pX11_dealNow Po μ := by
  unfold pX11_dealNow
  refine lp_up 16 (fun i x => x.2 = nI i ∧ fm_ d41 μ x.1 ∧ ∀ s, s < i → x.1.1 41 0 s = -1) ?_ 0 (by omega) _ ?_
  rotate_left
  · exact ⟨rfl, fm_.rf, fun s hs => absurd hs (Nat.not_lt_zero s)⟩
  rintro i ⟨w, y1⟩ hi ⟨k1, F0, C0⟩ K0 hK0
  have k1 : y1 = nI i := k1
  subst k1
  unfold pX11_dealNow_l2
  rcases Nat.eq_or_lt_of_le hi with e | hlt
  rotate_left
  · refine (iF (show ¬ nI 16 ≤ nI i from nI_ge hlt (by omega))).mpr ⟨vp_in_nI hlt (by omega), ?_⟩
    intro m2 e2
    have e2 : m2 = mm_I w 41 0 (nI i).toNatClampNeg (-1) := e2
    rw [nI_clamp (by omega)] at e2
    refine hK0 hlt _ ⟨nI_1 i, by rw [e2]; exact F0.I rfl, fun s hs => ?_⟩
    show m2.1 41 0 s = -1
    rw [e2, mm_Ir]
    by_cases e : s = i
    · rw [if_pos ⟨rfl, rfl, e⟩]
    · rw [if_neg (fun q => e q.2.2)]
      exact C0 s (by omega)
  subst e
  refine (iT (show (16 : Int32) ≤ nI 16 by decide)).mpr ?_
  refine lp_up 5 (fun p x => x.2 = (nI (dz_ pr N p).2, nI (2 ^ p)) ∧ fm_ d41 μ x.1 ∧ ∀ s, s < 16 → x.1.1 41 0 s = (dz_ pr N p).1 s) ?_ 0 (by omega) _ ?_
  rotate_left
  · exact ⟨rfl, F0, C0⟩
  rintro p ⟨w, y1, y2⟩ hp ⟨k1, k2, k3⟩ K hK
  cases k1
  unfold pX11_dealNow_l25
  rcases Nat.eq_or_lt_of_le hp with e | hlt
  · subst e
    exact (iT (show (16 : Int32) < nI (2 ^ 5) by decide)).mpr (h w k2 k3)
  obtain ⟨pw, p16⟩ := pw2 hlt
  refine (iF (show ¬ nI 16 < nI (2 ^ p) from nI_nlt p16 (by omega))).mpr ?_
  generalize hZ : dz_ pr N p = Z at k3 ⊢
  have hZ1 : dz_ pr N (p + 1) = dv_ pr (2 ^ p) Z N := by rw [← hZ]; rfl
  refine lp_up N (fun i x => x.2 = (nI (dv_ pr (2 ^ p) Z i).2, nI (2 ^ p), nI i) ∧ fm_ d41 μ x.1 ∧ ∀ s, s < 16 → x.1.1 41 0 s = (dv_ pr (2 ^ p) Z i).1 s) ?_ 0 (by omega) _ ?_
  rotate_left
  · exact ⟨rfl, k2, k3⟩
  rintro i ⟨v, z1, z2, z3⟩ hi ⟨l1, l2, l3⟩ K2 hK2
  cases l1
  unfold pX11_dealNow_l33
  have e6 : v.1 26 0 2 = nI N := (l2.1 26 0 2 (by unfold d41; omega)).trans hM
  show ((v.1 26 0 2) ≤ nI i → _) ∧ _
  rw [e6]
  rcases Nat.eq_or_lt_of_le hi with e | hilt
  · refine (iT (show nI N ≤ nI i by rw [e]; exact Int32.le_refl _)).mpr ?_
    intro x2 e2
    have e2 : x2 = nI (2 ^ p) * 2 := e2
    rw [show (2 : Int32) = nI 2 from rfl, pk_mul, ← Nat.pow_succ] at e2
    refine hK hlt _ ⟨?_, l2, ?_⟩
    · rw [hZ1, e2, ← e]
    · rw [hZ1, ← e]
      exact l3
  · refine (iF (nI_ge hilt (by omega))).mpr ⟨vp_in_nI (by omega) (by omega), ?_⟩
    show ((v.1 28 0 (nI i).toNatClampNeg) = 0 → _) ∧ (¬ ((v.1 28 0 (nI i).toNatClampNeg) = 0) → _ ∧ ((¬ (v.1 34 0 (nI i).toNatClampNeg) = nI (2 ^ p) → _) ∧ ((v.1 34 0 (nI i).toNatClampNeg) = nI (2 ^ p) → _)))
    rw [nI_clamp (by omega), l2.1 28 0 i (by unfold d41; omega), l2.1 34 0 i (by unfold d41; omega)]
    have stay : ¬ pr i = nI (2 ^ p) → pX11_dealNow_b73 (fun μ a1 a2 a3 => K2 (μ, a1, a2, a3)) v (nI (2 ^ p)) (nI i) (nI (dv_ pr (2 ^ p) Z i).2) := by
      intro b
      have hs : dv_ pr (2 ^ p) Z (i + 1) = dv_ pr (2 ^ p) Z i := if_neg b
      unfold pX11_dealNow_b73
      intro x3 e3
      rw [Int32.add_zero] at e3
      refine hK2 hilt _ ⟨?_, l2, ?_⟩
      · rw [e3, nI_1, hs]
      · rw [hs]
        exact l3
    rcases hpr i hilt with ⟨q1, q2⟩ | ⟨q1, q2⟩
    · exact (iT q1).mpr (stay (by rw [q2]; exact fun q => nIm1 (by omega) q.symm))
    · refine (iF (by rw [q1]; decide)).mpr ⟨vp_in_nI (by omega) (by omega), ?_⟩
      rw [q2]
      by_cases b : pr i = nI (2 ^ p)
      · have hs : dv_ pr (2 ^ p) Z (i + 1) = ((gv_ (dv_ pr (2 ^ p) Z i).1 (2 ^ p) i).1, (dv_ pr (2 ^ p) Z i).2 + (gv_ (dv_ pr (2 ^ p) Z i).1 (2 ^ p) i).2) := if_pos b
        refine (jT b).mpr (m_dealTo pw (by omega) (by rw [l2.1 34 0 i (by unfold d41; omega), q2, b]) l3 ?_)
        intro m Fm Cm
        have F2 := l2.tr Fm
        have hg : (gv_ (dv_ pr (2 ^ p) Z i).1 (2 ^ p) i).2 = 0 ∨ (gv_ (dv_ pr (2 ^ p) Z i).1 (2 ^ p) i).2 = 1 := by
          unfold gv_
          split
          · exact Or.inl rfl
          · exact Or.inr rfl
        rcases hg with g | g
        · refine (iT (by rw [g]; rfl)).mpr ?_
          unfold pX11_dealNow_b73
          intro x3 e3
          have e3 : x3 = nI (dv_ pr (2 ^ p) Z i).2 + 0 := e3
          rw [Int32.add_zero] at e3
          refine hK2 hilt _ ⟨?_, F2, ?_⟩
          · rw [nI_1, hs, g, e3]
            rfl
          · rw [hs]
            exact Cm
        · refine (iF (by rw [g]; decide)).mpr ?_
          intro x7 e7
          have e7 : x7 = nI (dv_ pr (2 ^ p) Z i).2 + 1 := e7
          refine hK2 hilt _ ⟨?_, F2, ?_⟩
          · rw [hs, g, e7]
            show (nI (dv_ pr (2 ^ p) Z i).2 + 1, nI (2 ^ p), nI i + 1) = _
            rw [nI_1, nI_1]
          · rw [hs]
            exact Cm
      · exact (jF b).mpr (stay b)
end DM
/-- what owners may be -/
theorem gv_ok {Q : Nat → Prop} {own : Nat → Int32} {per t : Nat} (h : ∀ s, own s = -1 ∨ ∃ t, Q t ∧ own s = nI t) (ht : Q t) : ∀ s, (gv_ own per t).1 s = -1 ∨ ∃ u, Q u ∧ (gv_ own per t).1 s = nI u := by
  intro s
  unfold gv_
  split
  · exact h s
  · rename_i o _
    show (if s % per = o then nI t else own s) = -1 ∨ ∃ u, Q u ∧ (if s % per = o then nI t else own s) = nI u
    by_cases e : s % per = o
    · rw [if_pos e]
      exact Or.inr ⟨t, ht, rfl⟩
    · rw [if_neg e]
      exact h s
theorem dv_ok {Q : Nat → Prop} {pr : Nat → Int32} {per : Nat} {Z : (Nat → Int32) × Nat} (N : Nat) (hq : ∀ i, i < N → pr i = nI per → Q i) (h : ∀ s, Z.1 s = -1 ∨ ∃ t, Q t ∧ Z.1 s = nI t) : ∀ i, i ≤ N → ∀ s, (dv_ pr per Z i).1 s = -1 ∨ ∃ t, Q t ∧ (dv_ pr per Z i).1 s = nI t := by
  intro i
  induction i with
  | zero => intro _; exact h
  | succ i ih =>
    intro hi
    unfold dv_
    by_cases b : pr i = nI per
    · rw [if_pos b]
      exact gv_ok (ih (by omega)) (hq i (by omega) b)
    · rw [if_neg b]
      exact ih (by omega)
theorem dz_ok {Q : Nat → Prop} {pr : Nat → Int32} (N : Nat) (hq : ∀ i p, i < N → p < 5 → pr i = nI (2 ^ p) → Q i) : ∀ p, p ≤ 5 → ∀ s, (dz_ pr N p).1 s = -1 ∨ ∃ t, Q t ∧ (dz_ pr N p).1 s = nI t := by
  intro p
  induction p with
  | zero => intro _ s; exact Or.inl rfl
  | succ p ih =>
    intro hp
    unfold dz_
    exact dv_ok N (fun i hi e => hq i p hi (by omega) e) (ih (by omega)) N (Nat.le_refl _)
theorem st_deal (k : Nat) (μ : mm_T) (h : Inv_ k μ) : so_deal (Inv_ k) μ := by
  have h0 := h
  obtain ⟨pg, ct, sq, N, h7, hN, hM, la, fd⟩ := h
  unfold so_deal pX10_deal pX11_deal
  rcases Nat.eq_zero_or_pos N with e | hp
  · subst e
    exact (q_rd_f hN).mpr (j0.mpr ((q_fd_f hM).mpr (i0.mpr ⟨rfl, h0⟩)))
  obtain ⟨f1, f2, f3, f4, f5, f6, f7, f8⟩ := fd hp
  refine (q_rd_t hN h7 hp).mpr (j1.mpr (c_deal hN h7 ?_))
  intro m Fm Cm
  have e1 : ∀ a, a ≠ 18 → ∀ b c, m.1 a b c = μ.1 a b c := fun a ha b c => Fm.1 a b c ha
  refine (q_fd_t (N := N) (by rw [e1 26 (by omega)]; exact hM) h7 hp).mpr (i1.mpr (m_deal (N := N) (pr := fun i => μ.1 9 i 6) (by rw [e1 26 (by omega)]; exact hM) h7 ?_ ?_))
  · intro i hi
    rw [e1 28 (by omega), e1 34 (by omega), (f1 i hi).2.1]
    rcases ta_cases f1 hi with q | q
    · exact Or.inl ⟨q, ((f2 i hi).2 q).1⟩
    · obtain ⟨⟨t, t1, t2, t3⟩, -⟩ := (f2 i hi).1 q
      exact Or.inr ⟨q, t3.trans t2.symm⟩
  intro w Fw Cw
  have e2 : ∀ a, a ≠ 18 → a ≠ 41 → ∀ b c, w.1 a b c = μ.1 a b c := fun a ha hb b c => (Fw.1 a b c hb).trans (e1 a ha b c)
  have l2 : ∀ a, a ≠ 18 → a ≠ 41 → ∀ b c, w.2 a b c = μ.2 a b c := fun a ha hb b c => (Fw.2 a b c hb).trans (Fm.2 a b c ha)
  have s9 := e2 9 (by omega) (by omega)
  have s12 := e2 12 (by omega) (by omega)
  have s26 := e2 26 (by omega) (by omega)
  have s15 := e2 15 (by omega) (by omega)
  have s6 := e2 6 (by omega) (by omega)
  have s10 := e2 10 (by omega) (by omega)
  refine ⟨rfl, by simpa only [iv_pg, e2 1 (by omega) (by omega), e2 2 (by omega) (by omega), e2 27 (by omega) (by omega), s26] using pg, by simpa only [iv_ct, e2 0 (by omega) (by omega), s26] using ct, by simpa only [iv_sq, e2 20 (by omega) (by omega)] using sq, N, h7, by rw [s6]; exact hN, by rw [s26]; exact hM, by simpa only [iv_la, is_t, is_a, fl_, nx_, ny_, s9, s15, s26, e2 42 (by omega) (by omega), e2 43 (by omega) (by omega), l2 15 (by omega) (by omega), l2 16 (by omega) (by omega)] using la, fun _ => ?_⟩
  refine ⟨by simpa only [iv_nd, s9, e2 28 (by omega) (by omega), e2 29 (by omega) (by omega), e2 30 (by omega) (by omega), e2 31 (by omega) (by omega), e2 32 (by omega) (by omega), e2 33 (by omega) (by omega)] using f1, by simpa only [iv_tg, is_t, is_a, s9, e2 34 (by omega) (by omega), e2 35 (by omega) (by omega)] using f2, by simpa only [iv_ta, is_t, is_a, s9] using f3, by simpa only [iv_tm, s26, l2 6 (by omega) (by omega)] using f4, by simpa only [iv_lv, s6, s26] using f5, by simpa only [iv_lk, is_t, is_a, s9, s12, e2 13 (by omega) (by omega), e2 14 (by omega) (by omega), e2 36 (by omega) (by omega), e2 37 (by omega) (by omega), e2 38 (by omega) (by omega), e2 39 (by omega) (by omega), e2 40 (by omega) (by omega)] using f6, ?_, pl_c (fun _ => s12 _ _) (fun _ => s12 _ _) (fun _ => s9 _ _) (fun _ => s9 _ _) (s6 _ _) (fun _ => s9 _ _) (fun _ _ => s10 _ _) f8⟩
  intro s hs
  have c1 : w.1 18 0 s = (dz_ (fun i => μ.1 9 i 6) N 5).1 s := (Fw.1 18 0 s (by unfold d41; omega)).trans (Cm s hs)
  refine ⟨(Cw s hs).trans c1.symm, ?_⟩
  rw [c1]
  have := dz_ok (Q := fun t => t < N ∧ is_t μ t) (pr := fun i => μ.1 9 i 6) N (fun i p hi hp5 hpr => ⟨hi, ?_⟩) 5 (by omega) s
  · rcases this with q | ⟨t, ⟨t1, t2⟩, t3⟩
    · exact Or.inl q
    · exact Or.inr ⟨t, t1, by unfold is_t at t2 ⊢; rw [s9]; exact t2, t3⟩
  · rcases ta_cases f1 hi with q | q
    · have hpr : μ.1 9 i 6 = nI (2 ^ p) := hpr
      rw [((f2 i hi).2 q).1] at hpr
      exact absurd hpr.symm (nIm1 (by have := (pw2 hp5).2; omega))
    · exact q
