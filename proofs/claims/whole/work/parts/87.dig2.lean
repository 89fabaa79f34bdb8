/-! digest, by the model: the sum so far lies in the long place 41. -/
theorem mm_LL (m : mm_T) (a b : Int64) : mm_L (mm_L m 26 0 41 a) 26 0 41 b = mm_L m 26 0 41 b := by
  refine Prod.ext rfl ?_
  funext x y z
  simp only [mm_Lr]
  by_cases e : x = 26 ∧ y = 0 ∧ z = 41
  · simp [e]
  · simp [e]
theorem m_mix {Po : mm_T → Prop} {m : mm_T} {h v : Int64} (hP : Po (mm_L m 26 0 41 (31 * h + v))) : pX11_mix Po (mm_L m 26 0 41 h) v := by
  unfold pX11_mix
  intro m1 e1
  rw [mm_LL, mm_Lr, if_pos ⟨rfl, rfl, rfl⟩] at e1
  rw [e1]
  exact hP
theorem q5_p {m : mm_T} {i : Nat} {h : Int64} (q : nI i = m.1 15 0 1 ∨ nI i = m.1 15 0 2) : q5_ m i h = h := if_pos q
theorem q5_n {m : mm_T} {i : Nat} {h : Int64} (q : ¬ (nI i = m.1 15 0 1 ∨ nI i = m.1 15 0 2)) : q5_ m i h = 31 * h + (hd_ m i).toInt64 := if_neg q
section DV
variable {m : mm_T} {h : Int64}
theorem v_fe (q : Nat) : fe_ (mm_L m 26 0 41 h) q = fe_ m q := by
  have e : ∀ n, fx_ (mm_L m 26 0 41 h) q n = fx_ m q n := by
    intro n
    induction n with
    | zero => rfl
    | succ n ih => simp only [fx_, ih, mm_L1]
  unfold fe_
  rw [e]
  rfl
theorem v_pd (N i : Nat) : pd_ (mm_L m 26 0 41 h) N i = pd_ m N i := rfl
theorem v_pn (N : Nat) : ∀ n, pn_ (mm_L m 26 0 41 h) N n = pn_ m N n
  | 0 => rfl
  | n + 1 => by
    unfold pn_
    rw [v_pn N n, v_pd]
theorem v_av (N w : Nat) : av_ (mm_L m 26 0 41 h) N w = av_ m N w := by
  unfold av_
  rw [v_pn]
  rfl
theorem v_pv (N t w : Nat) : pv_ (mm_L m 26 0 41 h) N t w = pv_ m N t w := by
  have e1 : df_ (mm_L m 26 0 41 h) t = df_ m t := rfl
  have e2 : ra_ (mm_L m 26 0 41 h) N t = ra_ m N t := rfl
  have e3 : lt_ (mm_L m 26 0 41 h) N t = lt_ m N t := by
    unfold lt_
    rw [e1, e2]
    rfl
  unfold pv_
  rw [e1, e2, e3]
end DV
section DM2
variable {m : mm_T} {N k : Nat} {h : Int64}
theorem Iv_h (V : Inv_ k m) (hk : k ≤ 600) (hN : m.1 6 0 1 = nI N) (h7 : N ≤ 7) (hp : 0 < N) (h : Int64) : Iv_ N k (mm_L m 26 0 41 h) := Iv_N (inv_sE ((sE.rf m).L) V) hk hN h7 hp
theorem m_pairs {Po : mm_T → Prop} (J : ∀ h, Iv_ N k (mm_L m 26 0 41 h)) (hP : Po (mm_L m 26 0 41 (g5_ m N (g3_ m N h)))) : pX11_mixPairs Po (mm_L m 26 0 41 h) := by
  have h7 := (J h).2.1
  have hp := (J h).1
  have hk := (J h).2.2.1
  have hM : m.1 26 0 2 = nI N := (J h).2.2.2.2.2.1
  have hd : iv_nd N m := (J h).2.2.2.2.2.2.2.1
  have hM' : ∀ h, (mm_L m 26 0 41 h).1 26 0 2 = nI N := fun _ => hM
  unfold pX11_mixPairs
  refine lp_up N (fun j x => x = (mm_L m 26 0 41 (hg_ (fun t h => hg_ (fun a h => q3_ m t a h) h N) h j), nI j)) ?_ 0 (by omega) _ rfl
  intro j x hj hI K hK
  subst hI
  unfold pX11_mixPairs_l2
  simp only [mm_L1]
  rw [hM]
  rcases Nat.eq_or_lt_of_le hj with e | hlt
  rotate_left
  · refine (iF (nI_ge hlt (by omega))).mpr ?_
    generalize hb : hg_ (fun t h => hg_ (fun a h => q3_ m t a h) h N) h j = hj1
    refine lp_up N (fun a x => x = (mm_L m 26 0 41 (hg_ (fun a h => q3_ m j a h) hj1 a), nI j, nI a)) ?_ 0 (by omega) _ rfl
    intro a x ha hI K2 hK2
    subst hI
    unfold pX11_mixPairs_l12
    simp only [mm_L1]
    rw [hM]
    rcases Nat.eq_or_lt_of_le ha with e | alt
    · refine (iT (show nI N ≤ nI a by rw [e]; exact Int32.le_refl _)).mpr (hK hlt _ ?_)
      show (mm_L m 26 0 41 (hg_ (fun a h => q3_ m j a h) hj1 a), nI j + 1) = _
      rw [nI_1, hg_S, e, hb]
    · refine (iF (nI_ge alt (by omega))).mpr ?_
      by_cases q : m.1 9 j 0 = 1 ∧ m.1 9 a 0 = 0
      · refine (q_mp_t (N := N) (hM' _) h7 (J _).2.2.2.2.2.2.2.1 hlt alt q.1 q.2).mpr (i1.mpr (r_flightOf (N := N) (J _).2.2.2.2.2.2.2.1 h7 hlt alt (m_mix ?_)))
        refine m_first (pt_of (J _).2.2.2.2.2.2.2.2.2.2.2.1 (J _).2.2.2.2.2.2.2.2.2.2.2.2.1) (by omega) (by omega) (m_mix ?_)
        refine m_range (J _) hlt alt (m_mix (hK2 alt _ ?_))
        rw [v_fe]
        show (mm_L m 26 0 41 (31 * (31 * (31 * hg_ (fun a h => q3_ m j a h) hj1 a + (nI (fl_ m j a)).toInt64) + (fe_ m (7 * j + a)).toInt64) + (m.1 12 (7 * j + a) 4).toInt64), nI j, nI a + 1) = _
        rw [nI_1, hg_S]
        unfold q3_
        rw [if_pos q]
      · refine (q_mp_f (N := N) (hM' _) h7 (J _).2.2.2.2.2.2.2.1 (pr_n (J _).2.2.2.2.2.2.2.1 h7 hlt alt q)).mpr (i0.mpr (hK2 alt _ ?_))
        show (mm_L m 26 0 41 (hg_ (fun a h => q3_ m j a h) hj1 a), nI j, nI a + 1) = _
        rw [nI_1, hg_S]
        conv => rhs; unfold q3_
        rw [if_neg q]
        rfl
  refine (iT (show nI N ≤ nI j by rw [e]; exact Int32.le_refl _)).mpr ?_
  rw [e]
  clear hK K
  show lp_ _ (mm_L m 26 0 41 (g3_ m N h), (1 : Int32))
  generalize g3_ m N h = h3 at hP ⊢
  unfold g5_ at hP
  rcases lk_of (J h).2.2.2.2.2.2.1 with ⟨g1, g2⟩ | ⟨t, a, hl⟩
  · have g1 : m.1 15 0 0 = 0 := g1
    have g2 : m.1 26 0 20 = 0 := g2
    rw [if_pos g1] at hP
    refine lp_up 0 (fun _ x => x = (mm_L m 26 0 41 h3, (1 : Int32))) ?_ 0 (by omega) _ rfl
    intro _ x _ hI K _
    subst hI
    unfold pX11_mixPairs_l76
    refine (iF (show ¬ (12 : Int32) ≤ 1 by decide)).mpr ((iT g2).mpr ?_)
    refine lp_up 0 (fun _ x => x = (mm_L m 26 0 41 h3, (0 : Int32))) ?_ 0 (by omega) _ rfl
    intro _ x _ hI K _
    subst hI
    unfold pX11_mixPairs_l107
    simp only [mm_L1]
    rw [hM]
    exact (iF (show ¬ nI N ≤ nI 0 from nI_ge hp (by omega))).mpr ((iT g2).mpr hP)
  have hl' : ∀ h, lk_ N k t a (mm_L m 26 0 41 h) := by
    intro h'
    have := hl
    unfold lk_ at this ⊢
    simpa [mm_L1, mm_Lr, is_t, is_a, fl_, nx_, ny_] using this
  have n0 : ¬ m.1 15 0 0 = 0 := by rw [show m.1 15 0 0 = 1 from hl.1]; decide
  have n20 : ¬ m.1 26 0 20 = 0 := by rw [show m.1 26 0 20 = 1 from hl.2.1]; decide
  rw [if_neg n0] at hP
  refine lp_up 11 (fun j x => x = (mm_L m 26 0 41 (hs_ (fun w => ls_ m (w + 1)) h3 j), nI (j + 1))) ?_ 0 (by omega) _ rfl
  intro j x hj hI K hK
  subst hI
  unfold pX11_mixPairs_l76
  rcases Nat.eq_or_lt_of_le hj with e | hlt
  rotate_left
  · refine (iF (show ¬ nI 12 ≤ nI (j + 1) from nI_ge (by omega) (by omega))).mpr ((iF n20).mpr (m_last (J _).2.2.2.2.2.2.2.1 h7 (hl' _) (by omega) (by omega) (m_mix (hK hlt _ ?_))))
    show (mm_L m 26 0 41 (31 * hs_ (fun w => ls_ m (w + 1)) h3 j + (ls_ m (j + 1)).toInt64), nI (j + 1) + 1) = _
    rw [nI_1, hs_S]
  subst e
  refine (iT (show (12 : Int32) ≤ nI (11 + 1) by decide)).mpr ?_
  clear hK K hj
  show lp_ _ (mm_L m 26 0 41 (hs_ (fun w => ls_ m (w + 1)) h3 11), (0 : Int32))
  generalize hs_ (fun w => ls_ m (w + 1)) h3 11 = h4 at hP ⊢
  obtain ⟨l1, l2, ht, ha, h3', h4', l3, l4, l5, l6, -⟩ := id (hl' h)
  have l3 : m.1 15 0 1 = nI t := l3
  have l4 : m.1 26 0 21 = nI t := l4
  have l5 : m.1 15 0 2 = nI a := l5
  have l6 : m.1 26 0 22 = nI a := l6
  refine lp_up N (fun j x => x = (mm_L m 26 0 41 (hg_ (q5_ m) h4 j), nI j)) ?_ 0 (by omega) _ rfl
  intro j x hj hI K hK
  subst hI
  unfold pX11_mixPairs_l107
  simp only [mm_L1]
  rw [hM]
  rcases Nat.eq_or_lt_of_le hj with e | hlt
  · refine (iT (show nI N ≤ nI j by rw [e]; exact Int32.le_refl _)).mpr ?_
    rw [e]
    exact hP
  · refine (iF (nI_ge hlt (by omega))).mpr ((iF n20).mpr ?_)
    rw [l4, l6]
    have stay : (nI j = nI t ∨ nI j = nI a) → K (mm_L m 26 0 41 (hg_ (q5_ m) h4 j), nI j + 1) := by
      intro q
      refine hK hlt _ ?_
      rw [nI_1, hg_S]
      rw [q5_p (by rw [l3, l5]; exact q)]
    by_cases q1 : nI j = nI t
    · exact (iT q1).mpr (stay (Or.inl q1))
    refine (iF q1).mpr ?_
    by_cases q2 : nI j = nI a
    · exact (iT q2).mpr (stay (Or.inr q2))
    refine (iF q2).mpr (m_heard (J _).2.2.2.2.2.2.2.1 h7 hk (hl' _) hlt (m_mix (hK hlt _ ?_)))
    show (mm_L m 26 0 41 (31 * hg_ (q5_ m) h4 j + (hd_ m j).toInt64), nI j + 1) = _
    rw [nI_1, hg_S]
    rw [q5_n (by rw [l3, l5]; exact fun z => z.elim q1 q2)]
theorem m_field {Po : mm_T → Prop} (J : ∀ h, Iv_ N k (mm_L m 26 0 41 h)) (hP : Po (mm_L m 26 0 41 (g7_ m (g6_ m N (g5_ m N (g3_ m N (g2_ m N (g1_ m N h)))))))) : pX11_mixField Po (mm_L m 26 0 41 h) := by
  have h7 := (J h).2.1
  have hp := (J h).1
  have hM : m.1 26 0 2 = nI N := (J h).2.2.2.2.2.1
  have hd : iv_nd N m := (J h).2.2.2.2.2.2.2.1
  have hsl : ∀ s, s < 16 → m.1 41 0 s = m.1 18 0 s := fun s hs => ((J h).2.2.2.2.2.2.2.2.2.2.2.2.2.1 s hs).1
  unfold pX11_mixField
  refine lp_up 8 (fun j x => x = (mm_L m 26 0 41 (hs_ (av_ m N) h j), nI j)) ?_ 0 (by omega) _ rfl
  intro j x hj hI K hK
  subst hI
  unfold pX11_mixField_l2
  rcases Nat.eq_or_lt_of_le hj with e | hlt
  rotate_left
  · refine (iF (show ¬ nI 8 ≤ nI j from nI_ge hlt (by omega))).mpr (m_about (J _) hlt (m_mix (hK hlt _ ?_)))
    rw [v_av]
    show (mm_L m 26 0 41 (31 * hs_ (av_ m N) h j + (av_ m N j).toInt64), nI j + 1) = _
    rw [nI_1, hs_S]
  subst e
  refine (iT (show (8 : Int32) ≤ nI 8 by decide)).mpr ?_
  clear hK K hj
  show lp_ _ (mm_L m 26 0 41 (g1_ m N h), (0 : Int32))
  generalize g1_ m N h = h1 at hP ⊢
  /- nodes -/
  refine lp_up (9 * N) (fun j x => x = (mm_L m 26 0 41 (hs_ (fun k => nd_ m (k / 9) (k % 9)) h1 j), nI j)) ?_ 0 (by omega) _ rfl
  intro j x hj hI K hK
  subst hI
  unfold pX11_mixField_l26
  simp only [mm_L1]
  have e9 : (9 : Int32) * nI N = nI (9 * N) := by rw [show (9 : Int32) = nI 9 from rfl, pk_mul]
  rw [hM, e9]
  rcases Nat.eq_or_lt_of_le hj with e | hlt
  rotate_left
  · refine (iF (nI_ge hlt (by omega))).mpr ?_
    have d1 : nI j / (9 : Int32) = nI (j / 9) := pk_div (d := 9) (by omega) (by omega) (by omega)
    have d2 : nI j - nI j / (9 : Int32) * (9 : Int32) = nI (j % 9) := pk_rem (d := 9) (by omega) (by omega) (by omega)
    rw [d2, d1]
    refine m_node (J _) (show j / 9 < N by omega) (show j % 9 < 9 by omega) (m_mix (hK hlt _ ?_))
    show (mm_L m 26 0 41 (31 * hs_ (fun k => nd_ m (k / 9) (k % 9)) h1 j + (nd_ m (j / 9) (j % 9)).toInt64), nI j + 1) = _
    rw [nI_1, hs_S]
  refine (iT (show nI (9 * N) ≤ nI j by rw [e]; exact Int32.le_refl _)).mpr ?_
  rw [e]
  clear hK K
  show pX11_mixPairs _ (mm_L m 26 0 41 (g2_ m N h1))
  refine m_pairs J ?_
  generalize g5_ m N (g3_ m N (g2_ m N h1)) = h5 at hP ⊢
  /- places -/
  refine lp_up N (fun j x => x = (mm_L m 26 0 41 (hg_ (q6_ m N) h5 j), nI j)) ?_ 0 (by omega) _ rfl
  intro j x hj hI K hK
  subst hI
  unfold pX11_mixField_l66
  simp only [mm_L1]
  rw [hM]
  rcases Nat.eq_or_lt_of_le hj with e | hlt
  rotate_left
  · refine (iF (nI_ge hlt (by omega))).mpr ?_
    have e28 : m.1 28 0 j = m.1 9 j 0 := (hd j hlt).2.1
    rcases pd_01 m N j with z | z
    · refine lp_up 0 (fun _ x => x = (mm_L m 26 0 41 (hg_ (q6_ m N) h5 j), nI j, (0 : Int32))) ?_ 0 (by omega) _ rfl
      intro _ x _ hI K2 _
      subst hI
      unfold pX11_mixField_l76
      refine (iF (show ¬ (5 : Int32) ≤ 0 by decide)).mpr ⟨vp_in_nI (by omega) (by omega), ?_⟩
      simp only [mm_L1]
      rw [nI_clamp (show j < 2 ^ 31 by omega), e28]
      have fin : K (mm_L m 26 0 41 (hg_ (q6_ m N) h5 j), nI j + 1) := by
        refine hK hlt _ ?_
        rw [nI_1, hg_S]
        conv => rhs; unfold q6_
        rw [if_neg (by omega)]
        rfl
      rcases ta_cases hd hlt with q | q
      · exact (iT q).mpr fin
      · refine (iF (by rw [show m.1 9 j 0 = 1 from q]; decide)).mpr (m_isPlaced (J _) hlt q ?_)
        rw [v_pd, z]
        exact (iT rfl).mpr fin
    · have hti : is_t m j := by
        rcases ta_cases hd hlt with q | q
        · have := pd_a (J h) hlt q
          rw [v_pd, z] at this
          cases this
        · exact q
      refine lp_up 5 (fun w x => x = (mm_L m 26 0 41 (hs_ (pv_ m N j) (hg_ (q6_ m N) h5 j) w), nI j, nI w)) ?_ 0 (by omega) _ rfl
      intro w x hw hI K2 hK2
      subst hI
      unfold pX11_mixField_l76
      rcases Nat.eq_or_lt_of_le hw with e | wlt
      · subst e
        refine (iT (show (5 : Int32) ≤ nI 5 by decide)).mpr (hK hlt _ ?_)
        show (mm_L m 26 0 41 (hs_ (pv_ m N j) (hg_ (q6_ m N) h5 j) 5), nI j + 1) = _
        rw [nI_1, hg_S]
        conv => rhs; unfold q6_
        rw [if_pos z]
        rfl
      · refine (iF (show ¬ nI 5 ≤ nI w from nI_ge wlt (by omega))).mpr ⟨vp_in_nI (by omega) (by omega), ?_⟩
        simp only [mm_L1]
        rw [nI_clamp (show j < 2 ^ 31 by omega), e28]
        refine (iF (by rw [show m.1 9 j 0 = 1 from hti]; decide)).mpr (m_isPlaced (J _) hlt hti ?_)
        rw [v_pd, z]
        refine (iF (by decide)).mpr (m_placed (J _) hlt hti wlt (m_mix (hK2 wlt _ ?_)))
        rw [v_pv]
        show (mm_L m 26 0 41 (31 * hs_ (pv_ m N j) (hg_ (q6_ m N) h5 j) w + (pv_ m N j w).toInt64), nI j, nI w + 1) = _
        rw [nI_1, hs_S]
  refine (iT (show nI N ≤ nI j by rw [e]; exact Int32.le_refl _)).mpr ?_
  rw [e]
  clear hK K
  show lp_ _ (mm_L m 26 0 41 (g6_ m N h5), (0 : Int32))
  generalize g6_ m N h5 = h6 at hP ⊢
  refine lp_up 16 (fun j x => x = (mm_L m 26 0 41 (hs_ (fun s => m.1 18 0 s) h6 j), nI j)) ?_ 0 (by omega) _ rfl
  intro j x hj hI K hK
  subst hI
  unfold pX11_mixField_l123
  rcases Nat.eq_or_lt_of_le hj with e | hlt
  · subst e
    exact (iT (show (16 : Int32) ≤ nI 16 by decide)).mpr hP
  · refine (iF (show ¬ nI 16 ≤ nI j from nI_ge hlt (by omega))).mpr ⟨vp_in_nI hlt (by omega), m_mix (hK hlt _ ?_)⟩
    show (mm_L m 26 0 41 (31 * hs_ (fun s => m.1 18 0 s) h6 j + (m.1 41 0 (nI j).toNatClampNeg).toInt64), nI j + 1) = _
    rw [nI_1, hs_S, nI_clamp (by omega), hsl j hlt]
theorem m_tail {Po : Int64 → mm_T → Prop} {L : Nat} (hL : L ≤ 110) (l1 : m.1 26 0 0 = nI L) (l0 : m.1 1 0 1 = nI L) (l2 : ∀ k, k < L → m.1 27 0 k = m.1 2 0 k) (ct : iv_ct m) (hP : Po (g8_ m L h) (mm_L m 26 0 41 (g8_ m L h))) : pX11_digest_b18 Po (mm_L m 26 0 41 h) := by
  unfold pX11_digest_b18
  refine lp_up L (fun j x => x = (mm_L m 26 0 41 (hs_ (fun k => m.1 2 0 k) h j), nI j)) ?_ 0 (by omega) _ rfl
  intro j x hj hI K hK
  subst hI
  unfold pX11_digest_l20
  simp only [mm_L1]
  rw [l1]
  rcases Nat.eq_or_lt_of_le hj with e | hlt
  rotate_left
  · refine (iF (nI_ge hlt (by omega))).mpr ⟨vp_in_nI (by omega) (by omega), m_mix (hK hlt _ ?_)⟩
    rw [nI_1, hs_S, nI_clamp (by omega), l2 j hlt]
  refine (iT (show nI L ≤ nI j by rw [e]; exact Int32.le_refl _)).mpr ?_
  rw [e]
  clear hK K
  unfold g8_ at hP
  generalize hs_ (fun k => m.1 2 0 k) h L = h2 at hP ⊢
  refine lp_up 5 (fun j x => x = (mm_L m 26 0 41 (hs_ (cv_ m) h2 j), nI j)) ?_ 0 (by omega) _ rfl
  intro j x hj hI K hK
  subst hI
  unfold pX11_digest_l47
  obtain ⟨c1, c2, c3, c4⟩ := ct
  rcases Nat.eq_or_lt_of_le hj with e | hlt
  · subst e
    refine (iT (show (5 : Int32) ≤ nI 5 by decide)).mpr ?_
    show Po ((mm_L m 26 0 41 (hs_ (cv_ m) h2 5)).2 26 0 41) _
    rw [mm_Lr, if_pos ⟨rfl, rfl, rfl⟩]
    exact hP
  · refine (iF (show ¬ nI 5 ≤ nI j from nI_ge hlt (by omega))).mpr ?_
    have fin : ∀ x, x = cv_ m j → pX11_mix (fun μ6 => K (μ6, nI j + 1)) (mm_L m 26 0 41 (hs_ (cv_ m) h2 j)) x.toInt64 := by
      intro x ex
      refine m_mix (hK hlt _ ?_)
      rw [nI_1, hs_S, ex]
    show pX11_howMany _ (mm_L m 26 0 41 (hs_ (cv_ m) h2 j)) (nI j)
    unfold pX11_howMany
    simp only [mm_L1]
    rcases (show j = 0 ∨ j = 1 ∨ j = 2 ∨ j = 3 ∨ j = 4 by omega) with rfl | rfl | rfl | rfl | rfl
    · exact ⟨fun _ => fin _ (l1.trans l0.symm), fun q => absurd q (by decide), fun q => absurd q (by decide), fun q => absurd q (by decide), fun q => absurd q (by decide), fun q => absurd rfl q⟩
    · exact ⟨fun q => absurd q (by decide), fun _ => fin _ c1, fun q => absurd q (by decide), fun q => absurd q (by decide), fun q => absurd q (by decide), fun _ q => absurd rfl q⟩
    · exact ⟨fun q => absurd q (by decide), fun q => absurd q (by decide), fun _ => fin _ c2, fun q => absurd q (by decide), fun q => absurd q (by decide), fun _ _ q => absurd rfl q⟩
    · exact ⟨fun q => absurd q (by decide), fun q => absurd q (by decide), fun q => absurd q (by decide), fun _ => fin _ c3, fun q => absurd q (by decide), fun _ _ _ q => absurd rfl q⟩
    · exact ⟨fun q => absurd q (by decide), fun q => absurd q (by decide), fun q => absurd q (by decide), fun q => absurd q (by decide), fun _ => fin _ c4, fun _ _ _ _ q => absurd rfl q⟩
end DM2
