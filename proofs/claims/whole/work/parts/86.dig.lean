/-! digest -/
def hs_ (v : Nat → Int32) (h : Int64) : Nat → Int64
  | 0 => h
  | n + 1 => 31 * hs_ v h n + (v n).toInt64
def hg_ (g : Nat → Int64 → Int64) (h : Int64) : Nat → Int64
  | 0 => h
  | n + 1 => g n (hg_ g h n)
theorem hs_S (v : Nat → Int32) (h : Int64) (n : Nat) : hs_ v h (n + 1) = 31 * hs_ v h n + (v n).toInt64 := rfl
theorem hg_S (g : Nat → Int64 → Int64) (h : Int64) (n : Nat) : hg_ g h (n + 1) = g n (hg_ g h n) := rfl
theorem hs_c {v v2 : Nat → Int32} {h : Int64} : ∀ n, (∀ i, i < n → v2 i = v i) → hs_ v2 h n = hs_ v h n
  | 0, _ => rfl
  | n + 1, q => by rw [hs_S, hs_S, hs_c n (fun i hi => q i (by omega)), q n (by omega)]
/-- the parts of a digest -/
def g1_ (μ : mm_T) (N : Nat) (h : Int64) : Int64 := hs_ (av_ μ N) h 8
def g2_ (μ : mm_T) (N : Nat) (h : Int64) : Int64 := hs_ (fun k => nd_ μ (k / 9) (k % 9)) h (9 * N)
def q3_ (μ : mm_T) (t a : Nat) (h : Int64) : Int64 := if μ.1 9 t 0 = 1 ∧ μ.1 9 a 0 = 0 then 31 * (31 * (31 * h + (nI (fl_ μ t a)).toInt64) + (fe_ μ (7 * t + a)).toInt64) + (μ.1 12 (7 * t + a) 4).toInt64 else h
def g3_ (μ : mm_T) (N : Nat) (h : Int64) : Int64 := hg_ (fun t h => hg_ (fun a h => q3_ μ t a h) h N) h N
def q5_ (μ : mm_T) (i : Nat) (h : Int64) : Int64 := if nI i = μ.1 15 0 1 ∨ nI i = μ.1 15 0 2 then h else 31 * h + (hd_ μ i).toInt64
def g5_ (μ : mm_T) (N : Nat) (h : Int64) : Int64 := if μ.1 15 0 0 = 0 then h else hg_ (q5_ μ) (hs_ (fun w => ls_ μ (w + 1)) h 11) N
def q6_ (μ : mm_T) (N t : Nat) (h : Int64) : Int64 := if pd_ μ N t = 1 then hs_ (pv_ μ N t) h 5 else h
def g6_ (μ : mm_T) (N : Nat) (h : Int64) : Int64 := hg_ (q6_ μ N) h N
def g7_ (μ : mm_T) (h : Int64) : Int64 := hs_ (fun s => μ.1 18 0 s) h 16
def cv_ (μ : mm_T) (w : Nat) : Int32 := if w = 0 then μ.1 1 0 1 else μ.1 0 0 (w + 2)
def g8_ (μ : mm_T) (L : Nat) (h : Int64) : Int64 := hs_ (cv_ μ) (hs_ (fun k => μ.1 2 0 k) h L) 5
section DC
variable {Po : Int64 → mm_T → Prop} {μ : mm_T} {N k : Nat} {h : Int64}
theorem c_with1 (I : Iv_ N k μ) (hP : Po (g2_ μ N (g1_ μ N h)) μ) : pX10_withNodes Po μ h := by
  have h7 := I.2.1
  have hN := I.2.2.2.2.1
  unfold pX10_withNodes
  refine lp_up 8 (fun j x => x = (μ, hs_ (av_ μ N) h j, nI j)) ?_ 0 (by omega) _ rfl
  intro j x hj hI K hK
  subst hI
  unfold pX10_withNodes_l2
  rcases Nat.eq_or_lt_of_le hj with e | hlt
  rotate_left
  · refine (iF (show ¬ nI 7 < nI j from nI_nlt (by omega) (by omega))).mpr (c_about I hlt ?_)
    unfold pX10_with
    refine hK hlt _ ?_
    rw [← nI_1, hs_S]
  subst e
  refine (iT (show (7 : Int32) < nI 8 by decide)).mpr ?_
  clear hK K hj
  show lp_ _ (μ, g1_ μ N h, (0 : Int32))
  generalize g1_ μ N h = h1 at hP ⊢
  refine lp_up N (fun j x => x = (μ, hs_ (fun k => nd_ μ (k / 9) (k % 9)) h1 (9 * j), nI j)) ?_ 0 (by omega) _ rfl
  intro j x hj hI K hK
  subst hI
  unfold pX10_withNodes_l26
  rw [hN]
  rcases Nat.eq_or_lt_of_le hj with e | hlt
  · refine (iT (show nI N ≤ nI j by rw [e]; exact Int32.le_refl _)).mpr ?_
    rw [e]
    exact hP
  · refine (iF (nI_ge hlt (by omega))).mpr ?_
    refine lp_up 9 (fun w x => x = (μ, hs_ (fun k => nd_ μ (k / 9) (k % 9)) h1 (9 * j + w), nI j, nI w)) ?_ 0 (by omega) _ rfl
    intro w x hw hI K2 hK2
    subst hI
    unfold pX10_withNodes_l40
    rcases Nat.eq_or_lt_of_le hw with e | wlt
    · subst e
      refine (iT (show (8 : Int32) < nI 9 by decide)).mpr (hK hlt _ ?_)
      show (μ, hs_ (fun k => nd_ μ (k / 9) (k % 9)) h1 (9 * j + 9), nI j + 1) = _
      rw [nI_1, show 9 * (j + 1) = 9 * j + 9 by omega]
    · refine (iF (show ¬ nI 8 < nI w from nI_nlt (by omega) (by omega))).mpr (c_node I hlt wlt ?_)
      unfold pX10_with
      refine hK2 wlt _ ?_
      show (μ, 31 * hs_ (fun k => nd_ μ (k / 9) (k % 9)) h1 (9 * j + w) + (nd_ μ j w).toInt64, nI j, nI w + 1) = _
      rw [nI_1, show 9 * j + (w + 1) = 9 * j + w + 1 by omega, hs_S, show (9 * j + w) / 9 = j by omega, show (9 * j + w) % 9 = w by omega]
theorem c_range {Po : Int32 → mm_T → Prop} {t a : Nat} (I : Iv_ N k μ) (ht : t < N) (ha : a < N) (h1 : is_t μ t) (h2 : is_a μ a) (hP : Po (μ.1 12 (7 * t + a) 4) μ) : pX10_range Po μ (nI t) (nI a) := by
  obtain ⟨hp, h7, hk, sq, hN, hM, la, fd⟩ := I
  unfold pX10_range
  exact (q_pr_t hN h7 ht ha h1 h2).mpr (j1.mpr ((q_link (by omega) (by omega)).mpr ⟨by omega, hP⟩))
theorem m_range {Po : Int32 → mm_T → Prop} {t a : Nat} (I : Iv_ N k μ) (ht : t < N) (ha : a < N) (hP : Po (μ.1 12 (7 * t + a) 4) μ) : pX11_rangeNow Po μ (nI t) (nI a) := by
  obtain ⟨hp, h7, hk, sq, hN, hM, la, f1, f2, f3, f4, f5, f6, f7, f8⟩ := I
  unfold pX11_rangeNow
  refine (q_pair (by omega) (by omega)).mpr ⟨vp_in_nI (by omega) (by omega), ?_⟩
  rw [nI_clamp (show 7 * t + a < 2 ^ 31 by omega)]
  rcases (f6 (7 * t + a) (by omega)).2 with ⟨g1, g2, g3⟩ | ⟨g1, g2, g3, g4⟩
  · rw [g3] at hP
    exact (iT g2).mpr hP
  · refine (iF (by rw [g2]; decide)).mpr ((q_pair (by omega) (by omega)).mpr ⟨vp_in_nI (by omega) (by omega), ?_⟩)
    rw [nI_clamp (show 7 * t + a < 2 ^ 31 by omega), g3]
    exact hP
theorem pr_n {t a : Nat} (hd : iv_nd N μ) (h7 : N ≤ 7) (ht : t < N) (ha : a < N) (q : ¬ (μ.1 9 t 0 = 1 ∧ μ.1 9 a 0 = 0)) : ¬ pr_ N μ (nI t) (nI a) := by
  rintro ⟨t', a', t1, a1, t2, a2, e1, e2⟩
  have : t = t' := ni_inj (by omega) (by omega) e1
  subst this
  have : a = a' := ni_inj (by omega) (by omega) e2
  subst this
  exact q ⟨t2, a2⟩
theorem c_with3 (I : Iv_ N k μ) (hP : Po (g3_ μ N h) μ) : pX10_withPairs Po μ h := by
  have h7 := I.2.1
  have hN := I.2.2.2.2.1
  have hd := I.2.2.2.2.2.2.2.1
  unfold pX10_withPairs
  refine lp_up N (fun j x => x = (μ, hg_ (fun t h => hg_ (fun a h => q3_ μ t a h) h N) h j, nI j)) ?_ 0 (by omega) _ rfl
  intro j x hj hI K hK
  subst hI
  unfold pX10_withPairs_l2
  rw [hN]
  rcases Nat.eq_or_lt_of_le hj with e | hlt
  · refine (iT (show nI N ≤ nI j by rw [e]; exact Int32.le_refl _)).mpr ?_
    rw [e]
    exact hP
  · refine (iF (nI_ge hlt (by omega))).mpr ?_
    generalize hb : hg_ (fun t h => hg_ (fun a h => q3_ μ t a h) h N) h j = hj1
    refine lp_up N (fun a x => x = (μ, hg_ (fun a h => q3_ μ j a h) hj1 a, nI j, nI a)) ?_ 0 (by omega) _ rfl
    intro a x ha hI K2 hK2
    subst hI
    unfold pX10_withPairs_l16
    rw [hN]
    rcases Nat.eq_or_lt_of_le ha with e | alt
    · refine (iT (show nI N ≤ nI a by rw [e]; exact Int32.le_refl _)).mpr (hK hlt _ ?_)
      show (μ, hg_ (fun a h => q3_ μ j a h) hj1 a, nI j + 1) = _
      rw [nI_1, hg_S, e, hb]
    · refine (iF (nI_ge alt (by omega))).mpr ?_
      by_cases q : μ.1 9 j 0 = 1 ∧ μ.1 9 a 0 = 0
      · refine (q_pr_t hN h7 hlt alt q.1 q.2).mpr (i1.mpr (c_flight I hlt alt ?_))
        unfold pX10_with
        refine c_firstPath I hlt alt q.1 q.2 (c_range I hlt alt q.1 q.2 (hK2 alt _ ?_))
        show (μ, 31 * (31 * (31 * hg_ (fun a h => q3_ μ j a h) hj1 a + (nI (fl_ μ j a)).toInt64) + (fe_ μ (7 * j + a)).toInt64) + (μ.1 12 (7 * j + a) 4).toInt64, nI j, nI a + 1) = _
        rw [nI_1, hg_S]
        unfold q3_
        rw [if_pos q]
      · refine (q_pr_f hN h7 hd (pr_n hd h7 hlt alt q)).mpr (i0.mpr (hK2 alt _ ?_))
        show (μ, hg_ (fun a h => q3_ μ j a h) hj1 a, nI j, nI a + 1) = _
        rw [nI_1, hg_S]
        conv => rhs; unfold q3_
        rw [if_neg q]
        rfl
theorem c_with5 (I : Iv_ N k μ) (hP : Po (g5_ μ N h) μ) : pX10_withLatest Po μ h := by
  have h7 := I.2.1
  have hN := I.2.2.2.2.1
  unfold pX10_withLatest
  unfold g5_ at hP
  rcases lk_of I.2.2.2.2.2.2.1 with ⟨g1, g2⟩ | ⟨t, a, hl⟩
  · rw [if_pos g1] at hP
    exact (jT g1).mpr hP
  have n0 : ¬ μ.1 15 0 0 = 0 := by rw [hl.1]; decide
  rw [if_neg n0] at hP
  refine (jF n0).mpr ?_
  refine lp_up 11 (fun j x => x = (μ, hs_ (fun w => ls_ μ (w + 1)) h j, nI (j + 1))) ?_ 0 (by omega) _ rfl
  intro j x hj hI K hK
  subst hI
  unfold pX10_withLatest_l17
  rcases Nat.eq_or_lt_of_le hj with e | hlt
  rotate_left
  · refine (iF (show ¬ nI 11 < nI (j + 1) from nI_nlt (by omega) (by omega))).mpr (c_last hl (by omega) (by omega) ?_)
    unfold pX10_with
    refine hK hlt _ ?_
    show (μ, 31 * hs_ (fun w => ls_ μ (w + 1)) h j + (ls_ μ (j + 1)).toInt64, nI (j + 1) + 1) = _
    rw [nI_1, hs_S]
  subst e
  refine (iT (show (11 : Int32) < nI (11 + 1) by decide)).mpr ?_
  clear hK K hj
  show lp_ _ (μ, hs_ (fun w => ls_ μ (w + 1)) h 11, (0 : Int32))
  generalize hs_ (fun w => ls_ μ (w + 1)) h 11 = h1 at hP ⊢
  obtain ⟨l1, l2, ht, ha, h3, h4, l3, l4, l5, l6, -⟩ := id hl
  refine lp_up N (fun j x => x = (μ, hg_ (q5_ μ) h1 j, nI j)) ?_ 0 (by omega) _ rfl
  intro j x hj hI K hK
  subst hI
  unfold pX10_withLatest_l41
  rw [hN]
  rcases Nat.eq_or_lt_of_le hj with e | hlt
  · refine (iT (show nI N ≤ nI j by rw [e]; exact Int32.le_refl _)).mpr ?_
    rw [e]
    exact hP
  · refine (iF (nI_ge hlt (by omega))).mpr ?_
    unfold pX3_isOf
    have stay : (nI j = μ.1 15 0 1 ∨ nI j = μ.1 15 0 2) → K (μ, hg_ (q5_ μ) h1 j, nI j + 1) := by
      intro q
      refine hK hlt _ ?_
      rw [nI_1, hg_S]
      conv => rhs; unfold q5_
      rw [if_pos q]
      rfl
    by_cases q1 : nI j = μ.1 15 0 1
    · exact (iT q1).mpr (j1.mpr (stay (Or.inl q1)))
    refine (iF q1).mpr ?_
    by_cases q2 : nI j = μ.1 15 0 2
    · exact (jT q2).mpr (j1.mpr (stay (Or.inr q2)))
    refine (jF q2).mpr (j0.mpr (c_heard I hl hlt (fun e => q1 (by rw [l3, e])) (fun e => q2 (by rw [l5, e])) ?_))
    unfold pX10_with
    refine hK hlt _ ?_
    show (μ, 31 * hg_ (q5_ μ) h1 j + (hd_ μ j).toInt64, nI j + 1) = _
    rw [nI_1, hg_S]
    conv => rhs; unfold q5_
    rw [if_neg (fun z => z.elim q1 q2)]
    rfl
theorem c_with6 (hk : k ≤ 600) (V : Inv_ k μ) (hN : μ.1 6 0 1 = nI N) (h7 : N ≤ 7) (hp : 0 < N) (hP : ∀ m, fmi_ cp_ μ m → iv_pl N m → Po (g6_ μ N h) m) : pX10_withPlaces Po μ h := by
  have I := Iv_N V hk hN h7 hp
  unfold pX10_withPlaces
  refine lp_up N (fun j x => x.2 = (hg_ (q6_ μ N) h j, nI j) ∧ fmi_ cp_ μ x.1 ∧ iv_pl N x.1) ?_ 0 (by omega) _ ?_
  rotate_left
  · exact ⟨rfl, fmi_.rf, I.2.2.2.2.2.2.2.2.2.2.2.2.2.2⟩
  rintro j ⟨m, x1, x2⟩ hj ⟨k1, F, pl⟩ K hK
  cases k1
  unfold pX10_withPlaces_l2
  have mV := inv_cp F V hN h7 pl
  have m6 : m.1 6 0 1 = nI N := (F.1 6 0 1 (by unfold cp_; omega)).trans hN
  have J := Iv_N mV hk m6 h7 hp
  show ((m.1 6 0 1) ≤ nI j → _) ∧ _
  rw [m6]
  rcases Nat.eq_or_lt_of_le hj with e | hlt
  · refine (iT (show nI N ≤ nI j by rw [e]; exact Int32.le_refl _)).mpr ?_
    have := hP m F pl
    unfold g6_ at this
    rw [e]
    exact this
  · refine (iF (nI_ge hlt (by omega))).mpr (c_isPlaced J hlt ?_)
    rw [cp_pd F]
    rcases pd_01 μ N j with q | q
    · rw [q]
      refine (iT rfl).mpr (hK hlt _ ⟨?_, F, pl⟩)
      show (hg_ (q6_ μ N) h j, nI j + 1) = _
      rw [nI_1, hg_S]
      conv => rhs; unfold q6_
      rw [if_neg (by omega)]
      rfl
    · rw [q]
      refine (iF (by decide)).mpr ?_
      have hti : is_t m j := by
        rcases ta_cases J.2.2.2.2.2.2.2.1 hlt with z | z
        · have := pd_a J hlt z
          rw [cp_pd F, q] at this
          cases this
        · exact z
      refine c_placing J hlt hti ?_
      intro m2 F2 pl2 vals
      have F3 := F.tr F2
      refine lp_up 5 (fun w x => x = (m2, hs_ (pv_ μ N j) (hg_ (q6_ μ N) h j) w, nI j, j, nI w)) ?_ 0 (by omega) _ rfl
      intro w x hw hI K2 hK2
      subst hI
      unfold pX10_withPlaces_l37
      rcases Nat.eq_or_lt_of_le hw with e | wlt
      · subst e
        refine (iT (show (4 : Int32) < nI 5 by decide)).mpr (hK hlt _ ⟨?_, F3, pl2⟩)
        show (hs_ (pv_ μ N j) (hg_ (q6_ μ N) h j) 5, nI j + 1) = _
        rw [nI_1, hg_S]
        conv => rhs; unfold q6_
        rw [if_pos q]
        rfl
      · refine (iF (show ¬ nI 4 < nI w from nI_nlt (by omega) (by omega))).mpr ⟨show j < 7 by omega, c_tell7 (x := pv_ μ N j w) (show j < 7 by omega) wlt ?_ ?_⟩
        · rw [vals w wlt, (cp_pv F).2.2.2]
        · unfold pX10_with
          refine hK2 wlt _ ?_
          show (m2, 31 * hs_ (pv_ μ N j) (hg_ (q6_ μ N) h j) w + (pv_ μ N j w).toInt64, nI j, j, nI w + 1) = _
          rw [nI_1, hs_S]
theorem c_with7 (I : Iv_ N k μ) (hP : Po (g7_ μ h) μ) : pX10_withSlots Po μ h := by
  unfold pX10_withSlots
  refine lp_up 16 (fun j x => x = (μ, hs_ (fun s => μ.1 18 0 s) h j, nI j)) ?_ 0 (by omega) _ rfl
  intro j x hj hI K hK
  subst hI
  unfold pX10_withSlots_l2
  rcases Nat.eq_or_lt_of_le hj with e | hlt
  · subst e
    exact (iT (show (16 : Int32) ≤ nI 16 by decide)).mpr hP
  · refine (iF (show ¬ nI 16 ≤ nI j from nI_ge hlt (by omega))).mpr ?_
    unfold pX10_slot pX10_with
    refine (q_rd_t I.2.2.2.2.1 I.2.1 I.1).mpr (j1.mpr ((iF (nI_pos (by omega))).mpr ((iT (show nI j < nI 16 from nI_lt hlt (by omega))).mpr ⟨vp_in_nI hlt (by omega), ?_⟩)))
    refine hK hlt _ ?_
    show (μ, 31 * hs_ (fun s => μ.1 18 0 s) h j + (μ.1 18 0 (nI j).toNatClampNeg).toInt64, nI j + 1) = _
    rw [nI_1, hs_S, nI_clamp (by omega)]
theorem c_count {Po : Int32 → mm_T → Prop} {j : Nat} (hj : j < 5) (hP : Po (cv_ μ j) μ) : pX10_count Po μ (nI j) := by
  unfold pX10_count
  rcases (show j = 0 ∨ j = 1 ∨ j = 2 ∨ j = 3 ∨ j = 4 by omega) with rfl | rfl | rfl | rfl | rfl
  · exact ⟨fun _ => hP, fun q => absurd q (by decide), fun q => absurd q (by decide), fun q => absurd q (by decide), fun q => absurd q (by decide), fun q => absurd rfl q⟩
  · exact ⟨fun q => absurd q (by decide), fun _ => hP, fun q => absurd q (by decide), fun q => absurd q (by decide), fun q => absurd q (by decide), fun _ q => absurd rfl q⟩
  · exact ⟨fun q => absurd q (by decide), fun q => absurd q (by decide), fun _ => hP, fun q => absurd q (by decide), fun q => absurd q (by decide), fun _ _ q => absurd rfl q⟩
  · exact ⟨fun q => absurd q (by decide), fun q => absurd q (by decide), fun q => absurd q (by decide), fun _ => hP, fun q => absurd q (by decide), fun _ _ _ q => absurd rfl q⟩
  · exact ⟨fun q => absurd q (by decide), fun q => absurd q (by decide), fun q => absurd q (by decide), fun q => absurd q (by decide), fun _ => hP, fun _ _ _ _ q => absurd rfl q⟩
theorem c_with8 {L : Nat} (hL : L ≤ 110) (h1 : μ.1 1 0 1 = nI L) (hP : Po (g8_ μ L h) μ) : pX10_digest_b44 Po μ h := by
  unfold pX10_digest_b44
  refine lp_up L (fun j x => x = (μ, hs_ (fun k => μ.1 2 0 k) h j, nI j)) ?_ 0 (by omega) _ rfl
  intro j x hj hI K hK
  subst hI
  unfold pX10_digest_l46
  rw [h1]
  rcases Nat.eq_or_lt_of_le hj with e | hlt
  rotate_left
  · refine (iF (nI_ge hlt (by omega))).mpr ⟨vp_in_nI (by omega) (by omega), ?_⟩
    unfold pX10_with
    refine hK hlt _ ?_
    show (μ, 31 * hs_ (fun k => μ.1 2 0 k) h j + (μ.1 2 0 (nI j).toNatClampNeg).toInt64, nI j + 1) = _
    rw [nI_1, hs_S, nI_clamp (by omega)]
  refine (iT (show nI L ≤ nI j by rw [e]; exact Int32.le_refl _)).mpr ?_
  rw [e]
  clear hK K
  show lp_ _ (μ, hs_ (fun k => μ.1 2 0 k) h L, (0 : Int32))
  unfold g8_ at hP
  generalize hs_ (fun k => μ.1 2 0 k) h L = h2 at hP ⊢
  refine lp_up 5 (fun j x => x = (μ, hs_ (cv_ μ) h2 j, nI j)) ?_ 0 (by omega) _ rfl
  intro j x hj hI K hK
  subst hI
  unfold pX10_digest_l79
  rcases Nat.eq_or_lt_of_le hj with e | hlt
  · subst e
    exact (iT (show (4 : Int32) < nI 5 by decide)).mpr hP
  · refine (iF (show ¬ nI 4 < nI j from nI_nlt (by omega) (by omega))).mpr ?_
    refine c_count hlt ?_
    unfold pX10_with
    refine hK hlt _ ?_
    show (μ, 31 * hs_ (cv_ μ) h2 j + (cv_ μ j).toInt64, nI j + 1) = _
    rw [nI_1, hs_S]
end DC
