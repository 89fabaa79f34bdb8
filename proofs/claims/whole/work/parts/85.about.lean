/-! about -/
def sk_ (g : Nat → Int32) : Nat → Nat
  | 0 => 0
  | n + 1 => sk_ g n + (if g n = -1 then 0 else 1)
def pn_ (μ : mm_T) (N : Nat) : Nat → Nat
  | 0 => 0
  | n + 1 => pn_ μ N n + pd_ μ N n
def av_ (μ : mm_T) (N w : Nat) : Int32 := if w = 0 then nI N else if w = 1 then nI (rc_ (fun i => μ.1 9 i 0) N) else if w = 2 then nI N - nI (rc_ (fun i => μ.1 9 i 0) N) else if w = 3 then nI (tm_ μ) else if w = 4 then μ.1 6 0 3 else if w = 5 then μ.1 6 0 4 else if w = 6 then nI (sk_ (fun s => μ.1 18 0 s) 16) else nI (pn_ μ N N)
section AV
variable {Po : Int32 → mm_T → Prop} {μ : mm_T} {N k w : Nat}
theorem c_tags (h : Iv_ N k μ) (hP : Po (nI (rc_ (fun i => μ.1 9 i 0) N)) μ) : pX0_tagCount Po μ := by
  obtain ⟨hp, h7, hk, sq, hN, hM, la, f1, f2, f3, f4, f5, f6, f7, f8⟩ := h
  unfold pX0_tagCount
  refine lp_up N (fun j x => x = (μ, nI (rc_ (fun i => μ.1 9 i 0) j), nI j)) ?_ 0 (by omega) _ rfl
  intro j x hj hI K hK
  subst hI
  unfold pX0_tagCount_l4
  rw [hN]
  rcases Nat.eq_or_lt_of_le hj with e | hlt
  · refine (iT (show nI N ≤ nI j by rw [e]; exact Int32.le_refl _)).mpr ?_
    rw [e]
    exact hP
  · refine (iF (nI_ge hlt (by omega))).mpr ?_
    have hs : rc_ (fun i => μ.1 9 i 0) (j + 1) = rc_ (fun i => μ.1 9 i 0) j + (if μ.1 9 j 0 = 1 then 1 else 0) := rfl
    rcases ta_cases f1 hlt with q | q
    · refine (q_tag_a hN h7 hlt q).mpr (i0.mpr (hK hlt _ ?_))
      show (μ, nI (rc_ (fun i => μ.1 9 i 0) j), nI j + 1) = _
      rw [hs, if_neg (by rw [show μ.1 9 j 0 = 0 from q]; decide), nI_1]
      rfl
    · refine (q_tag_t hN h7 hlt q).mpr (i1.mpr (hK hlt _ ?_))
      show (μ, nI (rc_ (fun i => μ.1 9 i 0) j) + 1, nI j + 1) = _
      rw [hs, if_pos (show μ.1 9 j 0 = 1 from q), nI_1, nI_1]
theorem m_tags (h : Iv_ N k μ) (hP : Po (nI (rc_ (fun i => μ.1 9 i 0) N)) μ) : pX11_tagsMany Po μ := by
  obtain ⟨hp, h7, hk, sq, hN, hM, la, f1, f2, f3, f4, f5, f6, f7, f8⟩ := h
  unfold pX11_tagsMany
  refine lp_up N (fun j x => x = (μ, nI (rc_ (fun i => μ.1 9 i 0) j), nI j)) ?_ 0 (by omega) _ rfl
  intro j x hj hI K hK
  subst hI
  unfold pX11_tagsMany_l4
  rw [hM]
  rcases Nat.eq_or_lt_of_le hj with e | hlt
  · refine (iT (show nI N ≤ nI j by rw [e]; exact Int32.le_refl _)).mpr ?_
    rw [e]
    exact hP
  · refine (iF (nI_ge hlt (by omega))).mpr ⟨vp_in_nI (by omega) (by omega), ?_⟩
    have hs : rc_ (fun i => μ.1 9 i 0) (j + 1) = rc_ (fun i => μ.1 9 i 0) j + (if μ.1 9 j 0 = 1 then 1 else 0) := rfl
    show ((μ.1 28 0 (nI j).toNatClampNeg) = 0 → _) ∧ _
    rw [nI_clamp (by omega), (f1 j hlt).2.1]
    rcases ta_cases f1 hlt with q | q
    · refine (iT q).mpr ?_
      intro x2 e2
      have e2 : x2 = nI (rc_ (fun i => μ.1 9 i 0) j) + 0 := e2
      rw [Int32.add_zero] at e2
      refine hK hlt _ ?_
      show (μ, x2, nI j + 1) = _
      rw [hs, if_neg (by rw [show μ.1 9 j 0 = 0 from q]; decide), nI_1, e2]
      rfl
    · refine (iF (by rw [show μ.1 9 j 0 = 1 from q]; decide)).mpr ?_
      intro x2 e2
      have e2 : x2 = nI (rc_ (fun i => μ.1 9 i 0) j) + 1 := e2
      refine hK hlt _ ?_
      show (μ, x2, nI j + 1) = _
      rw [hs, if_pos (show μ.1 9 j 0 = 1 from q), e2, nI_1, nI_1]
theorem c_taken (hP : Po (nI (sk_ (fun s => μ.1 18 0 s) 16)) μ) : pX9_takenCount Po μ := by
  unfold pX9_takenCount
  refine lp_up 16 (fun j x => x = (μ, nI (sk_ (fun s => μ.1 18 0 s) j), nI j)) ?_ 0 (by omega) _ rfl
  intro j x hj hI K hK
  subst hI
  unfold pX9_takenCount_l4
  rcases Nat.eq_or_lt_of_le hj with e | hlt
  · subst e
    exact (iT (show (16 : Int32) ≤ nI 16 by decide)).mpr hP
  · refine (iF (show ¬ nI 16 ≤ nI j from nI_ge hlt (by omega))).mpr ⟨vp_in_nI hlt (by omega), ?_⟩
    have hs : sk_ (fun s => μ.1 18 0 s) (j + 1) = sk_ (fun s => μ.1 18 0 s) j + (if μ.1 18 0 j = -1 then 0 else 1) := rfl
    show ((μ.1 18 0 (nI j).toNatClampNeg) = -1 → _) ∧ _
    rw [nI_clamp (by omega)]
    by_cases q : μ.1 18 0 j = -1
    · refine (iT q).mpr (hK hlt _ ?_)
      show (μ, nI (sk_ (fun s => μ.1 18 0 s) j), nI j + 1) = _
      rw [hs, if_pos q, nI_1]
      rfl
    · refine (iF q).mpr (hK hlt _ ?_)
      show (μ, nI (sk_ (fun s => μ.1 18 0 s) j) + 1, nI j + 1) = _
      rw [hs, if_neg q, nI_1, nI_1]
theorem m_taken (hs16 : ∀ s, s < 16 → μ.1 41 0 s = μ.1 18 0 s) (hP : Po (nI (sk_ (fun s => μ.1 18 0 s) 16)) μ) : pX11_dealtMany Po μ := by
  unfold pX11_dealtMany
  refine lp_up 16 (fun j x => x = (μ, nI (sk_ (fun s => μ.1 18 0 s) j), nI j)) ?_ 0 (by omega) _ rfl
  intro j x hj hI K hK
  subst hI
  unfold pX11_dealtMany_l4
  rcases Nat.eq_or_lt_of_le hj with e | hlt
  · subst e
    exact (iT (show (16 : Int32) ≤ nI 16 by decide)).mpr hP
  · refine (iF (show ¬ nI 16 ≤ nI j from nI_ge hlt (by omega))).mpr ⟨vp_in_nI hlt (by omega), ?_⟩
    have hs : sk_ (fun s => μ.1 18 0 s) (j + 1) = sk_ (fun s => μ.1 18 0 s) j + (if μ.1 18 0 j = -1 then 0 else 1) := rfl
    show (¬ (μ.1 41 0 (nI j).toNatClampNeg) = -1 → _) ∧ ((μ.1 41 0 (nI j).toNatClampNeg) = -1 → _)
    rw [nI_clamp (by omega), hs16 j hlt]
    by_cases q : μ.1 18 0 j = -1
    · refine (jT q).mpr ?_
      intro x2 e2
      have e2 : x2 = nI (sk_ (fun s => μ.1 18 0 s) j) + 0 := e2
      rw [Int32.add_zero] at e2
      refine hK hlt _ ?_
      show (μ, x2, nI j + 1) = _
      rw [hs, if_pos q, nI_1, e2]
      rfl
    · refine (jF q).mpr ?_
      intro x2 e2
      have e2 : x2 = nI (sk_ (fun s => μ.1 18 0 s) j) + 1 := e2
      refine hK hlt _ ?_
      show (μ, x2, nI j + 1) = _
      rw [hs, if_neg q, e2, nI_1, nI_1]
theorem c_plcnt (h : Iv_ N k μ) (hP : Po (nI (pn_ μ N N)) μ) : pX0_placedCount Po μ := by
  have h0 := h
  obtain ⟨hp, h7, hk, sq, hN, hM, la, f1, f2, f3, f4, f5, f6, f7, f8⟩ := h
  unfold pX0_placedCount
  refine lp_up N (fun j x => x = (μ, nI (pn_ μ N j), nI j)) ?_ 0 (by omega) _ rfl
  intro j x hj hI K hK
  subst hI
  unfold pX0_placedCount_l4
  rw [hN]
  rcases Nat.eq_or_lt_of_le hj with e | hlt
  · refine (iT (show nI N ≤ nI j by rw [e]; exact Int32.le_refl _)).mpr ?_
    rw [e]
    exact hP
  · refine (iF (nI_ge hlt (by omega))).mpr (c_isPlaced h0 hlt ?_)
    have hs : pn_ μ N (j + 1) = pn_ μ N j + pd_ μ N j := rfl
    rcases pd_01 μ N j with q | q
    · rw [q]
      refine (iT rfl).mpr (hK hlt _ ?_)
      show (μ, nI (pn_ μ N j), nI j + 1) = _
      rw [hs, q, nI_1]
      rfl
    · rw [q]
      refine (iF (by decide)).mpr (hK hlt _ ?_)
      show (μ, nI (pn_ μ N j) + 1, nI j + 1) = _
      rw [hs, q, nI_1, nI_1]
theorem m_plcnt (h : Iv_ N k μ) (hP : Po (nI (pn_ μ N N)) μ) : pX11_placedMany Po μ := by
  have h0 := h
  obtain ⟨hp, h7, hk, sq, hN, hM, la, f1, f2, f3, f4, f5, f6, f7, f8⟩ := h
  unfold pX11_placedMany
  refine lp_up N (fun j x => x = (μ, nI (pn_ μ N j), nI j)) ?_ 0 (by omega) _ rfl
  intro j x hj hI K hK
  subst hI
  unfold pX11_placedMany_l4
  rw [hM]
  rcases Nat.eq_or_lt_of_le hj with e | hlt
  · refine (iT (show nI N ≤ nI j by rw [e]; exact Int32.le_refl _)).mpr ?_
    rw [e]
    exact hP
  · refine (iF (nI_ge hlt (by omega))).mpr ⟨vp_in_nI (by omega) (by omega), ?_⟩
    have hs : pn_ μ N (j + 1) = pn_ μ N j + pd_ μ N j := rfl
    show ((μ.1 28 0 (nI j).toNatClampNeg) = 0 → _) ∧ _
    rw [nI_clamp (by omega), (f1 j hlt).2.1]
    have stay : pd_ μ N j = 0 → pX11_placedMany_b34 (fun μ a1 a2 => K (μ, a1, a2)) μ (nI j) (nI (pn_ μ N j)) := by
      intro q
      unfold pX11_placedMany_b34
      intro x2 e2
      rw [Int32.add_zero] at e2
      refine hK hlt _ ?_
      rw [hs, q, nI_1, e2]
      rfl
    rcases ta_cases f1 hlt with q | q
    · exact (iT q).mpr (stay (pd_a h0 hlt q))
    · refine (iF (by rw [show μ.1 9 j 0 = 1 from q]; decide)).mpr (m_isPlaced h0 hlt q ?_)
      rcases pd_01 μ N j with z | z
      · rw [z]
        exact (iT rfl).mpr (stay z)
      · rw [z]
        refine (iF (by decide)).mpr ?_
        intro x5 e5
        have e5 : x5 = nI (pn_ μ N j) + 1 := e5
        refine hK hlt _ ?_
        show (μ, x5, nI j + 1) = _
        rw [hs, z, e5, nI_1, nI_1]
theorem w8 {w : Nat} (h : w < 8) : w = 0 ∨ w = 1 ∨ w = 2 ∨ w = 3 ∨ w = 4 ∨ w = 5 ∨ w = 6 ∨ w = 7 := by omega
theorem c_about (h : Iv_ N k μ) (hw : w < 8) (hP : Po (av_ μ N w) μ) : pX10_about Po μ (nI w) := by
  have h0 := h
  obtain ⟨tm1, tm2, tm3⟩ := tm_ok h
  obtain ⟨hp, h7, hk, sq, hN, hM, la, f1, f2, f3, f4, f5, f6, f7, f8⟩ := h
  unfold pX10_about
  refine (q_rd_t hN h7 hp).mpr (j1.mpr ?_)
  rcases w8 hw with rfl | rfl | rfl | rfl | rfl | rfl | rfl | rfl
  · have hP : Po (nI N) μ := hP
    refine ⟨fun _ => by rw [hN]; exact hP, fun q => absurd q (by decide), fun q => absurd q (by decide), fun q => absurd q (by decide), fun q => absurd q (by decide), fun q => absurd q (by decide), fun q => absurd q (by decide), fun q => absurd q (by decide), fun q => absurd rfl q⟩
  · refine ⟨fun q => absurd q (by decide), fun _ => c_tags h0 hP, fun q => absurd q (by decide), fun q => absurd q (by decide), fun q => absurd q (by decide), fun q => absurd q (by decide), fun q => absurd q (by decide), fun q => absurd q (by decide), fun _ q => absurd rfl q⟩
  · have hP : Po (nI N - nI (rc_ (fun i => μ.1 9 i 0) N)) μ := hP
    refine ⟨fun q => absurd q (by decide), fun q => absurd q (by decide), fun _ => c_tags h0 (by rw [hN]; exact hP), fun q => absurd q (by decide), fun q => absurd q (by decide), fun q => absurd q (by decide), fun q => absurd q (by decide), fun q => absurd q (by decide), fun _ _ q => absurd rfl q⟩
  · have hP : Po (nI (tm_ μ)) μ := hP
    refine ⟨fun q => absurd q (by decide), fun q => absurd q (by decide), fun q => absurd q (by decide), fun _ => by rw [tm1, lN_i]; exact hP, fun q => absurd q (by decide), fun q => absurd q (by decide), fun q => absurd q (by decide), fun q => absurd q (by decide), fun _ _ _ q => absurd rfl q⟩
  · refine ⟨fun q => absurd q (by decide), fun q => absurd q (by decide), fun q => absurd q (by decide), fun q => absurd q (by decide), fun _ => hP, fun q => absurd q (by decide), fun q => absurd q (by decide), fun q => absurd q (by decide), fun _ _ _ _ q => absurd rfl q⟩
  · refine ⟨fun q => absurd q (by decide), fun q => absurd q (by decide), fun q => absurd q (by decide), fun q => absurd q (by decide), fun q => absurd q (by decide), fun _ => hP, fun q => absurd q (by decide), fun q => absurd q (by decide), fun _ _ _ _ _ q => absurd rfl q⟩
  · refine ⟨fun q => absurd q (by decide), fun q => absurd q (by decide), fun q => absurd q (by decide), fun q => absurd q (by decide), fun q => absurd q (by decide), fun q => absurd q (by decide), fun _ => c_taken hP, fun q => absurd q (by decide), fun _ _ _ _ _ _ q => absurd rfl q⟩
  · refine ⟨fun q => absurd q (by decide), fun q => absurd q (by decide), fun q => absurd q (by decide), fun q => absurd q (by decide), fun q => absurd q (by decide), fun q => absurd q (by decide), fun q => absurd q (by decide), fun _ => c_plcnt h0 hP, fun _ _ _ _ _ _ _ q => absurd rfl q⟩
theorem m_about (h : Iv_ N k μ) (hw : w < 8) (hP : Po (av_ μ N w) μ) : pX11_aboutNow Po μ (nI w) := by
  have h0 := h
  obtain ⟨tm1, tm2, tm3⟩ := tm_ok h
  obtain ⟨hp, h7, hk, sq, hN, hM, la, f1, f2, f3, f4, ⟨⟨lv, lv1, lv2, lv3, lv4⟩, lm, lm1, lm2, lm3⟩, f6, f7, f8⟩ := h
  unfold pX11_aboutNow
  rcases w8 hw with rfl | rfl | rfl | rfl | rfl | rfl | rfl | rfl
  · have hP : Po (nI N) μ := hP
    refine ⟨fun _ => by rw [hM]; exact hP, fun q => absurd q (by decide), fun q => absurd q (by decide), fun q => absurd q (by decide), fun q => absurd q (by decide), fun q => absurd q (by decide), fun q => absurd q (by decide), fun q => absurd rfl q⟩
  · refine ⟨fun q => absurd q (by decide), fun _ => m_tags h0 hP, fun q => absurd q (by decide), fun q => absurd q (by decide), fun q => absurd q (by decide), fun q => absurd q (by decide), fun q => absurd q (by decide), fun _ q => absurd rfl q⟩
  · have hP : Po (nI N - nI (rc_ (fun i => μ.1 9 i 0) N)) μ := hP
    refine ⟨fun q => absurd q (by decide), fun q => absurd q (by decide), fun _ => m_tags h0 (by rw [hM]; exact hP), fun q => absurd q (by decide), fun q => absurd q (by decide), fun q => absurd q (by decide), fun q => absurd q (by decide), fun _ _ q => absurd rfl q⟩
  · have hP : Po (nI (tm_ μ)) μ := hP
    refine ⟨fun q => absurd q (by decide), fun q => absurd q (by decide), fun q => absurd q (by decide), fun _ => by rw [tm2]; exact hP, fun q => absurd q (by decide), fun q => absurd q (by decide), fun q => absurd q (by decide), fun _ _ _ q => absurd rfl q⟩
  · have hP : Po (μ.1 6 0 3) μ := hP
    refine ⟨fun q => absurd q (by decide), fun q => absurd q (by decide), fun q => absurd q (by decide), fun q => absurd q (by decide), fun _ => by rw [lv4, ← lv3]; exact hP, fun q => absurd q (by decide), fun q => absurd q (by decide), fun _ _ _ _ q => absurd rfl q⟩
  · have hP : Po (μ.1 6 0 4) μ := hP
    refine ⟨fun q => absurd q (by decide), fun q => absurd q (by decide), fun q => absurd q (by decide), fun q => absurd q (by decide), fun q => absurd q (by decide), fun _ => by rw [lm3, ← lm2]; exact hP, fun q => absurd q (by decide), fun _ _ _ _ _ q => absurd rfl q⟩
  · refine ⟨fun q => absurd q (by decide), fun q => absurd q (by decide), fun q => absurd q (by decide), fun q => absurd q (by decide), fun q => absurd q (by decide), fun q => absurd q (by decide), fun _ => m_taken (fun s hs => (f7 s hs).1) hP, fun _ _ _ _ _ _ q => absurd rfl q⟩
  · refine ⟨fun q => absurd q (by decide), fun q => absurd q (by decide), fun q => absurd q (by decide), fun q => absurd q (by decide), fun q => absurd q (by decide), fun q => absurd q (by decide), fun q => absurd q (by decide), fun _ _ _ _ _ _ _ => m_plcnt h0 hP⟩
end AV
theorem st_about (k : Nat) (μ : mm_T) (h : Inv_ k μ) (hk : k ≤ 600) (x : Int32) : so_about (Inv_ k) μ x := by
  obtain ⟨N, h7, hN, hM, hd, hI⟩ := Iv_of h hk
  unfold so_about
  rcases hI with e | hI
  · subst e
    unfold pX10_about pX11_about
    exact (q_rd_f hN).mpr (j0.mpr ((q_fd_f hM).mpr (j0.mpr ⟨rfl, h⟩)))
  have hp := hI.1
  by_cases b : ∃ w, w < 8 ∧ x = nI w
  · obtain ⟨w, hw, rfl⟩ := b
    refine c_about hI hw ?_
    unfold pX11_about
    exact (q_fd_t hM h7 hp).mpr (j1.mpr ((q_win_t (nI_pos' (by omega)) (nI_le (b := 7) (by omega) (by omega))).mpr (i1.mpr (m_about hI hw ⟨rfl, h⟩))))
  · have n (w : Nat) (hw : w < 8) : ¬ x = nI w := fun q => b ⟨w, hw, q⟩
    have ob : x < 0 ∨ 7 < x := by
      rcases ni_cases x 8 (by omega) with ⟨w, hw, e⟩ | q | q
      · exact absurd e (n w hw)
      · exact Or.inl q
      · exact Or.inr (Int32.lt_of_lt_of_le (by decide) q)
    unfold pX10_about pX11_about
    refine (q_rd_t hN h7 hp).mpr (j1.mpr ⟨fun q => absurd q (n 0 (by omega)), fun q => absurd q (n 1 (by omega)), fun q => absurd q (n 2 (by omega)), fun q => absurd q (n 3 (by omega)), fun q => absurd q (n 4 (by omega)), fun q => absurd q (n 5 (by omega)), fun q => absurd q (n 6 (by omega)), fun q => absurd q (n 7 (by omega)), fun _ _ _ _ _ _ _ _ => ?_⟩)
    exact (q_fd_t hM h7 hp).mpr (j1.mpr ((q_win_f ob).mpr (i0.mpr ⟨rfl, h⟩)))
