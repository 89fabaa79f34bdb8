/-! The model's reading. -/
theorem m_keep {Po : mm_T → Prop} {μ : mm_T} {c t p f : Nat} {ng : Int32} {rows : Nat → Nat → Int32} (hc : c ≤ 6) (h1 : p ≠ 0) (h4 : p ≤ 4) (hf : f ≠ 0) (hng : ng = 0 ∨ ng = 1) (R : Pm_ c t p f ng rows μ) (h : Po (mm_I μ (44 + p) 0 c (if p = 3 ∧ ng ≠ 0 then -(rows c 3) else rows c p))) : pX11_keepNumber Po μ := by
  obtain ⟨R1, R2, R3, R4, R5, -⟩ := R
  have e32 : μ.1 26 0 32 = rows c p := by rw [R4 h1, if_neg hf]
  rw [if_neg h1] at R3
  have vc : vp_in (nI c) 7 := vp_in_nI (by omega) (by omega)
  have cc := nI_clamp (show c < 2 ^ 31 by omega)
  unfold pX11_keepNumber
  intro x1 e1
  rw [R3, nI_pred] at e1
  subst e1
  rw [R1, e32, cc]
  rcases (show p = 1 ∨ p = 2 ∨ p = 3 ∨ p = 4 by omega) with rfl | rfl | rfl | rfl
  · refine ⟨fun _ => ⟨vc, fun m e => ?_⟩, fun q => absurd q (by decide), fun q => absurd q (by decide), fun q => absurd rfl q⟩
    rw [if_neg (by omega)] at h
    rw [e]; exact h
  · refine ⟨fun q => absurd q (by decide), fun _ => ⟨vc, fun m e => ?_⟩, fun q => absurd q (by decide), fun _ q => absurd rfl q⟩
    rw [if_neg (by omega)] at h
    rw [e]; exact h
  · refine ⟨fun q => absurd q (by decide), fun q => absurd q (by decide), fun _ => ?_, fun _ _ q => absurd rfl q⟩
    rw [R5 rfl]
    by_cases q : ng = 0
    · refine (iT q).mpr ⟨vc, fun m e => ?_⟩
      rw [if_neg (fun z => z.2 q)] at h
      rw [e]; exact h
    · refine (iF q).mpr ⟨vc, fun m e => ?_⟩
      rw [if_pos ⟨rfl, q⟩] at h
      rw [e]; exact h
  · refine ⟨fun q => absurd q (by decide), fun q => absurd q (by decide), fun q => absurd q (by decide), fun _ _ _ => ⟨vc, fun m e => ?_⟩⟩
    rw [if_neg (by omega)] at h
    rw [e]; exact h
theorem m_takes {Po : Int32 → mm_T → Prop} {μ : mm_T} {c t p f : Nat} {ng l : Int32} {rows : Nat → Nat → Int32} (ok : pok c t p f ng rows) (hf : f < 1000) (R : Pm_ c t p f ng rows μ) (hs : ∀ c' t' p' f' ng' rows', ps_go c t p f ng rows l = some (c', t', p', f', ng', rows') → ∀ m, fmi_ pm_ μ m → Pm_ c' t' p' f' ng' rows' m → Po 1 m) (hn : ps_go c t p f ng rows l = none → ∀ m, fmi_ pm_ μ m → Pm_ c t p f ng rows m → Po 0 m) : pX11_takes Po μ l := by
  have R0 := R
  obtain ⟨h1, h2, h3, ⟨v, v1, v2⟩, h4, h5, h6, h7, h8⟩ := ok
  obtain ⟨R1, R2, R3, R4, R5, R6, R7, R8, R9, R10⟩ := R
  have vc : vp_in (nI c) 7 := vp_in_nI (by omega) (by omega)
  have cc := nI_clamp (show c < 2 ^ 31 by omega)
  have p26 : ∀ c, 31 ≤ c → c ≤ 35 → pm_ 26 c := fun c a b => Or.inl ⟨rfl, a, b⟩
  have p4x : ∀ a c, 44 ≤ a → a ≤ 48 → pm_ a c := fun a c x y => Or.inr ⟨x, y⟩
  unfold pX11_takes
  rw [R1]
  by_cases p0 : p = 0
  · subst p0
    refine (jT rfl).mpr ?_
    have r0 : rows c 0 = 0 := by
      have : v = 0 := by simpa [gr_] using v1
      rw [v2, this]
      rfl
    rw [if_pos rfl] at R3
    have fin : ∀ (x : Int32) (t' : Nat) (rows' : Nat → Nat → Int32), (x = 0 ∨ x = 1) → rows' = rw_ (rw_ rows c 0 x) c 1 0 → Pm_ c t' 1 0 ng rows' (mm_I (mm_I (mm_I (mm_I (mm_I μ 44 0 c x) 26 0 34 (nI t')) 26 0 33 (nI (c + 1))) 26 0 31 1) 26 0 32 (-1)) := by
      intro x t' rows' hx hr
      subst hr
      refine ⟨by simp [mm_Ir]; rfl, by simp [mm_Ir], by simp [mm_Ir], fun _ => by simp [mm_Ir], fun q => by omega, fun i hi => ?_, fun i hi => ?_, fun i hi => ?_, fun i hi => ?_, fun i hi => ?_⟩
      · simp only [mm_Ir]
        simp
        by_cases e : i = c
        · subst e
          rw [if_pos rfl, rw_n (by omega), rw_y]
        · rw [if_neg e, rw_n (by omega), rw_n (by omega)]
          exact R6 i (by omega)
      · simp only [mm_Ir]
        simp
        rw [rw_n (by omega), rw_n (by omega)]
        exact R7 i (by omega)
      · simp only [mm_Ir]
        simp
        rw [rw_n (by omega), rw_n (by omega)]
        exact R8 i (by omega)
      · simp only [mm_Ir]
        simp
        rw [rw_n (by omega), rw_n (by omega)]
        exact R9 i (by omega)
      · simp only [mm_Ir]
        simp
        rw [rw_n (by omega), rw_n (by omega)]
        exact R10 i hi
    have ff : ∀ (x y z u w : Int32), fmi_ pm_ μ (mm_I (mm_I (mm_I (mm_I (mm_I μ 44 0 c x) 26 0 34 y) 26 0 33 z) 26 0 31 u) 26 0 32 w) := fun x y z u w => ((((fmi_.rf.I (p4x 44 _ (by omega) (by omega))).I (p26 34 (by omega) (by omega))).I (p26 33 (by omega) (by omega))).I (p26 31 (by omega) (by omega))).I (p26 32 (by omega) (by omega))
    unfold pX11_takesKind pX11_takesKind_b20 pX11_takesKind_b24 pX11_takesKind_b25 pX11_takesKind_b49 pX11_takesKind_b66
    rw [R3, cc]
    by_cases b : l = 97
    · have nb : ¬ l = 116 := by rw [b]; decide
      refine (iT b).mpr (i1.mpr ((jF nb).mpr ⟨vc, Or.inl rfl, ?_⟩))
      intro m3 e3
      refine (jF nb).mpr ?_
      intro m4 e4 m5 e5 m6 e6 m7 e7
      refine ⟨Or.inr rfl, Or.inr rfl, ?_⟩
      have g34 : m3.1 26 0 34 = nI t := by rw [e3, mm_Ir]; simpa using R2
      rw [g34, Int32.add_zero] at e4
      have g33 : m4.1 26 0 33 = nI c := by rw [e4, mm_Ir, e3, mm_Ir]; simpa using R3
      rw [g33, nI_1] at e5
      have em : m7 = mm_I (mm_I (mm_I (mm_I (mm_I μ 44 0 c 0) 26 0 34 (nI t)) 26 0 33 (nI (c + 1))) 26 0 31 1) 26 0 32 (-1) := by rw [e7, e6, e5, e4, e3]
      rw [em]
      refine hs c t 1 0 ng (rw_ (rw_ rows c 0 0) c 1 0) ?_ _ (ff _ _ _ _ _) (fin 0 t _ (Or.inl rfl) rfl)
      have : rw_ rows c 0 0 = rows := by
        funext i j
        unfold rw_
        by_cases e : i = c ∧ j = 0
        · rw [if_pos e, e.1, e.2, r0]
        · rw [if_neg e]
      rw [this]
      simp [ps_go, b]
    · refine (iF b).mpr ?_
      by_cases b2 : l = 116
      · refine (jT b2).mpr ?_
        rw [R2]
        by_cases ht : t < 4
        · refine (iF (show ¬ nI 4 ≤ nI t from nI_ge ht (by omega))).mpr (i1.mpr ((jT b2).mpr ⟨vc, Or.inr rfl, ?_⟩))
          intro m3 e3
          refine (jT b2).mpr ?_
          intro m4 e4 m5 e5 m6 e6 m7 e7
          refine ⟨Or.inr rfl, Or.inr rfl, ?_⟩
          have g34 : m3.1 26 0 34 = nI t := by rw [e3, mm_Ir]; simpa using R2
          rw [g34, nI_1] at e4
          have g33 : m4.1 26 0 33 = nI c := by rw [e4, mm_Ir, e3, mm_Ir]; simpa using R3
          rw [g33, nI_1] at e5
          have em : m7 = mm_I (mm_I (mm_I (mm_I (mm_I μ 44 0 c 1) 26 0 34 (nI (t + 1))) 26 0 33 (nI (c + 1))) 26 0 31 1) 26 0 32 (-1) := by rw [e7, e6, e5, e4, e3]
          rw [em]
          exact hs c (t + 1) 1 0 ng (rw_ (rw_ rows c 0 1) c 1 0) (by simp [ps_go, b2, ht]) _ (ff _ _ _ _ _) (fin 1 (t + 1) _ (Or.inr rfl) rfl)
        · exact (iT (show nI 4 ≤ nI t from nI_le (by omega) (by omega))).mpr (i0.mpr ⟨Or.inl rfl, Or.inl rfl, hn (by simp [ps_go, b2, ht]) μ fmi_.rf R0⟩)
      · exact (jF b2).mpr (i0.mpr ⟨Or.inl rfl, Or.inl rfl, hn (by simp [ps_go, b, b2]) μ fmi_.rf R0⟩)
  have np0 : ¬ nI p = 0 := nI_ne0 (by omega) (by omega)
  refine (jF np0).mpr ?_
  have R4' := R4 p0
  rw [if_neg p0] at R3
  obtain ⟨G1, G2, G3⟩ := mG_n p0 h3
  by_cases bf : 48 ≤ l ∧ l ≤ 57
  · refine (q_win_t bf.1 bf.2).mpr (i1.mpr ?_)
    obtain ⟨d, d1, d2⟩ := fig_ bf
    rw [d2]
    have e10 : 10 * nI v + nI d = nI (10 * v + d) := by rw [show (10 : Int32) = nI 10 from rfl, pk_mul, nI_add]
    have hfig : ∀ (Po : Int32 → mm_T → Prop), (Pm_ c t p f ng rows (mm_I μ 26 0 32 (μ.1 26 0 32)) → Po 0 (mm_I μ 26 0 32 (μ.1 26 0 32))) → ∀ a2, pX11_takesFigure_b41 (fun r6 μ5 => (r6 = 0 ∨ r6 = 1) ∧ Po r6 μ5) μ a2 := by
      intro Po hh a2
      unfold pX11_takesFigure_b41 pX11_takesFigure_b42
      refine i0.mpr ?_
      intro m1 e1
      refine ⟨Or.inl rfl, Or.inl rfl, ?_⟩
      rw [e1]
      refine hh ?_
      have same : mm_I μ 26 0 32 (μ.1 26 0 32) = μ := by
        refine Prod.ext ?_ rfl
        funext a b c
        rw [mm_Ir]
        by_cases e : a = 26 ∧ b = 0 ∧ c = 32
        · rw [if_pos e, e.1, e.2.1, e.2.2]
        · rw [if_neg e]
      rw [same]
      exact R0
    have fno : ps_go c t p f ng rows l = none → ∀ a2, pX11_takesFigure_b41 (fun r6 μ5 => (r6 = 0 ∨ r6 = 1) ∧ Po r6 μ5) μ a2 := fun q a2 => hfig Po (fun hR => hn q _ (fmi_.rf.I (p26 32 (by omega) (by omega))) hR) a2
    have most : ∀ (Qo : Int32 → mm_T → Prop), Qo (nI (gr_ p)) μ → pX11_mostNow Qo μ := by
      intro Qo hq
      unfold pX11_mostNow
      rw [R1]
      rcases (show p = 1 ∨ p = 2 ∨ p = 3 ∨ p = 4 by omega) with rfl | rfl | rfl | rfl
      · exact (iF (show ¬ (3 : Int32) ≤ nI 1 by decide)).mpr hq
      · exact (iF (show ¬ (3 : Int32) ≤ nI 2 by decide)).mpr hq
      · exact (iT (show (3 : Int32) ≤ nI 3 by decide)).mpr ((jT rfl).mpr hq)
      · exact (iT (show (3 : Int32) ≤ nI 4 by decide)).mpr ((jF (show ¬ nI 4 = 3 by decide)).mpr hq)
    have key : ¬ (0 < f ∧ rows c p = 0) → pX11_takesFigure_b21 (fun r6 μ5 => (r6 = 0 ∨ r6 = 1) ∧ Po r6 μ5) μ (nI (10 * v + d)) := by
      intro nz
      unfold pX11_takesFigure_b21
      have n0 : ¬ μ.1 26 0 32 = 0 := by
        rw [R4']
        by_cases f0 : f = 0
        · rw [if_pos f0]; decide
        · rw [if_neg f0]; exact fun q => nz ⟨by omega, q⟩
      refine (iF n0).mpr (most _ ?_)
      by_cases b : 10 * v + d ≤ gr_ p
      · refine (iF (nI_nlt b (by omega))).mpr ?_
        unfold pX11_takesFigure_b42
        refine i1.mpr ?_
        intro m2 e2
        have g : ps_go c t p f ng rows l = some (c, t, p, f + 1, ng, rw_ rows c p (nI (10 * v + d))) := by
          unfold ps_go
          rw [if_neg p0, if_pos bf, v2, d2, e10, if_neg]
          rintro (q | q)
          · exact nz (by rw [v2]; exact q)
          · rw [G1] at q
            exact nI_nlt b (by omega) q
        refine ⟨Or.inr rfl, Or.inr rfl, hs _ _ _ _ _ _ g m2 (by rw [e2]; exact fmi_.rf.I (p26 32 (by omega) (by omega))) ?_⟩
        subst e2
        refine ⟨by simpa [mm_Ir] using R1, by simpa [mm_Ir] using R2, ?_, fun _ => ?_, fun q => by simpa [mm_Ir] using R5 q, fun i hi => ?_, fun i hi => ?_, fun i hi => ?_, fun i hi => ?_, fun i hi => ?_⟩
        · rw [if_neg p0]; simpa [mm_Ir] using R3
        · rw [if_neg (by omega), rw_y]; simp [mm_Ir]
        · rw [rw_n (by omega)]; simpa [mm_Ir] using R6 i hi
        · rw [rw_n (by omega)]; simpa [mm_Ir] using R7 i hi
        · rw [rw_n (by omega)]; simpa [mm_Ir] using R8 i hi
        · rw [rw_n (by omega)]; simpa [mm_Ir] using R9 i hi
        · rw [rw_n (by omega)]; simpa [mm_Ir] using R10 i hi
      · refine (iT (nI_lt (by omega) (by omega))).mpr (fno ?_ _)
        unfold ps_go
        rw [if_neg p0, if_pos bf, v2, d2, e10, if_pos]
        refine Or.inr ?_
        rw [G1]
        exact nI_lt (by omega) (by omega)
    unfold pX11_takesFigure
    by_cases f0 : f = 0
    · have e1 : μ.1 26 0 32 = -1 := by rw [R4', if_pos f0]
      refine (jT e1).mpr ?_
      have v0 : v = 0 := by
        have := h4 f0
        rw [v2] at this
        exact ni_inj (b := 0) (by omega) (by omega) this
      have := key (by omega)
      rw [v0] at this
      simpa using this
    · have e1 : μ.1 26 0 32 = nI v := by rw [R4', if_neg f0, v2]
      refine (jF (by rw [e1]; exact nIm1 (by omega))).mpr ?_
      by_cases z : rows c p = 0
      · unfold pX11_takesFigure_b21
        refine (iT (by rw [e1, ← v2]; exact z)).mpr (fno ?_ _)
        unfold ps_go
        rw [if_neg p0, if_pos bf, if_pos (Or.inl ⟨by omega, z⟩)]
      · rw [e1, e10]
        exact key (fun q => z q.2)
  · have hb : l < 48 ∨ 57 < l := by
      by_cases b1 : l < 48
      · exact Or.inl b1
      · exact Or.inr (Int32.not_le.mp (fun q => bf ⟨Int32.not_lt.mp b1, q⟩))
    refine (q_win_f hb).mpr (i0.mpr ?_)
    have no : ps_go c t p f ng rows l = none → pX11_takesSign_b20 (fun r4 μ3 => (r4 = 0 ∨ r4 = 1) ∧ Po r4 μ3) μ l := by
      intro q
      unfold pX11_takesSign_b20 pX11_takesSign_b21
      exact i0.mpr ⟨Or.inl rfl, Or.inl rfl, hn q μ fmi_.rf R0⟩
    unfold pX11_takesSign
    by_cases f0 : f = 0
    · refine (iT (by rw [R4', if_pos f0])).mpr (no ?_)
      unfold ps_go
      rw [if_neg p0, if_neg bf, if_pos f0]
    have e32 : μ.1 26 0 32 = nI v := by rw [R4', if_neg f0, v2]
    refine (iF (by rw [e32]; exact nIm1 (by omega))).mpr ?_
    have go : ps_go c t p f ng rows l = if p = 1 then (if l = 44 then some (c, t, 2, 0, ng, rw_ rows c 2 0) else none) else if p = 2 then (if l = 43 ∨ l = 45 then some (c, t, 3, 0, (if l = 45 then 1 else 0), rw_ rows c 3 0) else none) else if p = 3 then (if l = 64 then some (c, t, 4, 0, ng, rw_ (if ng = 0 then rows else rw_ rows c 3 (-(rows c 3))) c 4 0) else none) else (if l = 59 ∧ c < 6 then some (c + 1, t, 0, 0, ng, rw_ rows (c + 1) 0 0) else none) := by
      unfold ps_go
      rw [if_neg p0, if_neg bf, if_neg f0]
    /- behind a number -/
    have yes : ∀ (nx : Int32), (if p = 4 then 0 else nI (p + 1)) = nx → Po 1 (mm_I (mm_I (mm_I (mm_I μ (44 + p) 0 c (if p = 3 ∧ ng ≠ 0 then -(rows c 3) else rows c p)) 26 0 35 (if l = 45 then 1 else 0)) 26 0 31 nx) 26 0 32 (-1)) → pX11_takesSign_b21 (fun r4 μ3 => (r4 = 0 ∨ r4 = 1) ∧ Po r4 μ3) μ l 1 := by
      intro nx hnx hh
      unfold pX11_takesSign_b21
      refine i1.mpr (m_keep h1 p0 h3 f0 h5 R0 ?_)
      have g31 : ∀ x : Int32, (mm_I (mm_I μ (44 + p) 0 c (if p = 3 ∧ ng ≠ 0 then -(rows c 3) else rows c p)) 26 0 35 x).1 26 0 31 = nI p := by
        intro x
        rw [mm_Ir, if_neg (by omega), mm_Ir, if_neg (by omega)]
        exact R1
      have fin : ∀ x : Int32, (x = 0 ∨ x = 1) → x = (if l = 45 then 1 else 0) → pX11_takesSign_b42 (fun r4 μ3 => (r4 = 0 ∨ r4 = 1) ∧ Po r4 μ3) (mm_I μ (44 + p) 0 c (if p = 3 ∧ ng ≠ 0 then -(rows c 3) else rows c p)) 1 x := by
        intro x hx ex
        unfold pX11_takesSign_b42 pX11_takesSign_b64
        refine ⟨hx, ?_⟩
        intro m3 e3
        rw [e3, g31]
        by_cases p4 : p = 4
        · refine (jT (by rw [p4]; rfl)).mpr ?_
          intro m4 e4 m5 e5
          refine ⟨Or.inr rfl, Or.inr rfl, ?_⟩
          rw [if_pos p4] at hnx
          subst hnx
          rw [← ex] at hh
          rw [e5, e4]
          exact hh
        · refine (jF (fun q => p4 (ni_inj (b := 4) (by omega) (by omega) q))).mpr ?_
          intro m4 e4 m5 e5
          refine ⟨Or.inr rfl, Or.inr rfl, ?_⟩
          rw [if_neg p4] at hnx
          subst hnx
          rw [← ex] at hh
          rw [e5, e4, nI_1]
          exact hh
      by_cases q : l = 45
      · exact (jT q).mpr (fin 1 (Or.inr rfl) (by rw [if_pos q]))
      · exact (jF q).mpr (fin 0 (Or.inl rfl) (by rw [if_neg q]))
    have ff : ∀ (x y z u : Int32), fmi_ pm_ μ (mm_I (mm_I (mm_I (mm_I μ (44 + p) 0 c x) 26 0 35 y) 26 0 31 z) 26 0 32 u) := fun x y z u => (((fmi_.rf.I (p4x _ _ (by omega) (by omega))).I (p26 35 (by omega) (by omega))).I (p26 31 (by omega) (by omega))).I (p26 32 (by omega) (by omega))
    unfold pX11_isSign
    rw [R1]
    rcases (show p = 1 ∨ p = 2 ∨ p = 3 ∨ p = 4 by omega) with rfl | rfl | rfl | rfl
    · refine ⟨fun _ => ?_, fun q => absurd q (by decide), fun q => absurd q (by decide), fun q => absurd rfl q⟩
      by_cases b : l = 44
      · refine (jT b).mpr (i1.mpr (yes (nI 2) rfl (hs c t 2 0 ng (rw_ rows c 2 0) (by rw [go]; simp [b]) _ (ff _ _ _ _) ?_)))
        refine ⟨by simp [mm_Ir], by simpa [mm_Ir] using R2, by simpa [mm_Ir] using R3, fun _ => by simp [mm_Ir], fun q => by omega, fun i hi => ?_, fun i hi => ?_, fun i hi => ?_, fun i hi => ?_, fun i hi => ?_⟩
        · rw [rw_n (by omega)]; simpa [mm_Ir] using R6 i (by omega)
        · rw [rw_n (by omega)]
          by_cases e : i = c
          · simp [mm_Ir, e]
          · simpa [mm_Ir, e] using R7 i (by omega)
        · rw [rw_n (by omega)]; simpa [mm_Ir] using R8 i (by omega)
        · rw [rw_n (by omega)]; simpa [mm_Ir] using R9 i (by omega)
        · rw [rw_n (by omega)]; simpa [mm_Ir] using R10 i hi
      · refine (jF b).mpr (i0.mpr (no ?_))
        rw [go]
        simp [b]
    · refine ⟨fun q => absurd q (by decide), fun _ => ?_, fun q => absurd q (by decide), fun _ q => absurd rfl q⟩
      have y2 : (l = 43 ∨ l = 45) → pX11_takesSign_b21 (fun r4 μ3 => (r4 = 0 ∨ r4 = 1) ∧ Po r4 μ3) μ l 1 := by
        intro b
        refine yes (nI 3) rfl (hs c t 3 0 (if l = 45 then 1 else 0) (rw_ rows c 3 0) (by rw [go]; simp [b]) _ (ff _ _ _ _) ?_)
        refine ⟨by simp [mm_Ir], by simpa [mm_Ir] using R2, by simpa [mm_Ir] using R3, fun _ => by simp [mm_Ir], fun q => by simp [mm_Ir], fun i hi => ?_, fun i hi => ?_, fun i hi => ?_, fun i hi => ?_, fun i hi => ?_⟩
        · rw [rw_n (by omega)]; simpa [mm_Ir] using R6 i (by omega)
        · rw [rw_n (by omega)]; simpa [mm_Ir] using R7 i (by omega)
        · rw [rw_n (by omega)]
          by_cases e : i = c
          · simp [mm_Ir, e]
          · simpa [mm_Ir, e] using R8 i (by omega)
        · rw [rw_n (by omega)]; simpa [mm_Ir] using R9 i (by omega)
        · rw [rw_n (by omega)]; simpa [mm_Ir] using R10 i hi
      by_cases b1 : l = 43
      · exact (iT b1).mpr (i1.mpr (y2 (Or.inl b1)))
      refine (iF b1).mpr ?_
      by_cases b2 : l = 45
      · exact (jT b2).mpr (i1.mpr (y2 (Or.inr b2)))
      · refine (jF b2).mpr (i0.mpr (no ?_))
        rw [go]
        simp [b1, b2]
    · refine ⟨fun q => absurd q (by decide), fun q => absurd q (by decide), fun _ => ?_, fun _ _ q => absurd rfl q⟩
      by_cases b : l = 64
      · refine (jT b).mpr (i1.mpr (yes (nI 4) rfl (hs c t 4 0 ng (rw_ (if ng = 0 then rows else rw_ rows c 3 (-(rows c 3))) c 4 0) (by rw [go]; simp [b]) _ (ff _ _ _ _) ?_)))
        have rr : ∀ i j, ¬ (i = c ∧ j = 3) → (if ng = 0 then rows else rw_ rows c 3 (-(rows c 3))) i j = rows i j := by
          intro i j hij
          by_cases q : ng = 0
          · rw [if_pos q]
          · rw [if_neg q, rw_n hij]
        refine ⟨by simp [mm_Ir], by simpa [mm_Ir] using R2, by simpa [mm_Ir] using R3, fun _ => by simp [mm_Ir], fun q => by omega, fun i hi => ?_, fun i hi => ?_, fun i hi => ?_, fun i hi => ?_, fun i hi => ?_⟩
        · rw [rw_n (by omega), rr i 0 (by omega)]; simpa [mm_Ir] using R6 i (by omega)
        · rw [rw_n (by omega), rr i 1 (by omega)]; simpa [mm_Ir] using R7 i (by omega)
        · rw [rw_n (by omega), rr i 2 (by omega)]; simpa [mm_Ir] using R8 i (by omega)
        · rw [rw_n (by omega)]
          by_cases e : i = c
          · by_cases q : ng = 0
            · simp [mm_Ir, e, q]
            · simp [mm_Ir, e, q, rw_y]
          · rw [rr i 3 (by omega)]
            simpa [mm_Ir, e] using R9 i (by omega)
        · rw [rw_n (by omega), rr i 4 (by omega)]; simpa [mm_Ir] using R10 i hi
      · refine (jF b).mpr (i0.mpr (no ?_))
        rw [go]
        simp [b]
    · refine ⟨fun q => absurd q (by decide), fun q => absurd q (by decide), fun q => absurd q (by decide), fun _ _ _ => ?_⟩
      by_cases b : l = 59
      · refine (jT b).mpr ?_
        rw [R3]
        by_cases c6 : c < 6
        · refine (iF (show ¬ nI 7 ≤ nI (c + 1) from nI_ge (by omega) (by omega))).mpr (i1.mpr (yes 0 rfl (hs (c + 1) t 0 0 ng (rw_ rows (c + 1) 0 0) (by rw [go]; simp [b, c6]) _ (ff _ _ _ _) ?_)))
          refine ⟨by simp [mm_Ir, nI_0], by simpa [mm_Ir] using R2, by simpa [mm_Ir] using R3, fun q => absurd rfl q, fun q => by omega, fun i hi => ?_, fun i hi => ?_, fun i hi => ?_, fun i hi => ?_, fun i hi => ?_⟩
          · rw [rw_n (by omega)]; simpa [mm_Ir] using R6 i (by omega)
          · rw [rw_n (by omega)]; simpa [mm_Ir] using R7 i (by omega)
          · rw [rw_n (by omega)]; simpa [mm_Ir] using R8 i (by omega)
          · rw [rw_n (by omega)]; simpa [mm_Ir] using R9 i (by omega)
          · rw [rw_n (by omega)]
            by_cases e : i = c
            · simp [mm_Ir, e]
            · simpa [mm_Ir, e] using R10 i (by omega)
        · refine (iT (show nI 7 ≤ nI (c + 1) from nI_le (by omega) (by omega))).mpr (i0.mpr (no ?_))
          rw [go]
          simp [c6]
      · refine (jF b).mpr (i0.mpr (no ?_))
        rw [go]
        simp [b]
