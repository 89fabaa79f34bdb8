theorem Pc_beg {c t p2 : Nat} {ng : Int32} {r2 : Nat → Nat → Int32} {w : mm_T} (h1 : w.1 3 0 1 = nI c) (h2 : w.1 3 0 2 = nI t) (h3 : p2 = 3 → w.1 3 0 5 = ng) (h4 : ∀ i j, (i < c ∧ j < 5) ∨ (i = c ∧ j < p2) → w.1 5 i j = r2 i j) : Pc_ c t p2 0 ng (rw_ r2 c p2 0) (mm_I (mm_I (mm_I w 3 0 3 (nI p2)) 3 0 4 0) 5 c p2 0) := by
  refine ⟨by simpa [mm_Ir] using h1, by simpa [mm_Ir] using h2, by simp [mm_Ir], by simp [mm_Ir, nI_0], fun q => by simpa [mm_Ir] using h3 q, fun i j hij => ?_⟩
  rw [mm_Ir]
  unfold rw_
  by_cases e : i = c ∧ j = p2
  · rw [if_pos ⟨rfl, e⟩, if_pos e]
  · rw [if_neg (fun q => e q.2), if_neg e]
    simp only [mm_Ir]
    simp
    exact h4 i j (by omega)
theorem c_begin {Po : mm_T → Prop} {w : mm_T} {c p2 : Nat} (h1 : w.1 3 0 1 = nI c) (hc : c < 7) (hp : p2 < 5) (h : Po (mm_I (mm_I (mm_I w 3 0 3 (nI p2)) 3 0 4 0) 5 c p2 0)) : pX8_begin Po w (nI p2) := by
  unfold pX8_begin
  intro m1 e1 m2 e2
  have e3 : m2.1 3 0 1 = nI c := by subst e2; subst e1; simpa [mm_Ir] using h1
  rw [e3]
  refine ⟨vp_in_nI hc (by omega), vp_in_nI hp (by omega), ?_⟩
  intro m5 e5
  rw [nI_clamp (by omega), nI_clamp (by omega)] at e5
  subst e5; subst e2; subst e1
  exact h
theorem beg_f {w : mm_T} {p2 c : Nat} {μ : mm_T} (h : fmi_ pc_ μ w) : fmi_ pc_ μ (mm_I (mm_I (mm_I w 3 0 3 (nI p2)) 3 0 4 0) 5 c p2 0) := ((h.I (Or.inl rfl)).I (Or.inl rfl)).I (Or.inr rfl)
theorem c_takes {Po : Int32 → mm_T → Prop} {μ : mm_T} {c t p f : Nat} {ng l : Int32} {rows : Nat → Nat → Int32} (ok : pok c t p f ng rows) (hf : f < 1000) (R : Pc_ c t p f ng rows μ) (hs : ∀ c' t' p' f' ng' rows', ps_go c t p f ng rows l = some (c', t', p', f', ng', rows') → ∀ m, fmi_ pc_ μ m → Pc_ c' t' p' f' ng' rows' m → Po 1 m) (hn : ps_go c t p f ng rows l = none → Po 0 μ) : pX8_takes Po μ l := by
  obtain ⟨h1, h2, h3, ⟨v, v1, v2⟩, h4, h5, h6, h7, h8⟩ := ok
  obtain ⟨R1, R2, R3, R4, R5, R6⟩ := R
  have vc : vp_in (nI c) 7 := vp_in_nI (by omega) (by omega)
  have cc := nI_clamp (show c < 2 ^ 31 by omega)
  unfold pX8_takes
  rw [R3]
  by_cases p0 : p = 0
  · subst p0
    refine (jT rfl).mpr ?_
    unfold pX8_takesKind pX8_takesKind_b39 pX8_takesKind_b47
    by_cases b : l = 116
    · subst b
      refine (jT rfl).mpr ?_
      rw [R2]
      by_cases ht : t < 4
      · refine (iF (show ¬ nI 4 ≤ nI t from nI_ge ht (by omega))).mpr ?_
        intro m3 e3
        have g1 : m3.1 3 0 1 = nI c := by rw [e3, mm_Ir]; simpa using R1
        rw [g1, cc]
        refine ⟨vc, vp_in_nI (n := 0) (by omega) (by omega), ?_⟩
        intro m6 e6
        have e6 : m6 = mm_I m3 5 c 0 1 := e6
        refine c_begin (p2 := 1) (c := c) (by rw [e6, mm_Ir]; simpa using g1) (by omega) (by omega) ⟨Or.inr rfl, hs c (t + 1) 1 0 ng (rw_ (rw_ rows c 0 1) c 1 0) (by simp [ps_go, ht]) _ (beg_f ?_) (Pc_beg ?_ ?_ (by omega) ?_)⟩
        · rw [e6, e3]
          exact (fmi_.rf.I (Or.inl rfl)).I (Or.inr rfl)
        · rw [e6, mm_Ir]; simpa using g1
        · rw [e6, e3]; simp [mm_Ir, nI_1]
        · intro i j hij
          rw [e6, mm_Ir]
          unfold rw_
          by_cases e : i = c ∧ j = 0
          · rw [if_pos ⟨rfl, e⟩, if_pos e]
          · rw [if_neg (fun q => e q.2), if_neg e, e3, mm_Ir, if_neg (by omega)]
            exact R6 i j (by omega)
      · refine (iT (show nI 4 ≤ nI t from nI_le (by omega) (by omega))).mpr ((iF (by decide)).mpr ⟨Or.inl rfl, hn ?_⟩)
        simp [ps_go, ht]
    · refine (jF b).mpr ?_
      by_cases b2 : l = 97
      · refine (iT b2).mpr (c_begin (p2 := 1) R1 (by omega) (by omega) ⟨Or.inr rfl, hs c t 1 0 ng (rw_ rows c 1 0) (by simp [ps_go, b2]) _ (beg_f fmi_.rf) (Pc_beg R1 R2 (by omega) (fun i j hij => R6 i j (by omega)))⟩)
      · exact (iF b2).mpr ⟨Or.inl rfl, hn (by simp [ps_go, b, b2])⟩
  have np0 : ¬ nI p = 0 := nI_ne0 (by omega) (by omega)
  refine (jF np0).mpr ?_
  have vp : vp_in (nI p) 5 := vp_in_nI (by omega) (by omega)
  have cp := nI_clamp (show p < 2 ^ 31 by omega)
  by_cases bf : 48 ≤ l ∧ l ≤ 57
  · refine (iF (Int32.not_lt.mpr bf.1)).mpr ((iF (Int32.not_lt.mpr bf.2)).mpr ?_)
    obtain ⟨d, d1, d2⟩ := fig_ bf
    obtain ⟨G1, G2, G3⟩ := mG_n p0 h3
    have hv : μ.1 5 c p = nI v := (R6 c p (by omega)).trans v2
    have e10 : 10 * nI v + nI d = nI (10 * v + d) := by rw [show (10 : Int32) = nI 10 from rfl, pk_mul, nI_add]
    unfold pX8_takesFigure
    rw [R1, R3, R4, cc, cp, hv]
    refine ⟨vc, vp, ?_⟩
    intro x3 e3
    subst e3
    have key : ¬ (0 < f ∧ rows c p = 0) → pX8_takesFigure_b30 (fun r6 μ5 => (r6 = 0 ∨ r6 = 1) ∧ Po r6 μ5) μ (l - 48) (nI v) := by
      intro nz
      unfold pX8_takesFigure_b30 pX8_takesFigure_b31
      intro x4 e4
      rw [d2, e10] at e4
      subst e4
      rw [R1, R3, cc, cp]
      refine (jT rfl).mpr ⟨vp, ?_⟩
      by_cases b : 10 * v + d ≤ gr_ p
      · refine (iT (by rw [G1]; exact nI_le b (by omega))).mpr ⟨vc, vp, ?_⟩
        intro m9 e9 m10 e10'
        have g : ps_go c t p f ng rows l = some (c, t, p, f + 1, ng, rw_ rows c p (nI (10 * v + d))) := by
          unfold ps_go
          rw [if_neg p0, if_pos bf, v2, d2, e10, if_neg]
          rintro (q | q)
          · exact nz (by rw [v2]; exact q)
          · rw [G1] at q
            exact nI_nlt b (by omega) q
        refine ⟨Or.inr rfl, hs _ _ _ _ _ _ g m10 ?_ ?_⟩
        · rw [e10', e9]
          exact (fmi_.rf.I (Or.inr rfl)).I (Or.inl rfl)
        · subst e10'; subst e9
          refine ⟨by simpa [mm_Ir] using R1, by simpa [mm_Ir] using R2, by simpa [mm_Ir] using R3, by simp [mm_Ir, R4, nI_1], fun q => by simpa [mm_Ir] using R5 q, fun i j hij => ?_⟩
          rw [mm_Ir, if_neg (by omega), mm_Ir]
          unfold rw_
          by_cases e : i = c ∧ j = p
          · rw [if_pos ⟨rfl, e⟩, if_pos e]
          · rw [if_neg (fun q => e q.2), if_neg e]
            exact R6 i j hij
      · refine (iF (by rw [G1]; exact nI_ge (by omega) (by omega))).mpr ⟨Or.inl rfl, hn ?_⟩
        unfold ps_go
        rw [if_neg p0, if_pos bf, v2, d2, e10, if_pos]
        refine Or.inr ?_
        rw [G1]
        exact nI_lt (by omega) (by omega)
    by_cases f0 : f = 0
    · refine (iT (by rw [f0]; decide)).mpr (key (by omega))
    · refine (iF (nI_nle (by omega) (by omega))).mpr ?_
      by_cases z : rows c p = 0
      · have zv : nI v = 0 := v2.symm.trans z
        refine (jT zv).mpr ?_
        unfold pX8_takesFigure_b31
        intro x4 e4
        refine (jF (by decide)).mpr ⟨Or.inl rfl, hn ?_⟩
        unfold ps_go
        rw [if_neg p0, if_pos bf, if_pos (Or.inl ⟨by omega, z⟩)]
      · have zv : ¬ nI v = 0 := fun q => z (v2.trans q)
        exact (jF zv).mpr (key (fun q => z q.2))
  · have base : pX8_takes_b34 Po μ l := by
      unfold pX8_takes_b34
      rw [R4]
      by_cases f0 : f = 0
      · refine (iT (by rw [f0]; decide)).mpr (hn ?_)
        unfold ps_go
        rw [if_neg p0, if_neg bf, if_pos f0]
      refine (iF (nI_nle (by omega) (by omega))).mpr ?_
      have go : ps_go c t p f ng rows l = if p = 1 then (if l = 44 then some (c, t, 2, 0, ng, rw_ rows c 2 0) else none) else if p = 2 then (if l = 43 ∨ l = 45 then some (c, t, 3, 0, (if l = 45 then 1 else 0), rw_ rows c 3 0) else none) else if p = 3 then (if l = 64 then some (c, t, 4, 0, ng, rw_ (if ng = 0 then rows else rw_ rows c 3 (-(rows c 3))) c 4 0) else none) else (if l = 59 ∧ c < 6 then some (c + 1, t, 0, 0, ng, rw_ rows (c + 1) 0 0) else none) := by
        unfold ps_go
        rw [if_neg p0, if_neg bf, if_neg f0]
      unfold pX8_takesMark pX8_takesMark_b21 pX8_takesMark_b63 pX8_takesMark_b114
      rw [R3]
      rcases (show p = 1 ∨ p = 2 ∨ p = 3 ∨ p = 4 by omega) with rfl | rfl | rfl | rfl
      · refine (jT (show nI 1 = 1 from rfl)).mpr ?_
        by_cases b : l = 44
        · refine (jT b).mpr (c_begin (p2 := 2) R1 (by omega) (by omega) (i1.mpr (hs c t 2 0 ng (rw_ rows c 2 0) (by rw [go]; simp [b]) _ (beg_f fmi_.rf) (Pc_beg R1 R2 (by omega) (fun i j hij => R6 i j (by omega))))))
        · refine (jF b).mpr ((jF (show ¬ nI 1 = 2 by decide)).mpr ((jF (show ¬ nI 1 = 3 by decide)).mpr ((jF (show ¬ nI 1 = 4 by decide)).mpr (i0.mpr (hn ?_)))))
          rw [go]
          simp [b]
      · refine (jF (show ¬ nI 2 = 1 by decide)).mpr ((jT (show nI 2 = 2 from rfl)).mpr ?_)
        have sg : (l = 43 ∨ l = 45) → pX8_takesMark_b41 (fun r2 μ1 => (r2 = 0 → Po 0 μ1) ∧ (¬ (r2 = 0) → Po 1 μ1)) μ l := by
          intro b
          unfold pX8_takesMark_b41 pX8_takesMark_b53
          have fin : ∀ x : Int32, x = (if l = 45 then 1 else 0) → ∀ μ18 : mm_T, μ18 = mm_I μ 3 0 5 x → pX8_begin (fun μ19 => ((1 : Int32) = 0 → Po 0 μ19) ∧ (¬ ((1 : Int32) = 0) → Po 1 μ19)) μ18 3 := by
            intro x ex w ew
            have w1 : w.1 3 0 1 = nI c := by rw [ew, mm_Ir]; simpa using R1
            refine c_begin (p2 := 3) w1 (by omega) (by omega) (i1.mpr (hs c t 3 0 (if l = 45 then 1 else 0) (rw_ rows c 3 0) (by rw [go]; simp [b]) _ (beg_f (by rw [ew]; exact fmi_.rf.I (Or.inl rfl))) (Pc_beg w1 (by rw [ew, mm_Ir]; simpa using R2) (fun _ => by rw [ew, mm_Ir, ex]; simp) (fun i j hij => ?_))))
            rw [ew, mm_Ir, if_neg (by omega)]
            exact R6 i j (by omega)
          by_cases q : l = 45
          · exact (jT q).mpr ⟨Or.inr rfl, fin 1 (by rw [if_pos q])⟩
          · exact (jF q).mpr ⟨Or.inl rfl, fin 0 (by rw [if_neg q])⟩
        by_cases b1 : l = 43
        · exact (iT b1).mpr (sg (Or.inl b1))
        refine (iF b1).mpr ?_
        by_cases b2 : l = 45
        · exact (jT b2).mpr (sg (Or.inr b2))
        · refine (jF b2).mpr ((jF (show ¬ nI 2 = 3 by decide)).mpr ((jF (show ¬ nI 2 = 4 by decide)).mpr (i0.mpr (hn ?_))))
          rw [go]
          simp [b1, b2]
      · refine (jF (show ¬ nI 3 = 1 by decide)).mpr ((jF (show ¬ nI 3 = 2 by decide)).mpr ((jT (show nI 3 = 3 from rfl)).mpr ?_))
        by_cases b : l = 64
        · refine (jT b).mpr ?_
          rw [R5 rfl]
          unfold pX8_takesMark_b107
          by_cases q : ng = 0
          · refine (iT q).mpr (c_begin (p2 := 4) R1 (by omega) (by omega) (i1.mpr (hs c t 4 0 ng (rw_ rows c 4 0) (by rw [go]; simp [b, q]) _ (beg_f fmi_.rf) (Pc_beg R1 R2 (by omega) (fun i j hij => R6 i j (by omega))))))
          · rw [R1, cc]
            refine (iF q).mpr ⟨vc, vc, vp_in_nI (n := 3) (by omega) (by omega), vp_in_nI (n := 3) (by omega) (by omega), ?_⟩
            intro w ew
            have ew : w = mm_I μ 5 c 3 (-(μ.1 5 c 3)) := ew
            have w1 : w.1 3 0 1 = nI c := by rw [ew, mm_Ir]; simpa using R1
            refine c_begin (p2 := 4) w1 (by omega) (by omega) (i1.mpr (hs c t 4 0 ng (rw_ (rw_ rows c 3 (-(rows c 3))) c 4 0) (by rw [go]; simp [b, q]) _ (beg_f (by rw [ew]; exact fmi_.rf.I (Or.inr rfl))) (Pc_beg (r2 := rw_ rows c 3 (-(rows c 3))) w1 (by rw [ew, mm_Ir]; simpa using R2) (by omega) (fun i j hij => ?_))))
            rw [ew, mm_Ir]
            unfold rw_
            by_cases e : i = c ∧ j = 3
            · rw [if_pos ⟨rfl, e⟩, if_pos e, R6 c 3 (by omega)]
            · rw [if_neg (fun q => e q.2), if_neg e]
              exact R6 i j (by omega)
        · refine (jF b).mpr ((jF (show ¬ nI 3 = 4 by decide)).mpr (i0.mpr (hn ?_)))
          rw [go]
          simp [b]
      · refine (jF (show ¬ nI 4 = 1 by decide)).mpr ((jF (show ¬ nI 4 = 2 by decide)).mpr ((jF (show ¬ nI 4 = 3 by decide)).mpr ((jT (show nI 4 = 4 from rfl)).mpr ?_)))
        by_cases b : l = 59
        · refine (jT b).mpr ?_
          unfold pX8_nodeCount
          rw [R1, nI_1]
          by_cases c6 : c < 6
          · refine (iF (show ¬ nI 7 ≤ nI (c + 1) from nI_ge (by omega) (by omega))).mpr ?_
            intro w ew
            have w1 : w.1 3 0 1 = nI (c + 1) := by rw [ew, mm_Ir]; simp [R1, nI_1]
            refine c_begin (p2 := 0) w1 (by omega) (by omega) (i1.mpr (hs (c + 1) t 0 0 ng (rw_ rows (c + 1) 0 0) (by rw [go]; simp [b, c6]) _ (beg_f (by rw [ew]; exact fmi_.rf.I (Or.inl rfl))) (Pc_beg w1 (by rw [ew, mm_Ir]; simpa using R2) (by omega) (fun i j hij => ?_))))
            rw [ew, mm_Ir, if_neg (by omega)]
            exact R6 i j (by omega)
          · refine (iT (show nI 7 ≤ nI (c + 1) from nI_le (by omega) (by omega))).mpr (i0.mpr (hn ?_))
            rw [go]
            simp [c6]
        · refine (jF b).mpr (i0.mpr (hn ?_))
          rw [go]
          simp [b]
    by_cases b1 : l < 48
    · exact (iT b1).mpr base
    · refine (iF b1).mpr ?_
      by_cases b2 : 57 < l
      · exact (iT b2).mpr base
      · exact absurd ⟨Int32.not_lt.mp b1, Int32.not_lt.mp b2⟩ bf
