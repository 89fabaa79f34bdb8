/-! field: what is laid, by the class, by the model. -/
def k9 (a _c : Nat) : Prop := a = 9
def k97 (a c : Nat) : Prop := a = 9 ∧ c = 7
def kl_ (a _c : Nat) : Prop := a = 12 ∨ a = 13 ∨ a = 14
def tk_ (a _c : Nat) : Prop := a = 6 ∨ a = 9 ∨ a = 10 ∨ a = 12 ∨ a = 13 ∨ a = 14 ∨ a = 15 ∨ a = 18
def ns_ (rows : Nat → Nat → Int32) (m : mm_T) (i : Nat) : Prop := m.1 9 i 0 = rows i 0 ∧ m.1 9 i 1 = rows i 1 ∧ m.1 9 i 2 = rows i 2 ∧ m.1 9 i 3 = rows i 3 ∧ m.1 9 i 4 = rows i 4 ∧ m.1 9 i 5 = 100 ∧ m.1 9 i 6 = (if rows i 0 = 0 then -1 else 0)
def ls0 (m : mm_T) (q : Nat) : Prop := m.1 12 q 2 = 1 ∧ m.1 13 q 0 = 0 ∧ m.1 14 q 0 = 9 ∧ m.1 12 q 3 = 0 ∧ m.1 12 q 4 = -1
def nb_ (μ : mm_T) (i : Nat) (r : Nat → Int32) (x : Int32) : mm_T := mm_I (mm_I (mm_I (mm_I (mm_I (mm_I (mm_I μ 9 i 0 (r 0)) 9 i 1 (r 1)) 9 i 2 (r 2)) 9 i 3 (r 3)) 9 i 4 (r 4)) 9 i 5 100) 9 i 6 x
theorem c_nbeg {Po : mm_T → Prop} {μ : mm_T} {i : Nat} {r : Nat → Int32} (hi : i < 7) (hr : ∀ j, j < 5 → μ.1 5 i j = r j) (h0 : r 0 = 0 ∨ r 0 = 1) (hP : Po (nb_ μ i r (if r 0 = 0 then -1 else 0))) : pX5_begin Po μ i i := by
  have c0 : (0 : Int32).toNatClampNeg = 0 := rfl
  have v0 : vp_in (0 : Int32) 5 := vp_in_nI (n := 0) (by omega) (by omega)
  have v1 : vp_in (1 : Int32) 5 := vp_in_nI (n := 1) (by omega) (by omega)
  have v2 : vp_in (2 : Int32) 5 := vp_in_nI (n := 2) (by omega) (by omega)
  have v3 : vp_in (3 : Int32) 5 := vp_in_nI (n := 3) (by omega) (by omega)
  have v4 : vp_in (4 : Int32) 5 := vp_in_nI (n := 4) (by omega) (by omega)
  have go : ∀ x, x = r 0 → pX5_begin_b13 Po μ i i x i := by
    intro x ex
    subst ex
    unfold pX5_begin_b13
    simp only [cn1, cn2, cn3, cn4]
    refine ⟨hi, h0, ?_⟩
    intro m4 e4
    refine ⟨hi, v1, hi, ?_⟩
    intro m8 e8
    refine ⟨v2, ?_⟩
    intro m10 e10
    refine ⟨v3, ?_⟩
    intro m12 e12
    refine ⟨v4, ?_⟩
    intro m14 e14 m15 e15
    have g4 : m4.1 5 i 1 = r 1 := by rw [e4, mm_Ir]; simpa using hr 1 (by omega)
    rw [g4] at e8
    have g8 : m8.1 5 i 2 = r 2 := by rw [e8, e4]; simpa [mm_Ir] using hr 2 (by omega)
    rw [g8] at e10
    have g10 : m10.1 5 i 3 = r 3 := by rw [e10, e8, e4]; simpa [mm_Ir] using hr 3 (by omega)
    rw [g10] at e12
    have g12 : m12.1 5 i 4 = r 4 := by rw [e12, e10, e8, e4]; simpa [mm_Ir] using hr 4 (by omega)
    rw [g12] at e14
    have g15 : m15.1 9 i 0 = r 0 := by rw [e15, e14, e12, e10, e8, e4]; simp [mm_Ir]
    rw [g15]
    have fin : ∀ x, mm_I m15 9 i 6 x = nb_ μ i r x := by
      intro x
      unfold nb_
      rw [e15, e14, e12, e10, e8, e4]
    by_cases q : r 0 = 0
    · refine (iT q).mpr ?_
      intro m16 e16
      rw [if_pos q] at hP
      rw [e16, fin]
      exact hP
    · refine (iF q).mpr ?_
      intro m17 e17
      rw [if_neg q] at hP
      rw [e17, fin]
      exact hP
  unfold pX5_begin
  rw [c0, hr 0 (by omega)]
  refine ⟨hi, hi, v0, ?_⟩
  rcases h0 with q | q
  · exact (jF (by rw [q]; decide)).mpr (go 0 q.symm)
  · exact (jT q).mpr (go 1 q.symm)
/-- the class's field, laid -/
def Tk_ (N : Nat) (rows : Nat → Nat → Int32) (m : mm_T) : Prop := m.1 6 0 1 = nI N ∧ (∀ i, i < N → ns_ rows m i ∧ m.1 9 i 7 = (if rows i 0 = 0 then -1 else nI (f0_ m N))) ∧ (∀ q, q < 49 → ls0 m q) ∧ m.2 6 0 2 = 0 ∧ m.1 6 0 3 = 4 ∧ m.1 6 0 4 = 400 ∧ m.1 15 0 0 = 0 ∧ (∀ s, s < 16 → m.1 18 0 s = -1) ∧ ∀ i, i < 7 → m.1 10 i 0 = 0
theorem af_c {μ m : mm_T} (h : ∀ i, m.1 9 i 0 = μ.1 9 i 0) : ∀ n i, af_ m n i = af_ μ n i := by
  intro n
  induction n with
  | zero => intro i; rfl
  | succ n ih => intro i; simp only [af_, ih, h]
theorem f0_c {μ m : mm_T} {N : Nat} (h : ∀ i, m.1 9 i 0 = μ.1 9 i 0) : f0_ m N = f0_ μ N := by
  unfold f0_
  rw [af_c h]
theorem c_take {Po : mm_T → Prop} {μ : mm_T} {c : Nat} {rows : Nat → Nat → Int32} (hc : c ≤ 6) (h1 : μ.1 3 0 1 = nI c) (hr : ∀ i j, i ≤ c → j < 5 → μ.1 5 i j = rows i j) (h01 : ∀ i, i ≤ c → rows i 0 = 0 ∨ rows i 0 = 1) (hx : ∃ i, i ≤ c ∧ rows i 0 = 0) (hy : ∃ i, i ≤ c ∧ rows i 0 = 1) (hP : ∀ m, fm_ tk_ μ m → Tk_ (c + 1) rows m → Po m) : pX0_takeOver Po μ := by
  unfold pX0_takeOver pX8_nodeCount
  intro m3 e3
  rw [h1, nI_1] at e3
  have F3 : fm_ tk_ μ m3 := by rw [e3]; exact fm_.rf.I (Or.inl rfl)
  have s3 : m3.1 6 0 1 = nI (c + 1) := by rw [e3, mm_Ir]; simp
  have r3 : ∀ i j, i ≤ c → j < 5 → m3.1 5 i j = rows i j := fun i j hi hj => by rw [e3, mm_Ir, if_neg (by omega)]; exact hr i j hi hj
  /- nodes -/
  refine lp_up (c + 1) (fun j x => x.2 = nI j ∧ fm_ k9 m3 x.1 ∧ ∀ i, i < j → ns_ rows x.1 i) ?_ 0 (by omega) _ ?_
  rotate_left
  · exact ⟨rfl, fm_.rf, fun i hi => absurd hi (Nat.not_lt_zero i)⟩
  rintro j ⟨w, x⟩ hj ⟨i1', F, A⟩ K hK
  have i1' : x = nI j := i1'
  subst i1'
  unfold pX0_takeOver_l10
  have w1 : w.1 6 0 1 = nI (c + 1) := (F.1 6 0 1 (by unfold k9; omega)).trans s3
  show ((w.1 6 0 1) ≤ nI j → _) ∧ _
  rw [w1]
  rcases Nat.eq_or_lt_of_le hj with e | hlt
  rotate_left
  · refine (iF (nI_ge hlt (by omega))).mpr ⟨vp_in_nI (by omega) (by omega), vp_in_nI (by omega) (by omega), ?_⟩
    show pX5_begin _ w (nI j).toNatClampNeg (nI j).toNatClampNeg
    rw [nI_clamp (by omega)]
    refine c_nbeg (r := rows j) (by omega) (fun k hk => (F.1 5 j k (by unfold k9; omega)).trans (r3 j k (by omega) hk)) (h01 j (by omega)) (hK hlt _ ⟨nI_1 j, ?_, fun i hi => ?_⟩)
    · unfold nb_
      exact (((((((F.I rfl).I rfl).I rfl).I rfl).I rfl).I rfl).I rfl)
    · by_cases e : i = j
      · subst e
        unfold ns_ nb_
        simp [mm_Ir]
      · have := A i (by omega)
        unfold ns_ nb_ at *
        simpa [mm_Ir, e] using this
  refine (iT (show nI (c + 1) ≤ nI j by rw [e]; exact Int32.le_refl _)).mpr ?_
  subst e
  clear hK K hj
  have F4 : fm_ tk_ μ w := F3.tr (F.mono (fun a c q => by unfold k9 at q; unfold tk_; omega))
  /- nexts -/
  refine lp_up (c + 1) (fun j x => x.2 = nI j ∧ fm_ k97 w x.1 ∧ ∀ i, i < j → x.1.1 9 i 7 = (if rows i 0 = 0 then -1 else nI (f0_ w (c + 1)))) ?_ 0 (by omega) _ ?_
  rotate_left
  · exact ⟨rfl, fm_.rf, fun i hi => absurd hi (Nat.not_lt_zero i)⟩
  rintro j ⟨u, x⟩ hj ⟨i1', G, B⟩ K hK
  have i1' : x = nI j := i1'
  subst i1'
  unfold pX0_takeOver_l41
  have u1 : u.1 6 0 1 = nI (c + 1) := (G.1 6 0 1 (by unfold k97; omega)).trans w1
  have u9 : ∀ i k, k ≠ 7 → u.1 9 i k = w.1 9 i k := fun i k hk => G.1 9 i k (by unfold k97; omega)
  show ((u.1 6 0 1) ≤ nI j → _) ∧ _
  rw [u1]
  rcases Nat.eq_or_lt_of_le hj with e | hlt
  rotate_left
  · refine (iF (nI_ge hlt (by omega))).mpr ⟨vp_in_nI (by omega) (by omega), vp_in_nI (by omega) (by omega), ?_⟩
    show ((u.1 9 (nI j).toNatClampNeg 0) = 0 → _) ∧ _
    have fin : ∀ v, v = (if rows j 0 = 0 then -1 else nI (f0_ w (c + 1))) → K (mm_I u 9 (nI j).toNatClampNeg 7 v, nI j + 1) := by
      intro v hv
      rw [nI_clamp (by omega)]
      refine hK hlt _ ⟨nI_1 j, G.I ⟨rfl, rfl⟩, fun i hi => ?_⟩
      show (mm_I u 9 j 7 v).1 9 i 7 = _
      rw [mm_Ir]
      by_cases e : i = j
      · rw [if_pos ⟨rfl, e, rfl⟩, hv, e]
      · rw [if_neg (fun q => e q.2.1)]
        exact B i (by omega)
    have e0 : u.1 9 (nI j).toNatClampNeg 0 = rows j 0 := by rw [nI_clamp (by omega), u9 j 0 (by omega)]; exact (A j (by omega)).1
    rw [e0]
    by_cases q : rows j 0 = 0
    · refine (iT q).mpr ?_
      intro m14 e14
      rw [e14]
      exact fin _ (by rw [if_pos q])
    · refine (iF q).mpr ?_
      have h01u : ∀ i, i < c + 1 → is_a u i ∨ is_t u i := by
        intro i hi
        unfold is_a is_t
        rw [u9 i 0 (by omega), (A i hi).1]
        exact h01 i (by omega)
      have tau : iv_ta (c + 1) u := by
        obtain ⟨a, a1, a2⟩ := hx
        obtain ⟨b, b1, b2⟩ := hy
        refine ⟨⟨a, by omega, ?_⟩, b, by omega, ?_⟩
        · unfold is_a; rw [u9 a 0 (by omega), (A a (by omega)).1]; exact a2
        · unfold is_t; rw [u9 b 0 (by omega), (A b (by omega)).1]; exact b2
      refine c_from (i := 0) (N := c + 1) u1 (by omega) h01u (by omega) ?_ ?_
      · intro v hv
        rw [Nat.sub_zero, f0_s tau] at hv
        cases hv
        intro m17 e17
        rw [e17]
        refine fin _ ?_
        rw [if_neg q, f0_c (fun i => u9 i 0 (by omega))]
      · intro hv
        rw [Nat.sub_zero, f0_s tau] at hv
        cases hv
  refine (iT (show nI (c + 1) ≤ nI j by rw [e]; exact Int32.le_refl _)).mpr ?_
  subst e
  clear hK K hj
  have F5 : fm_ tk_ μ u := F4.tr (G.mono (fun a c q => by unfold k97 at q; unfold tk_; omega))
  /- links -/
  refine lp_up 49 (fun j x => x.2 = nI j ∧ fm_ kl_ u x.1 ∧ ∀ q, q < j → ls0 x.1 q) ?_ 0 (by omega) _ ?_
  rotate_left
  · exact ⟨rfl, fm_.rf, fun i hi => absurd hi (Nat.not_lt_zero i)⟩
  rintro j ⟨y, x⟩ hj ⟨i1', H, D⟩ K hK
  have i1' : x = nI j := i1'
  subst i1'
  unfold pX0_takeOver_l87
  rcases Nat.eq_or_lt_of_le hj with e | hlt
  rotate_left
  · refine (iF (show ¬ nI 49 ≤ nI j from nI_ge hlt (by omega))).mpr ⟨vp_in_nI (by omega) (by omega), ?_⟩
    show pX4_begin _ y (nI j).toNatClampNeg
    rw [nI_clamp (by omega)]
    unfold pX4_begin pX4_add
    refine ⟨hlt, ?_⟩
    intro m1 e1
    have g1 : m1.1 12 j 2 = 0 := by rw [e1, mm_Ir]; simp
    rw [g1]
    refine ⟨hlt, (iF (by decide)).mpr ⟨vp_in_nI (n := 0) (by omega) (by omega), ?_⟩⟩
    intro m2 e2
    have g2 : m2.1 12 j 2 = 0 := by rw [e2, mm_Ir]; simpa using g1
    rw [g2]
    refine ⟨vp_in_nI (n := 0) (by omega) (by omega), ?_⟩
    intro m4 e4 m5 e5 m6 e6 m7 e7
    have e2 : m2 = mm_I m1 13 j 0 0 := e2
    have e4 : m4 = mm_I m2 14 j 0 9 := e4
    have g4 : m4.1 12 j 2 = 0 := by rw [e4, mm_Ir]; simpa using g2
    rw [g4, show (0 : Int32) + 1 = 1 from rfl] at e5
    refine hK hlt _ ⟨nI_1 j, ?_, fun q hq => ?_⟩
    · rw [e7, e6, e5, e4, e2, e1]
      exact (((((H.I (Or.inl rfl)).I (Or.inr (Or.inl rfl))).I (Or.inr (Or.inr rfl))).I (Or.inl rfl)).I (Or.inl rfl)).I (Or.inl rfl)
    · show ls0 m7 q
      subst e7; subst e6; subst e5; subst e4; subst e2; subst e1
      by_cases e : q = j
      · subst e
        unfold ls0
        simp [mm_Ir]
      · have := D q (by omega)
        unfold ls0 at *
        simpa [mm_Ir, e] using this
  subst e
  refine (iT (show (49 : Int32) ≤ nI 49 by decide)).mpr ?_
  clear hK K hj
  have F6 : fm_ tk_ μ y := F5.tr (H.mono (fun a c q => by unfold kl_ at q; unfold tk_; omega))
  intro m4 e4 m5 e5 m6 e6
  have F7 : fm_ tk_ μ m6 := by rw [e6, e5, e4]; exact ((F6.L (by unfold tk_; omega)).I (by unfold tk_; omega)).I (by unfold tk_; omega)
  refine c_clear ?_
  intro m7 Gc Cc
  refine r_changeLimit ?_
  intro z z1 z2 z3
  have zE : ∀ a b k, ¬ (a = 10 ∧ k = 0) → ¬ (a = 6 ∧ b = 0 ∧ k = 4) → z.1 a b k = m7.1 a b k := by
    intro a b k q1 q2
    rw [z1 a b k q1, mm_Ir, if_neg q2]
  have z64 : z.1 6 0 4 = 400 := by rw [z1 6 0 4 (by omega), mm_Ir]; simp
  have F8 : fm_ tk_ μ z := by
    have F7' : fm_ tk_ μ m7 := F7.tr (Gc.mono (fun a c q => by unfold d18 at q; unfold tk_; omega))
    refine ⟨fun a b k q => ?_, fun a b k q => ?_⟩
    · rw [zE a b k (fun p => q (by unfold tk_; omega)) (fun p => q (by unfold tk_; omega))]
      exact F7'.1 a b k q
    · rw [z2]
      exact F7'.2 a b k q
  have m6E : ∀ a b k, a ≠ 6 → a ≠ 15 → m6.1 a b k = y.1 a b k := by
    intro a b k q1 q2
    rw [e6, mm_Ir, if_neg (fun p => q2 p.1), e5, mm_Ir, if_neg (fun p => q1 p.1), e4]
    rfl
  have zy : ∀ a b k, a ≠ 6 → a ≠ 15 → a ≠ 10 → a ≠ 18 → z.1 a b k = y.1 a b k := by
    intro a b k q1 q2 q3 q4
    rw [zE a b k (fun p => q3 p.1) (fun p => q1 p.1), Gc.1 a b k q4, m6E a b k q1 q2]
  have z9 : ∀ i k, z.1 9 i k = u.1 9 i k := fun i k => (zy 9 i k (by omega) (by omega) (by omega) (by omega)).trans (H.1 9 i k (by unfold kl_; omega))
  have m6v : m6.1 6 0 1 = nI (c + 1) ∧ m6.1 6 0 3 = 4 ∧ m6.1 15 0 0 = 0 ∧ m6.2 6 0 2 = 0 := by
    subst e6; subst e5; subst e4
    refine ⟨?_, by simp [mm_Ir], by simp [mm_Ir], by simp [mm_I2, mm_Lr]⟩
    simp [mm_Ir, mm_L1]
    exact (H.1 6 0 1 (by unfold kl_; omega)).trans u1
  refine hP z F8 ⟨?_, fun i hi => ⟨?_, ?_⟩, fun q hq => ?_, ?_, ?_, z64, ?_, fun s hs => ?_, z3⟩
  · rw [zE 6 0 1 (by omega) (by omega), Gc.1 6 0 1 (by unfold d18; omega)]
    exact m6v.1
  · have := A i hi
    unfold ns_ at this ⊢
    rw [z9, z9, z9, z9, z9, z9, z9, u9 i 0 (by omega), u9 i 1 (by omega), u9 i 2 (by omega), u9 i 3 (by omega), u9 i 4 (by omega), u9 i 5 (by omega), u9 i 6 (by omega)]
    exact this
  · rw [z9]
    have : u.1 9 i 7 = (if rows i 0 = 0 then -1 else nI (f0_ w (c + 1))) := B i hi
    rw [this, f0_c (m := z) (μ := w) (fun i => by rw [z9, u9 i 0 (by omega)])]
  · have := D q hq
    unfold ls0 at this ⊢
    rw [zy 12 q 2 (by omega) (by omega) (by omega) (by omega), zy 13 q 0 (by omega) (by omega) (by omega) (by omega), zy 14 q 0 (by omega) (by omega) (by omega) (by omega), zy 12 q 3 (by omega) (by omega) (by omega) (by omega), zy 12 q 4 (by omega) (by omega) (by omega) (by omega)]
    exact this
  · rw [z2, Gc.2 6 0 2 (by unfold d18; omega)]
    exact m6v.2.2.2
  · rw [zE 6 0 3 (by omega) (by omega), Gc.1 6 0 3 (by unfold d18; omega)]
    exact m6v.2.1
  · rw [zE 15 0 0 (by omega) (by omega), Gc.1 15 0 0 (by unfold d18; omega)]
    exact m6v.2.2.1
  · rw [zE 18 0 s (by omega) (by omega)]
    exact Cc s hs
