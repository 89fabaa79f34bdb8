/-! fault -/
def rdg (lt : Nat → Int32) : Nat → Nat → ps_T → Nat × ps_T
  | 0, k, S => (k, S)
  | n + 1, k, S => match ps_go S.1 S.2.1 S.2.2.1 S.2.2.2.1 S.2.2.2.2.1 S.2.2.2.2.2 (lt k) with
    | none => (k, S)
    | some S2 => rdg lt n (k + 1) S2
def S0_ : ps_T := (0, 0, 0, 0, 0, fun _ _ => 0)
def PC (S : ps_T) (μ : mm_T) : Prop := Pc_ S.1 S.2.1 S.2.2.1 S.2.2.2.1 S.2.2.2.2.1 S.2.2.2.2.2 μ
def PM (S : ps_T) (μ : mm_T) : Prop := Pm_ S.1 S.2.1 S.2.2.1 S.2.2.2.1 S.2.2.2.2.1 S.2.2.2.2.2 μ
def PK (S : ps_T) : Prop := pok S.1 S.2.1 S.2.2.1 S.2.2.2.1 S.2.2.2.2.1 S.2.2.2.2.2
theorem PK0 : PK S0_ := ⟨by decide, by decide, by decide, ⟨0, by decide, rfl⟩, fun _ => rfl, Or.inl rfl, fun i hi => absurd hi (Nat.not_lt_zero i), ⟨Or.inl rfl, fun q => absurd q (by decide), fun q => absurd q (by decide), fun q => absurd q (by decide), fun q => absurd q (by decide)⟩, by decide⟩
theorem rdg_s {lt : Nat → Int32} {n k : Nat} {S S2 : ps_T} (h : ps_go S.1 S.2.1 S.2.2.1 S.2.2.2.1 S.2.2.2.2.1 S.2.2.2.2.2 (lt k) = some S2) : rdg lt (n + 1) k S = rdg lt n (k + 1) S2 := by
  show (match ps_go S.1 S.2.1 S.2.2.1 S.2.2.2.1 S.2.2.2.2.1 S.2.2.2.2.2 (lt k) with | none => (k, S) | some S2 => rdg lt n (k + 1) S2) = _
  rw [h]
theorem rdg_n {lt : Nat → Int32} {n k : Nat} {S : ps_T} (h : ps_go S.1 S.2.1 S.2.2.1 S.2.2.2.1 S.2.2.2.2.1 S.2.2.2.2.2 (lt k) = none) : rdg lt (n + 1) k S = (k, S) := by
  show (match ps_go S.1 S.2.1 S.2.2.1 S.2.2.2.1 S.2.2.2.2.1 S.2.2.2.2.2 (lt k) with | none => (k, S) | some S2 => rdg lt n (k + 1) S2) = _
  rw [h]
theorem rdg_ok {lt : Nat → Int32} : ∀ n k S, PK S → S.2.2.2.1 ≤ k → PK (rdg lt n k S).2 ∧ (rdg lt n k S).2.2.2.2.1 ≤ k + n ∧ (rdg lt n k S).1 ≤ k + n
  | 0, k, S, h, hf => ⟨h, by show S.2.2.2.1 ≤ k + 0; omega, by show k ≤ k + 0; omega⟩
  | n + 1, k, S, h, hf => by
    cases e : ps_go S.1 S.2.1 S.2.2.1 S.2.2.2.1 S.2.2.2.2.1 S.2.2.2.2.2 (lt k) with
    | none =>
      rw [rdg_n e]
      exact ⟨h, by show S.2.2.2.1 ≤ _; omega, by show k ≤ _; omega⟩
    | some S2 =>
      rw [rdg_s e]
      obtain ⟨c', t', p', f', ng', rows'⟩ := S2
      have := pok_go h e
      have h2 := rdg_ok (lt := lt) n (k + 1) (c', t', p', f', ng', rows') this.1 (show f' ≤ k + 1 by have := this.2; omega)
      exact ⟨h2.1, by have := h2.2.1; omega, by have := h2.2.2; omega⟩
theorem c_read {Po : Int32 → mm_T → Prop} {μ : mm_T} {L : Nat} {lt : Nat → Int32} (hL : L ≤ 110) (h1 : μ.1 1 0 1 = nI L) (hl : ∀ k, k < L → μ.1 2 0 k = lt k) (hP : ∀ m, fmi_ pc_ μ m → PC (rdg lt L 0 S0_).2 m → Po (nI (rdg lt L 0 S0_).1) m) : pX8_read Po μ := by
  unfold pX8_read
  intro m1 e1 m2 e2
  have F2 : fmi_ pc_ μ m2 := by rw [e2, e1]; exact (fmi_.rf.I (Or.inl rfl)).I (Or.inl rfl)
  have g1 : m2.1 3 0 1 = nI 0 := by rw [e2, e1]; simp [mm_Ir, nI_0]
  have g2 : m2.1 3 0 2 = nI 0 := by rw [e2, e1]; simp [mm_Ir, nI_0]
  refine c_begin (p2 := 0) g1 (by omega) (by omega) ?_
  have P0 : PC S0_ (mm_I (mm_I (mm_I m2 3 0 3 (nI 0)) 3 0 4 0) 5 0 0 0) := by
    have h := Pc_beg (c := 0) (t := 0) (p2 := 0) (ng := 0) (r2 := fun _ _ => 0) g1 g2 (by omega) (fun i j hij => by omega)
    obtain ⟨a1, a2, a3, a4, a5, a6⟩ := h
    refine ⟨a1, a2, a3, a4, a5, fun i j hij => ?_⟩
    rw [a6 i j hij]
    unfold rw_
    split <;> rfl
  refine lp_up L (fun j x => ∃ S, x.2 = nI j ∧ fmi_ pc_ μ x.1 ∧ PC S x.1 ∧ PK S ∧ S.2.2.2.1 ≤ j ∧ rdg lt (L - j) j S = rdg lt L 0 S0_) ?_ 0 (by omega) _ ?_
  rotate_left
  · exact ⟨S0_, rfl, beg_f F2, P0, PK0, by show 0 ≤ 0; omega, rfl⟩
  rintro j ⟨w, x⟩ hj ⟨S, i1', i2, i3, i4, i5, i6⟩ K hK
  have i1' : x = nI j := i1'
  subst i1'
  unfold pX8_read_l17
  have w1 : w.1 1 0 1 = nI L := (i2.1 1 0 1 (by unfold pc_; omega)).trans h1
  show ((w.1 1 0 1) ≤ nI j → _) ∧ _
  rw [w1]
  rcases Nat.eq_or_lt_of_le hj with e | hlt
  · refine (iT (show nI L ≤ nI j by rw [e]; exact Int32.le_refl _)).mpr ?_
    show Po (w.1 1 0 1) w
    rw [w1]
    have i6 : (j, S) = rdg lt L 0 S0_ := by rw [← i6, e, Nat.sub_self]; rfl
    rw [← i6] at hP
    rw [← e]
    exact hP w i2 i3
  · refine (iF (nI_ge hlt (by omega))).mpr ⟨vp_in_nI (by omega) (by omega), ?_⟩
    have w2 : w.1 2 0 (nI j).toNatClampNeg = lt j := by rw [nI_clamp (by omega), i2.1 2 0 j (by unfold pc_; omega), hl j hlt]
    show pX8_takes _ w (w.1 2 0 (nI j).toNatClampNeg)
    rw [w2]
    obtain ⟨n, hn⟩ : ∃ n, L - j = n + 1 := ⟨L - j - 1, by omega⟩
    rw [hn] at i6
    refine c_takes i4 (by omega) i3 ?_ ?_
    · intro c' t' p' f' ng' rows' g m Fm Pm
      have po := pok_go i4 g
      refine (jF (by decide)).mpr (hK hlt _ ⟨(c', t', p', f', ng', rows'), nI_1 j, i2.tr Fm, Pm, po.1, show f' ≤ j + 1 by have := po.2; omega, ?_⟩)
      rw [show L - (j + 1) = n by omega, ← i6, rdg_s g]
    · intro g
      rw [rdg_n g] at i6
      rw [← i6] at hP
      exact (jT rfl).mpr (hP w i2 i3)
theorem m_read {Po : Int32 → mm_T → Prop} {μ : mm_T} {L : Nat} {lt : Nat → Int32} (hL : L ≤ 110) (h1 : μ.1 26 0 0 = nI L) (hl : ∀ k, k < L → μ.1 27 0 k = lt k) (hP : ∀ m, fmi_ pm_ μ m → PM (rdg lt L 0 S0_).2 m → Po (nI (rdg lt L 0 S0_).1) m) : pX11_read Po μ := by
  unfold pX11_read
  intro m1 e1 m2 e2 m3 e3 m4 e4
  have p26 : ∀ c, 31 ≤ c → c ≤ 35 → pm_ 26 c := fun c a b => Or.inl ⟨rfl, a, b⟩
  have F4 : fmi_ pm_ μ m4 := by rw [e4, e3, e2, e1]; exact (((fmi_.rf.I (p26 31 (by omega) (by omega))).I (p26 33 (by omega) (by omega))).I (p26 34 (by omega) (by omega))).I (p26 32 (by omega) (by omega))
  have P0 : PM S0_ m4 := by
    subst e4; subst e3; subst e2; subst e1
    refine ⟨by simp [mm_Ir, nI_0, S0_], by simp [mm_Ir, nI_0, S0_], by simp [mm_Ir, nI_0, S0_], fun q => absurd rfl q, fun q => absurd q (by decide), fun i hi => ?_, fun i hi => ?_, fun i hi => ?_, fun i hi => ?_, fun i hi => ?_⟩
    · have hi : i < 0 ∨ (i = 0 ∧ 0 < 0) := hi
      omega
    · have hi : i < 0 ∨ (i = 0 ∧ 1 < 0) := hi
      omega
    · have hi : i < 0 ∨ (i = 0 ∧ 2 < 0) := hi
      omega
    · have hi : i < 0 ∨ (i = 0 ∧ 3 < 0) := hi
      omega
    · have hi : i < 0 := hi
      omega
  refine lp_up L (fun j x => ∃ S, x.2 = nI j ∧ fmi_ pm_ μ x.1 ∧ PM S x.1 ∧ PK S ∧ S.2.2.2.1 ≤ j ∧ rdg lt (L - j) j S = rdg lt L 0 S0_) ?_ 0 (by omega) _ ?_
  rotate_left
  · exact ⟨S0_, rfl, F4, P0, PK0, by show 0 ≤ 0; omega, rfl⟩
  rintro j ⟨w, x⟩ hj ⟨S, i1', i2, i3, i4, i5, i6⟩ K hK
  have i1' : x = nI j := i1'
  subst i1'
  unfold pX11_read_l22
  have w1 : w.1 26 0 0 = nI L := (i2.1 26 0 0 (by unfold pm_; omega)).trans h1
  show ((w.1 26 0 0) ≤ nI j → _) ∧ _
  rw [w1]
  rcases Nat.eq_or_lt_of_le hj with e | hlt
  · refine (iT (show nI L ≤ nI j by rw [e]; exact Int32.le_refl _)).mpr ?_
    have i6 : (j, S) = rdg lt L 0 S0_ := by rw [← i6, e, Nat.sub_self]; rfl
    rw [← i6] at hP
    exact hP w i2 i3
  · refine (iF (nI_ge hlt (by omega))).mpr ⟨vp_in_nI (by omega) (by omega), ?_⟩
    have w2 : w.1 27 0 (nI j).toNatClampNeg = lt j := by rw [nI_clamp (by omega), i2.1 27 0 j (by unfold pm_; omega), hl j hlt]
    show pX11_takes _ w (w.1 27 0 (nI j).toNatClampNeg)
    rw [w2]
    obtain ⟨n, hn⟩ : ∃ n, L - j = n + 1 := ⟨L - j - 1, by omega⟩
    rw [hn] at i6
    refine m_takes i4 (by omega) i3 ?_ ?_
    · intro c' t' p' f' ng' rows' g m Fm Pm
      have po := pok_go i4 g
      refine (iF (by decide)).mpr (hK hlt _ ⟨(c', t', p', f', ng', rows'), nI_1 j, i2.tr Fm, Pm, po.1, show f' ≤ j + 1 by have := po.2; omega, ?_⟩)
      rw [show L - (j + 1) = n by omega, ← i6, rdg_s g]
    · intro g m Fm Pm
      rw [rdg_n g] at i6
      rw [← i6] at hP
      exact (iT rfl).mpr (hP m (i2.tr Fm) Pm)
theorem pc_sE {μ m : mm_T} (h : fmi_ pc_ μ m) : sE μ m := ⟨fun a b c q => h.1 a b c (fun p => q (by unfold pc_ at p; unfold scr_; omega)), fun a b c _ => by rw [h.2]⟩
theorem pm_sE {μ m : mm_T} (h : fmi_ pm_ μ m) : sE μ m := ⟨fun a b c q => h.1 a b c (fun p => q (by unfold pm_ at p; unfold scr_; omega)), fun a b c _ => by rw [h.2]⟩
theorem st_fault (k : Nat) (μ : mm_T) (h : Inv_ k μ) : so_fault (Inv_ k) μ := by
  obtain ⟨L, l1, l2, l3, l4⟩ := h.1
  unfold so_fault pX10_fault pX11_fault
  refine c_read (lt := fun k => μ.1 2 0 k) l1 l2 (fun _ _ => rfl) ?_
  intro m Fm _
  refine m_read (lt := fun k => μ.1 2 0 k) l1 ((Fm.1 26 0 0 (by unfold pc_; omega)).trans l3) (fun k hk => (Fm.1 27 0 k (by unfold pc_; omega)).trans (l4 k hk)) ?_
  intro w Fw _
  exact ⟨rfl, inv_sE ((pc_sE Fm).tr (pm_sE Fw)) h⟩
