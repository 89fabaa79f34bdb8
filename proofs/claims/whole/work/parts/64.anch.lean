/-! The next anchor, on both sides. -/
def af_ (μ : mm_T) : Nat → Nat → Option Nat
  | 0, _ => none
  | n + 1, i => if μ.1 9 i 0 = 0 then some i else af_ μ n (i + 1)
theorem af_s {μ : mm_T} : ∀ n i v, af_ μ n i = some v → i ≤ v ∧ v < i + n ∧ is_a μ v
  | 0, i, v, h => by cases h
  | n + 1, i, v, h => by
    unfold af_ at h
    by_cases e : μ.1 9 i 0 = 0
    · rw [if_pos e] at h
      cases h
      exact ⟨by omega, by omega, e⟩
    · rw [if_neg e] at h
      have := af_s n (i + 1) v h
      exact ⟨by omega, by omega, this.2.2⟩
theorem af_n {μ : mm_T} : ∀ n i, af_ μ n i = none → ∀ v, i ≤ v → v < i + n → ¬ is_a μ v
  | 0, i, _, v, h1, h2 => by omega
  | n + 1, i, h, v, h1, h2 => by
    unfold af_ at h
    by_cases e : μ.1 9 i 0 = 0
    · rw [if_pos e] at h
      cases h
    · rw [if_neg e] at h
      by_cases ev : v = i
      · rw [ev]; exact e
      · exact af_n n (i + 1) h v (by omega) (by omega)
/-- the first anchor; the one behind a -/
def f0_ (μ : mm_T) (N : Nat) : Nat := (af_ μ N 0).getD 0
def ab_ (μ : mm_T) (N a : Nat) : Nat := (af_ μ (N - (a + 1)) (a + 1)).getD (f0_ μ N)
section AB
variable {Po : Int32 → mm_T → Prop} {μ : mm_T} {N i a : Nat}
theorem f0_s (h : iv_ta N μ) : af_ μ N 0 = some (f0_ μ N) := by
  unfold f0_
  cases e : af_ μ N 0 with
  | none =>
    obtain ⟨⟨a, a1, a2⟩, -⟩ := h
    exact absurd a2 (af_n N 0 e a (by omega) (by omega))
  | some v => rfl
theorem ab_ok (h : iv_ta N μ) (ha : a < N) : ab_ μ N a < N ∧ is_a μ (ab_ μ N a) := by
  unfold ab_
  cases e : af_ μ (N - (a + 1)) (a + 1) with
  | none =>
    have := af_s N 0 _ (f0_s h)
    exact ⟨by simpa using this.2.1, this.2.2⟩
  | some v =>
    have := af_s _ _ _ e
    exact ⟨by show v < N; omega, this.2.2⟩
theorem c_from (hN : μ.1 6 0 1 = nI N) (h7 : N ≤ 7) (hd : ∀ i, i < N → is_a μ i ∨ is_t μ i) (hi : i ≤ N) (h1 : ∀ v, af_ μ (N - i) i = some v → Po (nI v) μ) (h2 : af_ μ (N - i) i = none → Po (-1) μ) : pX0_anchorFrom Po μ (nI i) := by
  unfold pX0_anchorFrom
  refine lp_up N (fun j t => t = (μ, nI j) ∧ af_ μ (N - j) j = af_ μ (N - i) i) ?_ i hi _ ⟨rfl, rfl⟩
  intro j t hj hI K hK
  obtain ⟨rfl, hI⟩ := hI
  unfold pX0_anchorFrom_l2
  rw [hN]
  rcases Nat.eq_or_lt_of_le hj with e | hlt
  · refine (iT (nI_le (by omega) (by omega))).mpr (h2 ?_)
    rw [← hI, e, Nat.sub_self]
    rfl
  · refine (iF (nI_ge hlt (by omega))).mpr ?_
    obtain ⟨m, hm⟩ : ∃ m, N - j = m + 1 := ⟨N - j - 1, by omega⟩
    rw [hm] at hI
    rcases hd j hlt with q | q
    · refine (q_anc_a hN h7 hlt q).mpr (i1.mpr (h1 j ?_))
      rw [← hI]
      unfold af_
      exact if_pos q
    · refine (q_anc_t hN h7 hlt q).mpr (i0.mpr (hK hlt _ ⟨by rw [nI_1], ?_⟩))
      rw [← hI, show N - (j + 1) = m by omega]
      conv => rhs; unfold af_
      rw [if_neg (by rw [show μ.1 9 j 0 = 1 from q]; decide)]
theorem c_behind (hN : μ.1 6 0 1 = nI N) (h7 : N ≤ 7) (hd : iv_nd N μ) (ta : iv_ta N μ) (ha : a < N) (hP : Po (nI (ab_ μ N a)) μ) : pX0_anchorBehind Po μ (nI a) := by
  unfold pX0_anchorBehind
  rw [nI_1]
  refine c_from hN h7 (fun i hi => ta_cases hd hi) (by omega) ?_ ?_
  · intro v hv
    have hb := af_s _ _ _ hv
    refine (jF ?_).mpr ?_
    · intro q
      have := congrArg Int32.toInt q
      rw [nI_toInt (by omega), show (-1 : Int32).toInt = -1 by decide] at this
      omega
    · have : ab_ μ N a = v := by unfold ab_; rw [hv]; rfl
      rw [← this]
      exact hP
  · intro hn
    refine (jT rfl).mpr ?_
    have : ab_ μ N a = f0_ μ N := by unfold ab_; rw [hn]; rfl
    rw [this] at hP
    refine c_from (i := 0) hN h7 (fun i hi => ta_cases hd hi) (by omega) ?_ ?_
    · intro v hv
      rw [Nat.sub_zero, f0_s ta] at hv
      cases hv
      exact hP
    · intro hv
      rw [Nat.sub_zero, f0_s ta] at hv
      cases hv
theorem m_from {s v : Nat} (hM : μ.1 26 0 2 = nI N) (h7 : N ≤ 7) (hd : iv_nd N μ) (ta : iv_ta N μ) (hs : s ≤ N) (hv : v = (af_ μ (N - s) s).getD (f0_ μ N)) (hP : Po (nI v) μ) : pX11_anchorFrom Po μ (nI s) := by
  have hN0 : 0 < N := by obtain ⟨⟨a, a1, -⟩, -⟩ := ta; omega
  unfold pX11_anchorFrom
  rw [hM]
  have n0 : ¬ nI N = 0 := nI_ne0 hN0 (by omega)
  refine ⟨n0, ?_⟩
  intro x2 e2
  rw [pk_rem (by omega) hN0 (by omega)] at e2
  subst e2
  have z := f0_s ta
  refine lp_up (2 * N) (fun j t => ∃ i, i < N ∧ t = (μ, nI i) ∧ ((j ≤ i ∧ (af_ μ (N - i) i).getD (f0_ μ N) = v) ∨ (j ≤ N + i ∧ af_ μ (N - i) i = some v))) ?_ 0 (by omega) _ ?_
  · intro j t hj hI K hK
    obtain ⟨i, hi, rfl, hI⟩ := hI
    unfold pX11_anchorFrom_l7
    rw [nI_clamp (show i < 2 ^ 31 by omega)]
    refine ⟨vp_in_nI (by omega) (by omega), ?_⟩
    obtain ⟨m, hm⟩ : ∃ m, N - i = m + 1 := ⟨N - i - 1, by omega⟩
    have e28 : μ.1 28 0 i = μ.1 9 i 0 := (hd i hi).2.1
    rw [e28]
    rcases ta_cases hd hi with q | q
    · refine (iT q).mpr ?_
      have ea : af_ μ (N - i) i = some i := by
        rw [hm]
        unfold af_
        exact if_pos q
      have : i = v := by
        rcases hI with ⟨-, h⟩ | ⟨-, h⟩
        · rw [ea] at h; exact h
        · rw [ea] at h; cases h; rfl
      rw [this]
      exact hP
    · have n1 : ¬ μ.1 9 i 0 = 0 := by rw [show μ.1 9 i 0 = 1 from q]; decide
      refine (iF n1).mpr ?_
      rw [hM]
      refine ⟨n0, ?_⟩
      intro x5 e5
      rw [nI_1, pk_rem (by omega) hN0 (by omega)] at e5
      subst e5
      have ea : af_ μ (N - i) i = af_ μ m (i + 1) := by
        rw [hm]
        conv => lhs; unfold af_
        rw [if_neg n1]
      rcases Nat.lt_or_ge (i + 1) N with b | b
      · refine hK (by rcases hI with h | h <;> omega) _ ⟨i + 1, b, by rw [Nat.mod_eq_of_lt b], ?_⟩
        rw [show N - (i + 1) = m by omega, ← ea]
        rcases hI with ⟨h1, h2⟩ | ⟨h1, h2⟩
        · exact Or.inl ⟨by omega, h2⟩
        · exact Or.inr ⟨by omega, h2⟩
      · have hm0 : m = 0 := by omega
        rw [hm0] at ea
        have ea : af_ μ (N - i) i = none := ea
        rcases hI with ⟨h1, h2⟩ | ⟨h1, h2⟩
        · rw [ea] at h2
          have h2 : f0_ μ N = v := h2
          refine hK (by omega) _ ⟨0, hN0, by rw [show i + 1 = N by omega, Nat.mod_self], Or.inr ⟨by omega, ?_⟩⟩
          rw [Nat.sub_zero, z, h2]
        · rw [ea] at h2
          cases h2
  · rcases Nat.eq_or_lt_of_le hs with e | hlt
    · refine ⟨0, hN0, by rw [e, Nat.mod_self], Or.inr ⟨by omega, ?_⟩⟩
      rw [Nat.sub_zero, z, hv, e, Nat.sub_self]
      rfl
    · exact ⟨s, hlt, by rw [Nat.mod_eq_of_lt hlt], Or.inl ⟨by omega, hv.symm⟩⟩
end AB
