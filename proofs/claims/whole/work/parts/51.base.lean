/-! What small methods ask and answer. -/
theorem nI_m1 {N : Nat} (h : 0 < N) : nI N - 1 = nI (N - 1) := by
  obtain ⟨n, rfl⟩ : ∃ n, N = n + 1 := ⟨N - 1, by omega⟩
  exact nI_pred n
theorem i_nlt {a b : Int32} : ¬ a < b ↔ b ≤ a := Int32.not_lt
theorem q_win_t {Po : Int32 → mm_T → Prop} {μ : mm_T} {x a b : Int32} (h1 : a ≤ x) (h2 : x ≤ b) : pX11_within Po μ x a b ↔ Po 1 μ := by
  unfold pX11_within
  have e1 : ¬ x < a := i_nlt.mpr h1
  have e2 : ¬ b < x := i_nlt.mpr h2
  simp [e1, e2]
theorem q_win_f {Po : Int32 → mm_T → Prop} {μ : mm_T} {x a b : Int32} (h : x < a ∨ b < x) : pX11_within Po μ x a b ↔ Po 0 μ := by
  unfold pX11_within
  by_cases e1 : x < a
  · simp [e1]
  · have e2 : b < x := h.resolve_left e1
    simp [e1, e2]
section QN
variable {Po : Int32 → mm_T → Prop} {μ : mm_T} {N k : Nat} {x : Int32}
theorem q_has_t (hN : μ.1 6 0 1 = nI N) (h7 : N ≤ 7) (hk : k < N) : pX0_has Po μ (nI k) ↔ Po 1 μ := by
  unfold pX0_has
  have e1 : ¬ nI k < 0 := nI_pos (by omega)
  have e2 : ¬ nI N ≤ nI k := nI_ge hk (by omega)
  simp [hN, e1, e2]
theorem q_has_f (hN : μ.1 6 0 1 = nI N) (h7 : N ≤ 7) (h : ∀ k, k < N → x ≠ nI k) : pX0_has Po μ x ↔ Po 0 μ := by
  unfold pX0_has
  rw [hN]
  by_cases e1 : x < 0
  · simp [e1]
  · have e2 : nI N ≤ x := by
      rcases ni_cases x N (by omega) with ⟨k, h1, h2⟩ | h1 | h1
      · exact absurd h2 (h k h1)
      · exact absurd h1 e1
      · exact h1
    simp [e1, e2]
theorem q_nd_t (hN : μ.1 26 0 2 = nI N) (h7 : N ≤ 7) (hk : k < N) : pX11_isNode Po μ (nI k) ↔ Po 1 μ := by
  unfold pX11_isNode
  rw [hN, nI_m1 (by omega), q_win_t (nI_pos' (by omega)) (nI_le (by omega) (by omega))]
  simp
theorem q_nd_f (hN : μ.1 26 0 2 = nI N) (h7 : N ≤ 7) (h : ∀ k, k < N → x ≠ nI k) : pX11_isNode Po μ x ↔ Po 0 μ := by
  unfold pX11_isNode
  rw [hN, q_win_f]
  · simp
  · by_cases e1 : x < 0
    · exact Or.inl e1
    · right
      obtain ⟨j, hj, rfl⟩ := nI_of e1
      rw [Int32.lt_iff_toInt_lt, nI_toInt hj]
      have hjN : N ≤ j := by
        rcases Nat.lt_or_ge j N with q | q
        · exact absurd rfl (h j q)
        · exact q
      rcases Nat.eq_zero_or_pos N with q | q
      · subst q
        have : (nI 0 - 1).toInt = -1 := by decide
        rw [this]
        omega
      · rw [nI_m1 q, nI_toInt (by omega)]
        omega
theorem q_rd_t (hN : μ.1 6 0 1 = nI N) (h7 : N ≤ 7) (hk : 0 < N) : pX0_isRead Po μ ↔ Po 1 μ := by
  unfold pX0_isRead
  have e : ¬ nI N ≤ 0 := nI_nle hk (by omega)
  simp [hN, e]
theorem q_rd_f (hN : μ.1 6 0 1 = nI 0) : pX0_isRead Po μ ↔ Po 0 μ := by
  unfold pX0_isRead
  have e : nI 0 ≤ 0 := by decide
  simp [hN, e]
theorem q_fd_t (hN : μ.1 26 0 2 = nI N) (h7 : N ≤ 7) (hk : 0 < N) : pX11_isField Po μ ↔ Po 1 μ := by
  unfold pX11_isField
  have e : ¬ nI N ≤ 0 := nI_nle hk (by omega)
  simp [hN, e]
theorem q_fd_f (hN : μ.1 26 0 2 = nI 0) : pX11_isField Po μ ↔ Po 0 μ := by
  unfold pX11_isField
  have e : nI 0 ≤ 0 := by decide
  simp [hN, e]
theorem q_in {n : Nat} (hk : k < n) (hn : n < 2 ^ 31) : vp_in (nI k) n ↔ True := ⟨fun _ => trivial, fun _ => vp_in_nI hk hn⟩
theorem q_tag_t (hN : μ.1 6 0 1 = nI N) (h7 : N ≤ 7) (hk : k < N) (ht : is_t μ k) : pX0_isTag Po μ (nI k) ↔ Po 1 μ := by
  unfold pX0_isTag
  rw [q_has_t hN h7 hk]
  simp [q_in (show k < 7 by omega) (by omega), nI_clamp (show k < 2 ^ 31 by omega), show μ.1 9 k 0 = 1 from ht]
theorem q_tag_a (hN : μ.1 6 0 1 = nI N) (h7 : N ≤ 7) (hk : k < N) (ht : is_a μ k) : pX0_isTag Po μ (nI k) ↔ Po 0 μ := by
  unfold pX0_isTag
  rw [q_has_t hN h7 hk]
  simp [q_in (show k < 7 by omega) (by omega), nI_clamp (show k < 2 ^ 31 by omega), show μ.1 9 k 0 = 0 from ht]
theorem q_tag_f (hN : μ.1 6 0 1 = nI N) (h7 : N ≤ 7) (h : ∀ k, k < N → x ≠ nI k) : pX0_isTag Po μ x ↔ Po 0 μ := by
  unfold pX0_isTag
  rw [q_has_f hN h7 h]
  simp
theorem q_anc_t (hN : μ.1 6 0 1 = nI N) (h7 : N ≤ 7) (hk : k < N) (ht : is_t μ k) : pX0_isAnchor Po μ (nI k) ↔ Po 0 μ := by
  unfold pX0_isAnchor
  rw [q_has_t hN h7 hk]
  simp [q_in (show k < 7 by omega) (by omega), nI_clamp (show k < 2 ^ 31 by omega), show μ.1 9 k 0 = 1 from ht]
theorem q_anc_a (hN : μ.1 6 0 1 = nI N) (h7 : N ≤ 7) (hk : k < N) (ht : is_a μ k) : pX0_isAnchor Po μ (nI k) ↔ Po 1 μ := by
  unfold pX0_isAnchor
  rw [q_has_t hN h7 hk]
  simp [q_in (show k < 7 by omega) (by omega), nI_clamp (show k < 2 ^ 31 by omega), show μ.1 9 k 0 = 0 from ht]
theorem q_anc_f (hN : μ.1 6 0 1 = nI N) (h7 : N ≤ 7) (h : ∀ k, k < N → x ≠ nI k) : pX0_isAnchor Po μ x ↔ Po 0 μ := by
  unfold pX0_isAnchor
  rw [q_has_f hN h7 h]
  simp
end QN
/-- x names a tag, y an anchor -/
def pr_ (N : Nat) (μ : mm_T) (x y : Int32) : Prop := ∃ t a, t < N ∧ a < N ∧ is_t μ t ∧ is_a μ a ∧ x = nI t ∧ y = nI a
section QP
variable {Po : Int32 → mm_T → Prop} {μ : mm_T} {N t a : Nat} {x y : Int32}
theorem ta_cases (hd : iv_nd N μ) {k : Nat} (hk : k < N) : is_a μ k ∨ is_t μ k := (hd k hk).1
theorem nn_cases (N : Nat) (x : Int32) : (∃ k, k < N ∧ x = nI k) ∨ ∀ k, k < N → x ≠ nI k := by
  by_cases h : ∃ k, k < N ∧ x = nI k
  · exact Or.inl h
  · exact Or.inr fun k hk e => h ⟨k, hk, e⟩
theorem q_pr_t (hN : μ.1 6 0 1 = nI N) (h7 : N ≤ 7) (ht : t < N) (ha : a < N) (h1 : is_t μ t) (h2 : is_a μ a) : pX0_hasPair Po μ (nI t) (nI a) ↔ Po 1 μ := by
  unfold pX0_hasPair
  rw [q_tag_t hN h7 ht h1]
  simp [q_anc_a hN h7 ha h2]
theorem q_pr_f (hN : μ.1 6 0 1 = nI N) (h7 : N ≤ 7) (hd : iv_nd N μ) (h : ¬ pr_ N μ x y) : pX0_hasPair Po μ x y ↔ Po 0 μ := by
  unfold pX0_hasPair
  rcases nn_cases N x with ⟨t, ht, rfl⟩ | hx
  · rcases ta_cases hd ht with h1 | h1
    · rw [q_tag_a hN h7 ht h1]
      simp
    · rw [q_tag_t hN h7 ht h1]
      rcases nn_cases N y with ⟨a, ha, rfl⟩ | hy
      · rcases ta_cases hd ha with h2 | h2
        · exact absurd ⟨t, a, ht, ha, h1, h2, rfl, rfl⟩ h
        · simp [q_anc_t hN h7 ha h2]
      · simp [q_anc_f hN h7 hy]
  · rw [q_tag_f hN h7 hx]
    simp
theorem q_mp_t (hN : μ.1 26 0 2 = nI N) (h7 : N ≤ 7) (hd : iv_nd N μ) (ht : t < N) (ha : a < N) (h1 : is_t μ t) (h2 : is_a μ a) : pX11_isPair Po μ (nI t) (nI a) ↔ Po 1 μ := by
  unfold pX11_isPair
  rw [q_nd_t hN h7 ht]
  have e1 : μ.1 28 0 t = 1 := (hd t ht).2.1.trans h1
  have e2 : μ.1 28 0 a = 0 := (hd a ha).2.1.trans h2
  simp [q_nd_t hN h7 ha, q_in (show t < 7 by omega) (by omega), q_in (show a < 7 by omega) (by omega), nI_clamp (show t < 2 ^ 31 by omega), nI_clamp (show a < 2 ^ 31 by omega), e1, e2]
theorem q_mp_f (hN : μ.1 26 0 2 = nI N) (h7 : N ≤ 7) (hd : iv_nd N μ) (h : ¬ pr_ N μ x y) : pX11_isPair Po μ x y ↔ Po 0 μ := by
  unfold pX11_isPair
  rcases nn_cases N x with ⟨t, ht, rfl⟩ | hx
  · rw [q_nd_t hN h7 ht]
    rcases nn_cases N y with ⟨a, ha, rfl⟩ | hy
    · have e1 : μ.1 28 0 t = μ.1 9 t 0 := (hd t ht).2.1
      have e2 : μ.1 28 0 a = μ.1 9 a 0 := (hd a ha).2.1
      simp [q_nd_t hN h7 ha, q_in (show t < 7 by omega) (by omega), q_in (show a < 7 by omega) (by omega), nI_clamp (show t < 2 ^ 31 by omega), nI_clamp (show a < 2 ^ 31 by omega), e1, e2]
      rcases ta_cases hd ht with h1 | h1
      · simp [show μ.1 9 t 0 = 0 from h1]
      · rcases ta_cases hd ha with h2 | h2
        · exact absurd ⟨t, a, ht, ha, h1, h2, rfl, rfl⟩ h
        · simp [show μ.1 9 t 0 = 1 from h1, show μ.1 9 a 0 = 1 from h2]
    · simp [q_nd_f hN h7 hy]
  · rw [q_nd_f hN h7 hx]
    simp
theorem q_link {Po : Nat → mm_T → Prop} (ht : t < 7) (ha : a < 7) : pX0_linkOf Po μ (nI t) (nI a) ↔ Po (7 * t + a) μ := by
  unfold pX0_linkOf
  have e : nI t * (7 : Int32) + nI a = nI (7 * t + a) := by
    rw [show (7 : Int32) = nI 7 from rfl, pk_mul, nI_add, Nat.mul_comm]
  rw [e, nI_clamp (by omega)]
  simp [q_in (show 7 * t + a < 49 by omega) (by omega)]
theorem q_pair (ht : t < 7) (ha : a < 7) : pX11_pairOf Po μ (nI t) (nI a) ↔ Po (nI (7 * t + a)) μ := by
  unfold pX11_pairOf
  have e : (7 : Int32) * nI t + nI a = nI (7 * t + a) := by
    rw [show (7 : Int32) = nI 7 from rfl, pk_mul, nI_add]
  rw [e]
end QP
theorem inv_skip (k : Nat) (μ : mm_T) (_ : k < 512) (h : Inv_ k μ) : Inv_ (k + 1) μ := by
  obtain ⟨h1, h2, h3, N, h4, h5, h6, h7, h8⟩ := h
  refine ⟨h1, h2, h3, N, h4, h5, h6, ?_, fun hN => ?_⟩
  · rcases h7 with h | ⟨a, b, t, an, c1, c2, c3, c4, c5, c6, c7, c8, c9, c10, c11, c12, ⟨T, d1, d2⟩, T2, d3, d4⟩
    · exact Or.inl h
    · exact Or.inr ⟨a, b, t, an, c1, c2, c3, c4, c5, c6, c7, c8, c9, c10, c11, c12, ⟨T, by omega, d2⟩, T2, by omega, d4⟩
  · obtain ⟨a1, a2, a3, ⟨T, d1, d2⟩, a5⟩ := h8 hN
    exact ⟨a1, a2, a3, ⟨T, by omega, d2⟩, a5⟩
theorem inv_zero (μ : mm_T) (h : zq_ μ) : Inv_ 0 μ := by
  obtain ⟨h1, h2, h3⟩ := h
  refine ⟨⟨0, by omega, h1 _ _ _ (by decide), h1 _ _ _ (by decide), fun k hk => absurd hk (Nat.not_lt_zero k)⟩, ⟨?_, ?_, ?_, ?_⟩, h3, 0, by omega, h1 _ _ _ (by decide), h1 _ _ _ (by decide), Or.inl ⟨h1 _ _ _ (by decide), h1 _ _ _ (by decide)⟩, fun h => absurd h (Nat.lt_irrefl 0)⟩ <;> rw [h1 _ _ _ (by decide), h1 _ _ _ (by decide)]
