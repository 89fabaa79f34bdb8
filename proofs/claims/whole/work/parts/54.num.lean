/-! Loops that count up; floors; flights; clocks. -/
theorem lp_up {σ : Type} {B : (σ → Prop) → σ → Prop} (e : Nat) (I : Nat → σ → Prop) (hs : ∀ j t, j ≤ e → I j t → ∀ K : σ → Prop, (j < e → ∀ t2, I (j + 1) t2 → K t2) → B K t) (j : Nat) (hj : j ≤ e) (t : σ) (h : I j t) : lp_ B t := by
  have key : ∀ n j t, e - j < n → j ≤ e → I j t → lp_N B n t := by
    intro n
    induction n with
    | zero => intro j t h2; exact absurd h2 (Nat.not_lt_zero _)
    | succ n ih => exact fun j t h1 h2 h3 => hs j t h2 h3 (lp_N B n) (fun h4 t2 h5 => ih (j + 1) t2 (by omega) (by omega) h5)
  exact ⟨e - j + 1, key _ j t (Nat.lt_succ_self _) hj h⟩
/-- numbers as ints and longs -/
theorem oI_n (n : Nat) : nI n = Int32.ofInt n := Int32.ofInt_eq_ofNat.symm
theorem oL_n (n : Nat) : lN n = Int64.ofInt n := Int64.ofInt_eq_ofNat.symm
theorem oL_i (x : Int32) : x.toInt64 = Int64.ofInt x.toInt := by
  apply Int64.toInt_inj.mp
  rw [Int32.toInt_toInt64, Int64.toInt_ofInt_of_le]
  · have := x.le_toInt; omega
  · have := x.toInt_lt; omega
theorem oI_t (x : Int32) : x = Int32.ofInt x.toInt := (Int32.ofInt_toInt x).symm
theorem oI_T {A : Int} (h1 : -2147483648 ≤ A) (h2 : A < 2147483648) : (Int32.ofInt A).toInt = A := Int32.toInt_ofInt_of_le (by omega) (by omega)
theorem oL_T {A : Int} (h1 : -9223372036854775808 ≤ A) (h2 : A < 9223372036854775808) : (Int64.ofInt A).toInt = A := Int64.toInt_ofInt_of_le (by omega) (by omega)
theorem oIL {A : Int} (h1 : -2147483648 ≤ A) (h2 : A < 2147483648) : (Int32.ofInt A).toInt64 = Int64.ofInt A := by rw [oL_i, oI_T h1 h2]
theorem xor_lt (a b : Int64) : (a ^^^ b).toInt < 0 ↔ ¬ (a.toInt < 0 ↔ b.toInt < 0) := by
  rw [← Int64.toInt_toBitVec, ← Int64.toInt_toBitVec, ← Int64.toInt_toBitVec, Int64.toBitVec_xor]
  have h := @BitVec.msb_xor 64 a.toBitVec b.toBitVec
  rw [BitVec.msb_eq_toInt, BitVec.msb_eq_toInt, BitVec.msb_eq_toInt] at h
  generalize (a.toBitVec ^^^ b.toBitVec).toInt = z at h ⊢
  generalize a.toBitVec.toInt = x at h ⊢
  generalize b.toBitVec.toInt = y at h ⊢
  by_cases h1 : x < 0 <;> by_cases h2 : y < 0 <;> simp [h1, h2] at h ⊢ <;> omega
theorem td_cases (A B : Int) (hB : 0 < B) : (B ∣ A → A.tdiv B = A / B) ∧ (0 ≤ A → A.tdiv B = A / B) ∧ (A < 0 → ¬ B ∣ A → A.tdiv B = A / B + 1) := by
  have h := Int.tdiv_eq_ediv (a := A) (b := B)
  refine ⟨fun q => ?_, fun q => ?_, fun q1 q2 => ?_⟩
  · rw [h, if_pos (Or.inr q), Int.add_zero]
  · rw [h, if_pos (Or.inl q), Int.add_zero]
  · rw [h, if_neg (by omega), Int.sign_eq_one_of_pos hB]
theorem ld_q {A B : Int} (h1 : -4611686018427387904 ≤ A) (h2 : A < 4611686018427387904) (h3 : 0 < B) (h4 : B < 4611686018427387904) : Int64.ofInt A / Int64.ofInt B = Int64.ofInt (A.tdiv B) ∧ (Int64.ofInt (A.tdiv B * B) = Int64.ofInt A ↔ B ∣ A) := by
  have hn := Int.natAbs_tdiv_le_natAbs A B
  constructor
  · apply Int64.toInt_inj.mp
    have tB : (Int64.ofInt B).toInt = B := oL_T (by omega) (by omega)
    rw [Int64.toInt_div_of_ne_right, oL_T (by omega) (by omega), tB, oL_T (by omega) (by omega)]
    intro q
    rw [q] at tB
    have : (-1 : Int64).toInt = -1 := by decide
    omega
  · constructor
    · intro q
      have h := Int.mul_tdiv_add_tmod A B
      have b1 := Int.tmod_lt_of_pos A h3
      have b2 := Int.lt_tmod_of_pos A h3
      rw [Int.mul_comm] at h
      have q2 := congrArg Int64.toInt q
      rw [oL_T (by omega) (by omega), oL_T (by omega) (by omega)] at q2
      exact ⟨A.tdiv B, by rw [Int.mul_comm]; exact q2.symm⟩
    · intro q
      rw [Int.tdiv_mul_cancel q]
theorem lN0 : (0 : Int64) = Int64.ofInt 0 := rfl
theorem r_floor {Po : Int64 → mm_T → Prop} {μ : mm_T} {A B : Int} (h1 : -4611686018427387904 ≤ A) (h2 : A < 4611686018427387904) (h3 : 0 < B) (h4 : B < 4611686018427387904) (h : Po (Int64.ofInt (A / B)) μ) : pJ9_floorDiv_f86c9 Po μ (Int64.ofInt A) (Int64.ofInt B) := by
  have tA : (Int64.ofInt A).toInt = A := oL_T (by omega) (by omega)
  have tB : (Int64.ofInt B).toInt = B := oL_T (by omega) (by omega)
  obtain ⟨q1, q2⟩ := ld_q h1 h2 h3 h4
  obtain ⟨c1, c2, c3⟩ := td_cases A B h3
  unfold pJ9_floorDiv_f86c9
  refine ⟨fun q => ?_, ?_⟩
  · rw [q] at tB
    have : (0 : Int64).toInt = 0 := by decide
    omega
  intro x hx
  rw [q1] at hx
  subst hx
  have z0 : (0 : Int64).toInt = 0 := by decide
  by_cases hA : 0 ≤ A
  · refine (iT ?_).mpr (by rw [c2 hA]; exact h)
    rw [lg_cmp_ge, Int64.le_iff_toInt_le, z0]
    have := not_congr (xor_lt (Int64.ofInt A) (Int64.ofInt B))
    rw [tA, tB] at this
    have h5 : ¬ (A < 0) := by omega
    have h6 : ¬ (B < 0) := by omega
    simp [h5, h6] at this
    exact this
  · refine (iF ?_).mpr ?_
    · rw [lg_cmp_ge, Int64.le_iff_toInt_le, z0]
      have := (xor_lt (Int64.ofInt A) (Int64.ofInt B))
      rw [tA, tB] at this
      have h5 : A < 0 := by omega
      have h6 : ¬ (B < 0) := by omega
      simp [h5, h6] at this
      omega
    · rw [lg_cmp_eq, ← Int64.ofInt_mul]
      by_cases hd : B ∣ A
      · exact (iT (q2.mpr hd)).mpr (by rw [c1 hd]; exact h)
      · refine (iF (fun q => hd (q2.mp q))).mpr ?_
        rw [c3 (by omega) hd, show (1 : Int64) = Int64.ofInt 1 from rfl, ← Int64.ofInt_sub]
        rw [show A / B + 1 - 1 = A / B by omega]
        exact h
theorem r_down {Po : Int32 → mm_T → Prop} {μ : mm_T} {A B : Int} (h1 : -4611686018427387904 ≤ A) (h2 : A < 4611686018427387904) (h3 : 0 < B) (h4 : B < 4611686018427387904) (h : Po (Int32.ofInt (A / B)) μ) : pX11_down Po μ (Int64.ofInt A) (Int64.ofInt B) := by
  have tA : (Int64.ofInt A).toInt = A := oL_T (by omega) (by omega)
  have tB : (Int64.ofInt B).toInt = B := oL_T (by omega) (by omega)
  obtain ⟨q1, q2⟩ := ld_q h1 h2 h3 h4
  obtain ⟨c1, c2, c3⟩ := td_cases A B h3
  have z0 : (0 : Int64).toInt = 0 := by decide
  have n0 : ¬ Int64.ofInt B = 0 := by
    intro q
    rw [q] at tB
    omega
  unfold pX11_down
  refine ⟨n0, ?_⟩
  intro x hx
  rw [q1] at hx
  subst hx
  refine ⟨n0, ?_⟩
  rw [lg_cmp_eq, q1, ← Int64.ofInt_mul]
  have e : Int64.ofInt A - Int64.ofInt (A.tdiv B * B) = 0 ↔ B ∣ A := by
    rw [← q2]
    constructor
    · intro q
      exact (Int64.sub_eq_iff_eq_add.mp q).symm ▸ (Int64.zero_add _).symm
    · intro q
      rw [q]
      exact Int64.sub_self _
  by_cases hd : B ∣ A
  · refine (iT (e.mpr hd)).mpr ?_
    rw [Int64.toInt32_ofInt, c1 hd]
    exact h
  · refine (iF (fun q => hd (e.mp q))).mpr ?_
    rw [lg_cmp_ge, Int64.le_iff_toInt_le, z0, tA]
    have hb : 0 ≤ lg_cmp (Int64.ofInt B) 0 := by
      rw [lg_cmp_ge, Int64.le_iff_toInt_le, z0, tB]
      omega
    by_cases hA : 0 ≤ A
    · refine (iT hA).mpr ?_
      unfold pX11_down_b24 pX11_down_b35
      refine (iT hb).mpr ((iT rfl).mpr ?_)
      rw [Int64.toInt32_ofInt, c2 hA]
      exact h
    · refine (iF hA).mpr ?_
      unfold pX11_down_b24 pX11_down_b35
      refine (iT hb).mpr ((iF (by decide)).mpr ?_)
      rw [c3 (by omega) hd, show (1 : Int64) = Int64.ofInt 1 from rfl, ← Int64.ofInt_sub, Int64.toInt32_ofInt]
      rw [show A / B + 1 - 1 = A / B by omega]
      exact h
/-- what the clock of node i shows at T -/
def ck_ (μ : mm_T) (i T : Nat) : Int := (μ.1 9 i 4).toInt + T + ((μ.1 9 i 3).toInt * T) / 10000
theorem sl_b {N i T : Nat} {μ : mm_T} (hd : iv_nd N μ) (hi : i < N) (hT : T ≤ 20000000) : -1980000000 ≤ (μ.1 9 i 3).toInt * T ∧ (μ.1 9 i 3).toInt * T ≤ 1980000000 := by
  obtain ⟨-, -, -, -, ⟨-, a, b⟩, -⟩ := hd i hi
  generalize (μ.1 9 i 3).toInt = s at a b ⊢
  constructor
  · have : (-99 : Int) * T ≤ s * T := Int.mul_le_mul_of_nonneg_right a (by omega)
    omega
  · have : s * T ≤ (99 : Int) * T := Int.mul_le_mul_of_nonneg_right b (by omega)
    omega
theorem ck_b {N i T : Nat} {μ : mm_T} (hd : iv_nd N μ) (hi : i < N) (hT : T ≤ 20000000) : -200000 ≤ ck_ μ i T ∧ ck_ μ i T ≤ 21000000 := by
  have h := sl_b hd hi hT
  obtain ⟨-, -, -, -, -, ⟨t, t1, t2, -⟩, -⟩ := hd i hi
  unfold ck_
  rw [t2, nI_toInt (by omega)]
  omega
theorem r_clockAt {Po : Int64 → mm_T → Prop} {μ : mm_T} {N i T : Nat} (hd : iv_nd N μ) (h7 : N ≤ 7) (hi : i < N) (hT : T ≤ 20000000) (h : Po (Int64.ofInt (ck_ μ i T)) μ) : pX5_clockAt Po μ i (lN T) := by
  have b := sl_b hd hi hT
  unfold pX5_clockAt
  refine ⟨by omega, ?_⟩
  rw [oL_i (μ.1 9 i 3), oL_n T, ← Int64.ofInt_mul]
  refine r_floor (B := 10000) (by omega) (by omega) (by omega) (by omega) ?_
  rw [oL_i, ← Int64.ofInt_add, ← Int64.ofInt_add]
  exact h
theorem r_clockOf {Po : Int32 → mm_T → Prop} {μ : mm_T} {N i T : Nat} (hd : iv_nd N μ) (h7 : N ≤ 7) (hi : i < N) (hT : T ≤ 20000000) (h : Po (Int32.ofInt (ck_ μ i T)) μ) : pX11_clockOf Po μ (nI i) (nI T) := by
  have b := sl_b hd hi hT
  obtain ⟨-, -, -, -, ⟨s1, -, -⟩, ⟨t, t1, t2, t3⟩, -⟩ := hd i hi
  unfold pX11_clockOf
  refine ⟨vp_in_nI (by omega) (by omega), vp_in_nI (by omega) (by omega), ?_⟩
  rw [nI_clamp (show i < 2 ^ 31 by omega), s1, t3, ← t2, nI_l (show T < 2 ^ 31 by omega), oL_i, oL_n T, ← Int64.ofInt_mul]
  refine r_down (B := 10000) (by omega) (by omega) (by omega) (by omega) ?_
  rw [oI_t (μ.1 9 i 4), oI_n T, ← Int32.ofInt_add, ← Int32.ofInt_add]
  exact h
/-- flights -/
theorem r_rootOf {Po : Int32 → mm_T → Prop} {μ : mm_T} {v : Nat} (hv : v < 250000) (h : Po (nI (rt_ v)) μ) : pX11_rootOf Po μ (nI v) := by
  unfold pX11_rootOf
  refine lp_up 500 (fun j t => t = (μ, nI v, nI j) ∧ j * j ≤ v) ?_ 0 (by omega) _ ⟨rfl, by omega⟩
  intro j t hj hI K hK
  obtain ⟨rfl, hI⟩ := hI
  unfold pX11_rootOf_l2
  simp only [nI_1, pk_mul]
  have hj5 : (j + 1) * (j + 1) < 2 ^ 31 := by
    have : (j + 1) * (j + 1) ≤ 501 * 501 := Nat.mul_le_mul (by omega) (by omega)
    omega
  by_cases b : v < (j + 1) * (j + 1)
  · refine (iT (nI_lt b hj5)).mpr ?_
    rw [is_R_one (v := v) (a := j) (b := rt_ v) ⟨hI, b⟩ (rt_ok hv)]
    exact h
  · refine (iF (nI_nlt (by omega) (by omega))).mpr (hK ?_ _ ⟨rfl, by omega⟩)
    rcases Nat.lt_or_ge j 500 with q | q
    · exact q
    · have : 501 * 501 ≤ (j + 1) * (j + 1) := Nat.mul_le_mul (by omega) (by omega)
      omega
section FL
variable {Po : Int32 → mm_T → Prop} {μ : mm_T} {x y x2 y2 N i j : Nat}
theorem sq_sm (h1 : x < 32) (h2 : y < 32) (h3 : x2 < 32) (h4 : y2 < 32) : sqd x x2 + sqd y y2 < 1923 := by
  have := sqd_le h1 h3
  have := sqd_le h2 h4
  omega
theorem r_flightBy (h1 : x < 32) (h2 : y < 32) (h3 : x2 < 32) (h4 : y2 < 32) (h : Po (nI (fp_ x y x2 y2)) μ) : pX11_flightBy Po μ (nI x - nI x2) (nI y - nI y2) := by
  have := sq_sm h1 h2 h3 h4
  unfold pX11_flightBy
  rw [sqd_I, sqd_I, nI_add, show (100 : Int32) = nI 100 from rfl, pk_mul]
  exact r_rootOf (by omega) h
theorem r_over (sq : iv_sq μ) (h1 : x < 32) (h2 : y < 32) (h3 : x2 < 32) (h4 : y2 < 32) (h : Po (nI (fp_ x y x2 y2)) μ) : pX2_over Po μ (nI x - nI x2) (nI y - nI y2) := by
  have hs := sq_sm h1 h2 h3 h4
  unfold pX2_over
  intro z hz
  rw [sqd_I, sqd_I, nI_add] at hz
  subst hz
  refine (iF (nI_pos (by omega))).mpr ((iF (show ¬ nI 1923 ≤ _ from nI_ge hs (by omega))).mpr ⟨vp_in_nI hs (by omega), ?_⟩)
  rw [nI_clamp (by omega)]
  obtain ⟨r, r1, r2⟩ := sq _ hs
  rw [r2, is_R_one r1 (rt_ok (by omega))]
  exact h
theorem xy_ (hd : iv_nd N μ) (hi : i < N) : μ.1 9 i 1 = nI (nx_ μ i) ∧ μ.1 29 0 i = nI (nx_ μ i) ∧ nx_ μ i < 32 ∧ μ.1 9 i 2 = nI (ny_ μ i) ∧ μ.1 30 0 i = nI (ny_ μ i) ∧ ny_ μ i < 32 := by
  obtain ⟨-, -, ⟨x, x1, x2, x3⟩, ⟨y, y1, y2, y3⟩, -⟩ := hd i hi
  unfold nx_ ny_
  rw [x2, x3, y2, y3, nI_clamp (by omega), nI_clamp (by omega)]
  exact ⟨rfl, rfl, x1, rfl, rfl, y1⟩
theorem r_flightBetween (hd : iv_nd N μ) (sq : iv_sq μ) (h7 : N ≤ 7) (hi : i < N) (hj : j < N) (h : Po (nI (fl_ μ i j)) μ) : pX0_flightBetween Po μ (nI i) (nI j) := by
  obtain ⟨a1, a2, a3, a4, a5, a6⟩ := xy_ hd hi
  obtain ⟨b1, b2, b3, b4, b5, b6⟩ := xy_ hd hj
  unfold pX0_flightBetween
  refine ⟨vp_in_nI (by omega) (by omega), vp_in_nI (by omega) (by omega), vp_in_nI (by omega) (by omega), vp_in_nI (by omega) (by omega), ?_⟩
  rw [nI_clamp (show i < 2 ^ 31 by omega), nI_clamp (show j < 2 ^ 31 by omega), a1, a4, b1, b4]
  exact r_over sq a3 a6 b3 b6 h
theorem r_flightOf (hd : iv_nd N μ) (h7 : N ≤ 7) (hi : i < N) (hj : j < N) (h : Po (nI (fl_ μ i j)) μ) : pX11_flightOf Po μ (nI i) (nI j) := by
  obtain ⟨a1, a2, a3, a4, a5, a6⟩ := xy_ hd hi
  obtain ⟨b1, b2, b3, b4, b5, b6⟩ := xy_ hd hj
  unfold pX11_flightOf
  refine ⟨vp_in_nI (by omega) (by omega), vp_in_nI (by omega) (by omega), vp_in_nI (by omega) (by omega), vp_in_nI (by omega) (by omega), ?_⟩
  rw [nI_clamp (show i < 2 ^ 31 by omega), nI_clamp (show j < 2 ^ 31 by omega), a2, a5, b2, b5]
  exact r_flightBy a3 a6 b3 b6 h
end FL
