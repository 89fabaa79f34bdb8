/-! Sets of anchors by bits; misfits. -/
theorem bt_ : ∀ S, S < 128 → ∀ k, k < 7 → (nI S >>> (nI k &&& 31)) &&& 1 = (if S.testBit k then 1 else 0) := by decide +kernel
theorem bo_ : ∀ S, S < 128 → ∀ k, k < 7 → S.testBit k = false → nI S ||| ((1 : Int32) <<< (nI k &&& 31)) = nI (S + 2 ^ k) := by decide +kernel
theorem ba_ : ∀ S, S < 128 → ∀ k, k < 7 → nI S &&& (((1 : Int32) <<< (nI k &&& 31)) ^^^ (-1 : Int32)) = nI (wo_ S k) := by decide +kernel
theorem bcn : ∀ S, S < 128 → bc_ (nI S) = nI (cn_ S 7) := by decide +kernel
theorem bs_ : ∀ k, k < 7 → ∀ S, S < 128 → S < 2 ^ k → S + 2 ^ k < 128 ∧ ∀ j, j < 7 → (S + 2 ^ k).testBit j = (S.testBit j || decide (j = k)) := by decide +kernel
theorem bw_ : ∀ S, S < 128 → ∀ b, b < 7 → wo_ S b < 128 ∧ ∀ j, j < 7 → (wo_ S b).testBit j = (S.testBit j && !decide (j = b)) := by decide +kernel
theorem bwc : ∀ S, S < 128 → ∀ b, b < 7 → S.testBit b = true → cn_ (wo_ S b) 7 + 1 = cn_ S 7 := by decide +kernel
theorem bn7 : ∀ S, S < 128 → cn_ S 7 ≤ 7 := by decide +kernel
theorem b3n : ∀ S, S < 128 → 0 < cn_ S 7 → ∃ b, b < 7 ∧ S.testBit b = true := by decide +kernel
theorem bsm : ∀ k, k < 8 → ∀ S, S < 2 ^ k → ∀ j, j < 7 → k ≤ j → S.testBit j = false := by decide +kernel
theorem btt {S k : Nat} (h : S < 128) (hk : k < 7) (b : S.testBit k = true) : (nI S >>> (nI k &&& 31)) &&& 1 = 1 := by rw [bt_ S h k hk, b]; rfl
theorem btf {S k : Nat} (h : S < 128) (hk : k < 7) (b : S.testBit k = false) : ¬ (nI S >>> (nI k &&& 31)) &&& 1 = 1 := by rw [bt_ S h k hk, b]; decide
/-- sets from flags -/
theorem rs_b (g : Nat → Int32) : ∀ n, n ≤ 7 → rs_ g n < 2 ^ n ∧ rs_ g n < 128 ∧ ∀ j, j < 7 → (rs_ g n).testBit j = (decide (j < n) && decide (g j = 1))
  | 0, _ => ⟨by show 0 < 1; decide, by show 0 < 128; decide, fun j hj => by show Nat.testBit 0 j = _; simp⟩
  | n + 1, hn => by
    obtain ⟨h1, h2, h3⟩ := rs_b g n (by omega)
    have hp : 2 ^ (n + 1) ≤ 128 := Nat.pow_le_pow_right (n := 2) (by omega) (show n + 1 ≤ 7 by omega)
    unfold rs_
    by_cases e : g n = 1
    · rw [if_pos e]
      obtain ⟨q1, q2⟩ := bs_ n (by omega) (rs_ g n) h2 h1
      refine ⟨by rw [Nat.pow_succ]; omega, q1, fun j hj => ?_⟩
      rw [q2 j hj, h3 j hj]
      by_cases ej : j = n
      · subst ej
        simp [e]
      · by_cases ej2 : j < n
        · simp [ej, ej2, show j < n + 1 by omega]
        · simp [ej, ej2, show ¬ j < n + 1 by omega]
    · rw [if_neg e, Nat.add_zero]
      refine ⟨by rw [Nat.pow_succ]; omega, h2, fun j hj => ?_⟩
      rw [h3 j hj]
      by_cases ej : j = n
      · subst ej
        simp [e]
      · by_cases ej2 : j < n
        · simp [ej2, show j < n + 1 by omega]
        · simp [ej2, show ¬ j < n + 1 by omega]
/-- how many flags -/
def rc_ (g : Nat → Int32) : Nat → Nat
  | 0 => 0
  | n + 1 => rc_ g n + (if g n = 1 then 1 else 0)
theorem cn_rc (g : Nat → Int32) (N : Nat) (h7 : N ≤ 7) : cn_ (rs_ g N) 7 = rc_ g N := by
  have tb := (rs_b g N h7).2.2
  have k1 : ∀ n, n ≤ N → cn_ (rs_ g N) n = rc_ g n := by
    intro n
    induction n with
    | zero => intro _; rfl
    | succ n ih =>
      intro hn
      unfold cn_ rc_
      rw [ih (by omega), tb n (by omega)]
      by_cases e : g n = 1
      · simp [e, show n < N by omega]
      · simp [e]
  have k2 : ∀ n, N ≤ n → n ≤ 7 → cn_ (rs_ g N) n = rc_ g N := by
    intro n
    induction n with
    | zero => intro h _; exact k1 0 (by omega) |>.trans (by rw [show N = 0 by omega])
    | succ n ih =>
      intro h1 h2
      by_cases e : N = n + 1
      · rw [← e]; exact k1 N (Nat.le_refl _)
      · unfold cn_
        rw [ih (by omega) (by omega), tb n (by omega)]
        simp [show ¬ n < N by omega]
  exact k2 7 h7 (Nat.le_refl _)
/-- what is known of the anchors in S, for tag t -/
def Gd_ (N t : Nat) (μ : mm_T) (S : Nat) : Prop := S < 128 ∧ ∀ j, j < 7 → S.testBit j = true → j < N ∧ μ.1 40 0 (7 * t + j) = μ.1 12 (7 * t + j) 4 ∧ -400 ≤ (μ.1 12 (7 * t + j) 4).toInt ∧ (μ.1 12 (7 * t + j) 4).toInt ≤ 2000
theorem Gd_w {N t S b : Nat} {μ : mm_T} (h : Gd_ N t μ S) (hb : b < 7) : Gd_ N t μ (wo_ S b) := by
  obtain ⟨q1, q2⟩ := bw_ S h.1 b hb
  refine ⟨q1, fun j hj hj2 => h.2 j hj ?_⟩
  rw [q2 j hj] at hj2
  revert hj2
  cases S.testBit j <;> simp
theorem sq_ge (x : Int) : 0 ≤ x * x := by
  rcases Int.le_total 0 x with h | h
  · exact Int.mul_nonneg h h
  · exact Int.mul_nonneg_of_nonpos_of_nonpos h h
theorem df_b {N t S p j : Nat} {μ : mm_T} (hd : iv_nd N μ) (h : Gd_ N t μ S) (hp : p < 1024) (hj : j < 7) (hb : S.testBit j = true) : 0 ≤ df_ μ t p j ∧ df_ μ t p j ≤ 4000000 := by
  obtain ⟨a1, a2, a3, a4⟩ := h.2 j hj hb
  obtain ⟨-, -, x3, -, -, y3⟩ := xy_ hd a1
  have hf := fp_le x3 y3 (show p % 32 < 32 by omega) (show p / 32 < 32 by omega)
  unfold df_
  generalize (μ.1 12 (7 * t + j) 4).toInt = r at *
  generalize fp_ (nx_ μ j) (ny_ μ j) (p % 32) (p / 32) = f at *
  refine ⟨sq_ge _, ?_⟩
  have e1 : -838 ≤ r - (f : Int) := by omega
  have e2 : r - (f : Int) ≤ 2000 := by omega
  generalize r - (f : Int) = x at *
  rcases Int.le_total 0 x with q | q
  · have : x * x ≤ 2000 * 2000 := Int.mul_le_mul e2 e2 q (by omega)
    omega
  · have : (-x) * (-x) ≤ 838 * 838 := Int.mul_le_mul (by omega) (by omega) (by omega) (by omega)
    rw [Int.neg_mul_neg] at this
    omega
theorem mf_b {N t S p : Nat} {μ : mm_T} (hd : iv_nd N μ) (h : Gd_ N t μ S) (hp : p < 1024) : ∀ n, n ≤ 7 → 0 ≤ mf_ (df_ μ t p) S n ∧ mf_ (df_ μ t p) S n ≤ 4000000 * n := by
  intro n
  induction n with
  | zero => intro _; exact ⟨Int.le_refl 0, Int.le_refl 0⟩
  | succ n ih =>
    intro hn
    have q := ih (by omega)
    unfold mf_
    cases b : S.testBit n with
    | false =>
      simp
      omega
    | true =>
      have := df_b hd h hp (show n < 7 by omega) b
      simp
      omega
theorem ms_b {N t S p : Nat} {μ : mm_T} (hd : iv_nd N μ) (h : Gd_ N t μ S) (hp : p < 1024) : 0 ≤ ms_ (df_ μ t) S p ∧ ms_ (df_ μ t) S p ≤ 28000000 := by
  have := mf_b hd h hp 7 (by omega)
  unfold ms_
  omega
/-- no bit beyond N -/
theorem mf_N {N t S p : Nat} {μ : mm_T} (h : Gd_ N t μ S) (h7 : N ≤ 7) : ms_ (df_ μ t) S p = mf_ (df_ μ t p) S N := by
  have k : ∀ n, N ≤ n → n ≤ 7 → mf_ (df_ μ t p) S n = mf_ (df_ μ t p) S N := by
    intro n
    induction n with
    | zero => intro h1 _; rw [show N = 0 by omega]
    | succ n ih =>
      intro h1 h2
      by_cases e : N = n + 1
      · rw [e]
      · have hb : S.testBit n = false := by
          cases b : S.testBit n with
          | false => rfl
          | true => exact absurd (h.2 n (by omega) b).1 (by omega)
        conv => lhs; unfold mf_
        rw [hb, ih (by omega) (by omega)]
        simp
  exact k 7 h7 (Nat.le_refl _)
theorem mf_w {d : Nat → Int} {S b : Nat} (hS : S < 128) (hb : b < 7) (ht : S.testBit b = true) : ∀ n, n ≤ 7 → mf_ d (wo_ S b) n = mf_ d S n - (if b < n then d b else 0) := by
  intro n
  induction n with
  | zero => intro _; simp [mf_]
  | succ n ih =>
    intro hn
    have q := (bw_ S hS b hb).2 n (by omega)
    unfold mf_
    rw [ih (by omega), q]
    by_cases e : n = b
    · subst e
      rw [ht, if_neg (Nat.lt_irrefl n), if_pos (show n < n + 1 by omega)]
      simp
    · by_cases e2 : b < n
      · rw [if_pos e2, if_pos (show b < n + 1 by omega)]
        cases S.testBit n <;> simp [e]
        omega
      · rw [if_neg e2, if_neg (show ¬ b < n + 1 by omega)]
        cases S.testBit n <;> simp [e]
theorem ms_w {d : Nat → Nat → Int} {S b p : Nat} (hS : S < 128) (hb : b < 7) (ht : S.testBit b = true) : ms_ d (wo_ S b) p = ms_ d S p - d p b := by
  have := mf_w (d := d p) hS hb ht 7 (Nat.le_refl _)
  rw [if_pos hb] at this
  exact this
theorem am_le (g : Nat → Int) : ∀ n, am_ g n ≤ n
  | 0 => Nat.le_refl 0
  | n + 1 => by
    have := am_le g n
    unfold am_
    split <;> omega
theorem am_s (g : Nat → Int) (n : Nat) : am_ g (n + 1) = if g (n + 1) < g (am_ g n) then n + 1 else am_ g n := rfl
theorem am_min (g : Nat → Int) : ∀ n p, p ≤ n → g (am_ g n) ≤ g p
  | 0, p, h => by rw [show p = 0 by omega]; exact Int.le_refl _
  | n + 1, p, h => by
    rw [am_s]
    by_cases e : g (n + 1) < g (am_ g n)
    · rw [if_pos e]
      by_cases e2 : p = n + 1
      · rw [e2]; exact Int.le_refl _
      · have := am_min g n p (by omega)
        omega
    · rw [if_neg e]
      by_cases e2 : p = n + 1
      · rw [e2]; omega
      · exact am_min g n p (by omega)
theorem ft_lt (d : Nat → Nat → Int) (S : Nat) : ft_ d S < 1024 := by
  have := am_le (fun p => ms_ d S p) 1023
  unfold ft_
  omega
/-- comparing ints -/
theorem oI_le {A B : Int} (a1 : -2147483648 ≤ A) (a2 : A < 2147483648) (b1 : -2147483648 ≤ B) (b2 : B < 2147483648) : Int32.ofInt A ≤ Int32.ofInt B ↔ A ≤ B := by
  rw [Int32.le_iff_toInt_le, oI_T a1 a2, oI_T b1 b2]
theorem fp_cm (x y x2 y2 : Nat) : fp_ x y x2 y2 = fp_ x2 y2 x y := by
  unfold fp_
  rw [sqd_cm x x2, sqd_cm y y2]

theorem mf_S (d : Nat → Int) (S n : Nat) : mf_ d S (n + 1) = mf_ d S n + (if S.testBit n then d n else 0) := rfl
theorem cn_S (S n : Nat) : cn_ S (n + 1) = cn_ S n + (if S.testBit n then 1 else 0) := rfl
theorem wf_S (d : Nat → Nat → Int) (S n : Nat) : wf_ d S (n + 1) = if S.testBit n then (match wf_ d S n with | none => some n | some b => if lb_ d (wo_ S n) < lb_ d (wo_ S b) then some n else some b) else wf_ d S n := rfl
theorem rs_S (g : Nat → Int32) (n : Nat) : rs_ g (n + 1) = rs_ g n + (if g n = 1 then 2 ^ n else 0) := rfl
