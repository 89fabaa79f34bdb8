/-! Reading the memory behind writes; numbers. -/
theorem mm_Ir (μ : mm_T) (f i j : Nat) (v : Int32) (a b c : Nat) : (mm_I μ f i j v).1 a b c = if a = f ∧ b = i ∧ c = j then v else μ.1 a b c := by
  unfold mm_I
  show (if a = f ∧ b = i then upd (μ.1 f i) j v else μ.1 a b) c = _
  by_cases e : a = f ∧ b = i
  · obtain ⟨rfl, rfl⟩ := e
    rw [if_pos ⟨rfl, rfl⟩]
    unfold upd
    by_cases e2 : c = j
    · simp [e2]
    · simp [e2]
  · rw [if_neg e, if_neg (fun q => e ⟨q.1, q.2.1⟩)]
theorem mm_I2 (μ : mm_T) (f i j : Nat) (v : Int32) : (mm_I μ f i j v).2 = μ.2 := rfl
theorem mm_Lr (μ : mm_T) (f i j : Nat) (v : Int64) (a b c : Nat) : (mm_L μ f i j v).2 a b c = if a = f ∧ b = i ∧ c = j then v else μ.2 a b c := by
  unfold mm_L
  show (if a = f ∧ b = i then vp_updL (μ.2 f i) j v else μ.2 a b) c = _
  by_cases e : a = f ∧ b = i
  · obtain ⟨rfl, rfl⟩ := e
    rw [if_pos ⟨rfl, rfl⟩]
    unfold vp_updL
    by_cases e2 : c = j
    · simp [e2]
    · simp [e2]
  · rw [if_neg e, if_neg (fun q => e ⟨q.1, q.2.1⟩)]
theorem mm_L1 (μ : mm_T) (f i j : Nat) (v : Int64) : (mm_L μ f i j v).1 = μ.1 := rfl
/-- which small number an int is -/
theorem ni_cases (x : Int32) (n : Nat) (hn : n < 2 ^ 31) : (∃ k, k < n ∧ x = nI k) ∨ (x < 0 ∨ nI n ≤ x) := by
  rcases pk_ix x hn with h | h | h
  · exact Or.inr (Or.inl h)
  · exact Or.inr (Or.inr h)
  · exact Or.inl h
theorem ni_inj {a b : Nat} (ha : a < 2 ^ 31) (hb : b < 2 ^ 31) (h : nI a = nI b) : a = b := (nI_eq ha hb).mp h
theorem ni_lit (n : Nat) : (OfNat.ofNat n : Int32) = nI n := rfl
/-- scratch: what is written anew before it is read -/
def scr_ (a c : Nat) : Prop := a = 3 ∨ a = 5 ∨ a = 21 ∨ a = 22 ∨ a = 23 ∨ a = 24 ∨ a = 25 ∨ (a = 26 ∧ 31 ≤ c ∧ c ≤ 35) ∨ a = 44 ∨ a = 45 ∨ a = 46 ∨ a = 47 ∨ a = 48
def sE (μ μ2 : mm_T) : Prop := (∀ a b c, ¬ scr_ a c → μ2.1 a b c = μ.1 a b c) ∧ ∀ a b c, a ≠ 26 → μ2.2 a b c = μ.2 a b c
theorem sE.rf (μ : mm_T) : sE μ μ := ⟨fun _ _ _ _ => rfl, fun _ _ _ _ => rfl⟩
theorem sE.tr {μ1 μ2 μ3 : mm_T} (h : sE μ1 μ2) (g : sE μ2 μ3) : sE μ1 μ3 := ⟨fun a b c hs => (g.1 a b c hs).trans (h.1 a b c hs), fun a b c hs => (g.2 a b c hs).trans (h.2 a b c hs)⟩
theorem sE.I {μ0 μ : mm_T} (h : sE μ0 μ) {f i j : Nat} {v : Int32} (hs : scr_ f j) : sE μ0 (mm_I μ f i j v) := by
  refine ⟨fun a b c ha => ?_, fun a b c ha => h.2 a b c ha⟩
  rw [mm_Ir, if_neg (fun q => ha (by rw [q.1, q.2.2]; exact hs))]
  exact h.1 a b c ha
theorem sE.L {μ0 μ : mm_T} (h : sE μ0 μ) {i j : Nat} {v : Int64} : sE μ0 (mm_L μ 26 i j v) := by
  refine ⟨fun a b c ha => h.1 a b c ha, fun a b c ha => ?_⟩
  rw [mm_Lr, if_neg (fun q => ha q.1)]
  exact h.2 a b c ha
/-! ## what holds between the calls -/
/-- the page, the counts, the roots, how many nodes; whether there was an exchange -/
def iv_pg (μ : mm_T) : Prop := ∃ L, L ≤ 110 ∧ μ.1 1 0 1 = nI L ∧ μ.1 26 0 0 = nI L ∧ ∀ k, k < L → μ.1 27 0 k = μ.1 2 0 k
def iv_ct (μ : mm_T) : Prop := μ.1 26 0 27 = μ.1 0 0 3 ∧ μ.1 26 0 28 = μ.1 0 0 4 ∧ μ.1 26 0 29 = μ.1 0 0 5 ∧ μ.1 26 0 30 = μ.1 0 0 6
def iv_sq (μ : mm_T) : Prop := ∀ j, j < 1923 → ∃ r, is_R (100 * j) r ∧ μ.1 20 0 j = nI r
/-- the node i is a tag (an anchor) -/
def is_t (μ : mm_T) (i : Nat) : Prop := μ.1 9 i 0 = 1
def is_a (μ : mm_T) (i : Nat) : Prop := μ.1 9 i 0 = 0
def iv_nd (N : Nat) (μ : mm_T) : Prop := ∀ i, i < N → (μ.1 9 i 0 = 0 ∨ μ.1 9 i 0 = 1) ∧ μ.1 28 0 i = μ.1 9 i 0 ∧ (∃ x, x < 32 ∧ μ.1 9 i 1 = nI x ∧ μ.1 29 0 i = nI x) ∧ (∃ y, y < 32 ∧ μ.1 9 i 2 = nI y ∧ μ.1 30 0 i = nI y) ∧ (μ.1 31 0 i = μ.1 9 i 3 ∧ -99 ≤ (μ.1 9 i 3).toInt ∧ (μ.1 9 i 3).toInt ≤ 99) ∧ (∃ t, t < 10000 ∧ μ.1 9 i 4 = nI t ∧ μ.1 32 0 i = nI t) ∧ (∃ t, 10 ≤ t ∧ t ≤ 300 ∧ μ.1 9 i 5 = nI t ∧ μ.1 33 0 i = nI t)
def iv_tg (N : Nat) (μ : mm_T) : Prop := ∀ i, i < N → (is_t μ i → (∃ t, (t = 0 ∨ t = 1 ∨ t = 2 ∨ t = 4 ∨ t = 8 ∨ t = 16) ∧ μ.1 9 i 6 = nI t ∧ μ.1 34 0 i = nI t) ∧ ∃ a, a < N ∧ is_a μ a ∧ μ.1 9 i 7 = nI a ∧ μ.1 35 0 i = nI a) ∧ (is_a μ i → μ.1 9 i 6 = -1 ∧ μ.1 9 i 7 = -1)
def iv_ta (N : Nat) (μ : mm_T) : Prop := (∃ a, a < N ∧ is_a μ a) ∧ ∃ t, t < N ∧ is_t μ t
def iv_tm (k : Nat) (μ : mm_T) : Prop := ∃ T, T ≤ 9999999 + 2400 * k ∧ μ.2 6 0 2 = lN T ∧ μ.1 26 0 17 = nI T
def iv_lv (μ : mm_T) : Prop := (∃ v, 1 ≤ v ∧ v ≤ 9 ∧ μ.1 6 0 3 = nI v ∧ μ.1 26 0 18 = nI v) ∧ ∃ v, v ≤ 9999 ∧ μ.1 6 0 4 = nI v ∧ μ.1 26 0 19 = nI v
def iv_lk (N : Nat) (μ : mm_T) : Prop := ∀ q, q < 49 → (∃ P, P ≤ 6 ∧ μ.1 12 q 2 = nI P ∧ μ.1 36 0 q = nI P ∧ ∀ t, t < P → (∃ x, x ≤ 150 ∧ μ.1 13 q t = nI x ∧ μ.1 37 0 (6 * q + t) = nI x) ∧ μ.1 38 0 (6 * q + t) = μ.1 14 q t) ∧ ((μ.1 12 q 3 = 0 ∧ μ.1 39 0 q = 0 ∧ μ.1 12 q 4 = -1) ∨ (μ.1 12 q 3 = 1 ∧ μ.1 39 0 q = 1 ∧ μ.1 40 0 q = μ.1 12 q 4 ∧ -400 ≤ (μ.1 12 q 4).toInt ∧ (μ.1 12 q 4).toInt ≤ 2000 ∧ ∃ t a, t < N ∧ a < N ∧ is_t μ t ∧ is_a μ a ∧ q = 7 * t + a))
def iv_sl (N : Nat) (μ : mm_T) : Prop := ∀ k, k < 16 → μ.1 41 0 k = μ.1 18 0 k ∧ (μ.1 18 0 k = -1 ∨ ∃ t, t < N ∧ is_t μ t ∧ μ.1 18 0 k = nI t)
/-- the root, as a number -/
def rt_go (v : Nat) : Nat → Nat
  | 0 => 0
  | n + 1 => if (n + 1) * (n + 1) ≤ v then n + 1 else rt_go v n
def rt_ (v : Nat) : Nat := rt_go v 500
theorem rt_go_ok (v : Nat) : ∀ n, v < (n + 1) * (n + 1) → is_R v (rt_go v n)
  | 0, h => ⟨by simp [rt_go], by simpa [rt_go] using h⟩
  | n + 1, h => by
    unfold rt_go
    by_cases e : (n + 1) * (n + 1) ≤ v
    · rw [if_pos e]
      exact ⟨e, h⟩
    · rw [if_neg e]
      exact rt_go_ok v n (by omega)
theorem rt_ok {v : Nat} (h : v < 250000) : is_R v (rt_ v) := rt_go_ok v 500 (by omega)
theorem is_R_one {v a b : Nat} (ha : is_R v a) (hb : is_R v b) : a = b := by
  obtain ⟨a1, a2⟩ := ha
  obtain ⟨b1, b2⟩ := hb
  rcases Nat.lt_trichotomy a b with h | h | h
  · have : (a + 1) * (a + 1) ≤ b * b := Nat.mul_le_mul h h
    omega
  · exact h
  · have : (b + 1) * (b + 1) ≤ a * a := Nat.mul_le_mul h h
    omega
/-- a difference times itself -/
def sqd (a b : Nat) : Nat := if a ≤ b then (b - a) * (b - a) else (a - b) * (a - b)
theorem sqd_le {a b : Nat} (ha : a < 32) (hb : b < 32) : sqd a b ≤ 961 := by
  unfold sqd
  split
  · exact Nat.mul_le_mul (show b - a ≤ 31 by omega) (show b - a ≤ 31 by omega)
  · exact Nat.mul_le_mul (show a - b ≤ 31 by omega) (show a - b ≤ 31 by omega)
theorem sqd_I (a b : Nat) : (nI a - nI b) * (nI a - nI b) = nI (sqd a b) := by
  unfold sqd
  by_cases h : a ≤ b
  · rw [if_pos h]
    have e : nI a - nI b = -(nI (b - a)) := by
      rw [← pk_sub h]
      simp
    rw [e, Int32.neg_mul_neg, pk_mul]
  · rw [if_neg h, pk_sub (by omega), pk_mul]
theorem sqd_self (a : Nat) : sqd a a = 0 := by simp [sqd]
theorem sqd_cm (a b : Nat) : sqd a b = sqd b a := by
  unfold sqd
  by_cases h : a ≤ b
  · by_cases h2 : b ≤ a
    · have : a = b := by omega
      subst this
      rfl
    · rw [if_pos h, if_neg h2]
  · rw [if_neg h, if_pos (by omega)]
def nx_ (μ : mm_T) (i : Nat) : Nat := (μ.1 9 i 1).toNatClampNeg
def ny_ (μ : mm_T) (i : Nat) : Nat := (μ.1 9 i 2).toNatClampNeg
/-- the flight between two places, between two nodes -/
def fp_ (x y x2 y2 : Nat) : Nat := rt_ (100 * (sqd x x2 + sqd y y2))
def fl_ (μ : mm_T) (i j : Nat) : Nat := fp_ (nx_ μ i) (ny_ μ i) (nx_ μ j) (ny_ μ j)
theorem fp_le {x y x2 y2 : Nat} (h1 : x < 32) (h2 : y < 32) (h3 : x2 < 32) (h4 : y2 < 32) : fp_ x y x2 y2 ≤ 438 := by
  have a := sqd_le h1 h3
  have b := sqd_le h2 h4
  have h := rt_ok (v := 100 * (sqd x x2 + sqd y y2)) (by omega)
  unfold fp_
  rcases Nat.lt_or_ge 438 (rt_ (100 * (sqd x x2 + sqd y y2))) with q | q
  · have : 439 * 439 ≤ rt_ (100 * (sqd x x2 + sqd y y2)) * rt_ (100 * (sqd x x2 + sqd y y2)) := Nat.mul_le_mul q q
    have := h.1
    omega
  · exact q
/-- the latest exchange -/
def iv_la (N k : Nat) (μ : mm_T) : Prop := (μ.1 15 0 0 = 0 ∧ μ.1 26 0 20 = 0) ∨ (μ.1 15 0 0 = 1 ∧ μ.1 26 0 20 = 1 ∧ ∃ t a, t < N ∧ a < N ∧ is_t μ t ∧ is_a μ a ∧ μ.1 15 0 1 = nI t ∧ μ.1 26 0 21 = nI t ∧ μ.1 15 0 2 = nI a ∧ μ.1 26 0 22 = nI a ∧ (∀ j, 1 ≤ j → j ≤ 6 → μ.2 16 0 j = (μ.1 43 0 j).toInt64) ∧ μ.1 26 0 23 = μ.1 15 0 6 ∧ μ.1 26 0 24 = μ.1 15 0 7 ∧ μ.1 15 0 5 = nI (fl_ μ t a) ∧ (∃ T, T ≤ 9999999 + 2400 * k ∧ μ.2 15 0 3 = lN T ∧ μ.1 42 0 1 = nI T) ∧ ∃ T, T ≤ 9999999 + 2400 * k ∧ μ.2 15 0 4 = lN T ∧ μ.1 42 0 3 = nI T)
/-! ## where a tag is placed, as numbers: S a set of anchors by bits, p a place (32 * y + x), d p j the misfit at p by the anchor j -/
def df_ (μ : mm_T) (t p j : Nat) : Int := ((μ.1 12 (7 * t + j) 4).toInt - (fp_ (nx_ μ j) (ny_ μ j) (p % 32) (p / 32) : Int)) * ((μ.1 12 (7 * t + j) 4).toInt - (fp_ (nx_ μ j) (ny_ μ j) (p % 32) (p / 32) : Int))
def mf_ (d : Nat → Int) (S : Nat) : Nat → Int
  | 0 => 0
  | n + 1 => mf_ d S n + (if S.testBit n then d n else 0)
/-- the first place of least value among the first n + 1 -/
def am_ (g : Nat → Int) : Nat → Nat
  | 0 => 0
  | n + 1 => if g (n + 1) < g (am_ g n) then n + 1 else am_ g n
def ms_ (d : Nat → Nat → Int) (S p : Nat) : Int := mf_ (d p) S 7
def ft_ (d : Nat → Nat → Int) (S : Nat) : Nat := am_ (fun p => ms_ d S p) 1023
def lb_ (d : Nat → Nat → Int) (S : Nat) : Int := ms_ d S (ft_ d S)
def wo_ (S j : Nat) : Nat := if S.testBit j then S - 2 ^ j else S
/-- the first anchor of S without which the others fit best -/
def wf_ (d : Nat → Nat → Int) (S : Nat) : Nat → Option Nat
  | 0 => none
  | n + 1 => if S.testBit n then (match wf_ d S n with | none => some n | some b => if lb_ d (wo_ S n) < lb_ d (wo_ S b) then some n else some b) else wf_ d S n
def cn_ (S : Nat) : Nat → Nat
  | 0 => 0
  | n + 1 => cn_ S n + (if S.testBit n then 1 else 0)
def lf_ (d : Nat → Nat → Int) (lim : Int) : Nat → Nat → Nat
  | 0, S => S
  | n + 1, S => if 3 < cn_ S 7 ∧ lim < lb_ d S then (match wf_ d S 7 with | none => S | some b => lf_ d lim n (wo_ S b)) else S
def rs_ (g : Nat → Int32) : Nat → Nat
  | 0 => 0
  | n + 1 => rs_ g n + (if g n = 1 then 2 ^ n else 0)
/-- the anchors that have a range with tag t; those that are left -/
def ra_ (μ : mm_T) (N t : Nat) : Nat := rs_ (fun j => μ.1 12 (7 * t + j) 3) N
def lt_ (μ : mm_T) (N t : Nat) : Nat := lf_ (df_ μ t) (μ.1 6 0 4).toInt 7 (ra_ μ N t)
def iv_pl (N : Nat) (μ : mm_T) : Prop := ∀ t, t < N → is_t μ t → μ.1 10 t 0 = 0 ∨ (μ.1 10 t 0 = 1 ∧ μ.1 10 t 1 = nI (ft_ (df_ μ t) (lt_ μ N t) % 32) ∧ μ.1 10 t 2 = nI (ft_ (df_ μ t) (lt_ μ N t) / 32) ∧ (μ.1 10 t 3).toInt = lb_ (df_ μ t) (lt_ μ N t) ∧ μ.1 10 t 4 = nI (lt_ μ N t) ∧ μ.1 10 t 5 = nI (ra_ μ N t) &&& (nI (lt_ μ N t) ^^^ (-1 : Int32)))
theorem pl_c {μ μ2 : mm_T} {N : Nat} (h1 : ∀ q, μ2.1 12 q 3 = μ.1 12 q 3) (h2 : ∀ q, μ2.1 12 q 4 = μ.1 12 q 4) (h3 : ∀ i, μ2.1 9 i 1 = μ.1 9 i 1) (h4 : ∀ i, μ2.1 9 i 2 = μ.1 9 i 2) (h5 : μ2.1 6 0 4 = μ.1 6 0 4) (h6 : ∀ i, μ2.1 9 i 0 = μ.1 9 i 0) (h7 : ∀ t j, μ2.1 10 t j = μ.1 10 t j) (h : iv_pl N μ) : iv_pl N μ2 := by
  intro t ht hi
  have e1 : df_ μ2 t = df_ μ t := by
    funext p j
    simp only [df_, nx_, ny_, h2, h3, h4]
  have e2 : ra_ μ2 N t = ra_ μ N t := by
    simp only [ra_, h1]
  have e3 : lt_ μ2 N t = lt_ μ N t := by
    simp only [lt_, e1, e2, h5]
  rw [e1, e2, e3, h7, h7, h7, h7, h7, h7]
  exact h t ht (by unfold is_t at hi ⊢; rw [← h6]; exact hi)
/-- all that holds of a field of N nodes -/
def iv_fd (N k : Nat) (μ : mm_T) : Prop := iv_nd N μ ∧ iv_tg N μ ∧ iv_ta N μ ∧ iv_tm k μ ∧ iv_lv μ ∧ iv_lk N μ ∧ iv_sl N μ ∧ iv_pl N μ
def Inv_ (k : Nat) (μ : mm_T) : Prop := iv_pg μ ∧ iv_ct μ ∧ iv_sq μ ∧ ∃ N, N ≤ 7 ∧ μ.1 6 0 1 = nI N ∧ μ.1 26 0 2 = nI N ∧ iv_la N k μ ∧ (0 < N → iv_fd N k μ)
