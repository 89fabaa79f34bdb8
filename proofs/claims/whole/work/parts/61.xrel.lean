/-! What changes in an exchange, kept apart from what stays. -/
def fm_ (P : Nat → Nat → Prop) (μ μ2 : mm_T) : Prop := (∀ a b c, ¬ P a c → μ2.1 a b c = μ.1 a b c) ∧ ∀ a b c, ¬ P a c → μ2.2 a b c = μ.2 a b c
section FR
variable {P Q : Nat → Nat → Prop} {μ μ2 μ3 : mm_T}
theorem fm_.rf : fm_ P μ μ := ⟨fun _ _ _ _ => rfl, fun _ _ _ _ => rfl⟩
theorem fm_.tr (h : fm_ P μ μ2) (g : fm_ P μ2 μ3) : fm_ P μ μ3 := ⟨fun a b c q => (g.1 a b c q).trans (h.1 a b c q), fun a b c q => (g.2 a b c q).trans (h.2 a b c q)⟩
theorem fm_.mono (h : fm_ P μ μ2) (hq : ∀ a c, P a c → Q a c) : fm_ Q μ μ2 := ⟨fun a b c q => h.1 a b c (fun p => q (hq a c p)), fun a b c q => h.2 a b c (fun p => q (hq a c p))⟩
theorem fm_.I (h : fm_ P μ μ2) {f i j : Nat} {v : Int32} (hp : P f j) : fm_ P μ (mm_I μ2 f i j v) := ⟨fun a b c q => by rw [mm_Ir, if_neg (fun e => q (by rw [e.1, e.2.2]; exact hp))]; exact h.1 a b c q, fun a b c q => h.2 a b c q⟩
theorem fm_.L (h : fm_ P μ μ2) {f i j : Nat} {v : Int64} (hp : P f j) : fm_ P μ (mm_L μ2 f i j v) := ⟨fun a b c q => h.1 a b c q, fun a b c q => by rw [mm_Lr, if_neg (fun e => q (by rw [e.1, e.2.2]; exact hp))]; exact h.2 a b c q⟩
end FR
/-- what the class's exchange touches; the model's; both -/
def xc_ (a c : Nat) : Prop := a = 15 ∨ a = 16 ∨ (a = 6 ∧ c = 2) ∨ (a = 12 ∧ (c = 3 ∨ c = 4)) ∨ (a = 10 ∧ c = 0) ∨ (a = 0 ∧ (c = 3 ∨ c = 4)) ∨ (a = 9 ∧ c = 7)
def xm_ (a c : Nat) : Prop := a = 42 ∨ a = 43 ∨ a = 39 ∨ a = 40 ∨ a = 35 ∨ (a = 26 ∧ (c = 17 ∨ (20 ≤ c ∧ c ≤ 24) ∨ c = 27 ∨ c = 28))
def xp_ (a c : Nat) : Prop := xc_ a c ∨ xm_ a c
def xc0_ (a c : Nat) : Prop := xc_ a c ∧ a ≠ 9
theorem x0c {μ μ2 : mm_T} (h : fm_ xc0_ μ μ2) : fm_ xc_ μ μ2 := h.mono fun _ _ q => q.1
theorem xp_c {μ μ2 : mm_T} (h : fm_ xc_ μ μ2) : fm_ xp_ μ μ2 := h.mono fun _ _ q => Or.inl q
theorem xp_m {μ μ2 : mm_T} (h : fm_ xm_ μ μ2) : fm_ xp_ μ μ2 := h.mono fun _ _ q => Or.inr q
/-- what stays -/
def Sx_ (N : Nat) (μ : mm_T) : Prop := iv_nd N μ ∧ iv_sq μ ∧ pt_ μ ∧ N ≤ 7 ∧ μ.1 6 0 1 = nI N ∧ μ.1 26 0 2 = nI N
section SX
variable {N : Nat} {μ μ2 : mm_T}
theorem x_9 (h : fm_ xp_ μ μ2) : ∀ i c, c ≠ 7 → μ2.1 9 i c = μ.1 9 i c := fun i c hc => h.1 9 i c (by unfold xp_ xc_ xm_; omega)
theorem x_o (h : fm_ xp_ μ μ2) (a : Nat) (ha : a = 13 ∨ a = 14 ∨ a = 18 ∨ a = 20 ∨ a = 28 ∨ a = 29 ∨ a = 30 ∨ a = 31 ∨ a = 32 ∨ a = 33 ∨ a = 34 ∨ a = 36 ∨ a = 37 ∨ a = 38 ∨ a = 41 ∨ a = 1 ∨ a = 2 ∨ a = 27) : ∀ b c, μ2.1 a b c = μ.1 a b c := fun b c => h.1 a b c (by unfold xp_ xc_ xm_; omega)
theorem x_12 (h : fm_ xp_ μ μ2) (q : Nat) : μ2.1 12 q 2 = μ.1 12 q 2 := h.1 12 q 2 (by unfold xp_ xc_ xm_; omega)
theorem x_6 (h : fm_ xp_ μ μ2) (c : Nat) (hc : c ≠ 2) : μ2.1 6 0 c = μ.1 6 0 c := h.1 6 0 c (by unfold xp_ xc_ xm_; omega)
theorem x_26 (h : fm_ xp_ μ μ2) (c : Nat) (hc : c = 0 ∨ c = 2 ∨ c = 18 ∨ c = 19 ∨ c = 29 ∨ c = 30) : μ2.1 26 0 c = μ.1 26 0 c := h.1 26 0 c (by unfold xp_ xc_ xm_; omega)
theorem x_np (h : fm_ xp_ μ μ2) : np_ μ2 = np_ μ := by
  funext q
  unfold np_
  rw [x_12 h]
theorem x_fe (h : fm_ xp_ μ μ2) : fe_ μ2 = fe_ μ := by
  have e : ∀ q n, fx_ μ2 q n = fx_ μ q n := by
    intro q n
    induction n with
    | zero => rfl
    | succ n ih => simp only [fx_, ih, x_o h 13 (by omega), x_o h 14 (by omega), x_6 h 3 (by omega)]
  funext q
  unfold fe_
  rw [e, x_np h]
theorem x_ck (h : fm_ xp_ μ μ2) : ck_ μ2 = ck_ μ := by
  funext i T
  simp only [ck_, x_9 h i 3 (by omega), x_9 h i 4 (by omega)]
theorem x_fl (h : fm_ xp_ μ μ2) : fl_ μ2 = fl_ μ := by
  funext i j
  simp only [fl_, nx_, ny_, x_9 h _ 1 (by omega), x_9 h _ 2 (by omega)]
theorem x_tt (h : fm_ xp_ μ μ2) : tt_ μ2 = tt_ μ := by
  funext t a T j
  simp only [tt_, wy_, dl_, x_fe h, x_fl h, x_9 h _ 5 (by omega)]
theorem x_sc (h : fm_ xp_ μ μ2) : sc_ μ2 = sc_ μ := by
  funext t a T j
  simp only [sc_, x_ck h, x_tt h]
theorem x_one (h : fm_ xp_ μ μ2) : one_ μ2 = one_ μ := by
  funext t a T
  simp only [one_, x_sc h]
theorem x_two (h : fm_ xp_ μ μ2) : two_ μ2 = two_ μ := by
  funext t a T
  simp only [two_, x_sc h]
theorem x_t (h : fm_ xp_ μ μ2) (i : Nat) : is_t μ2 i ↔ is_t μ i := by
  unfold is_t
  rw [x_9 h i 0 (by omega)]
theorem x_a (h : fm_ xp_ μ μ2) (i : Nat) : is_a μ2 i ↔ is_a μ i := by
  unfold is_a
  rw [x_9 h i 0 (by omega)]
theorem x_nd (h : fm_ xp_ μ μ2) (hd : iv_nd N μ) : iv_nd N μ2 := by
  simpa only [iv_nd, x_9 h _ 0 (by omega), x_9 h _ 1 (by omega), x_9 h _ 2 (by omega), x_9 h _ 3 (by omega), x_9 h _ 4 (by omega), x_9 h _ 5 (by omega), x_o h 28 (by omega), x_o h 29 (by omega), x_o h 30 (by omega), x_o h 31 (by omega), x_o h 32 (by omega), x_o h 33 (by omega)] using hd
theorem Sx_fr (h : fm_ xp_ μ μ2) (g : Sx_ N μ) : Sx_ N μ2 := by
  obtain ⟨g1, g2, g3, g4, g5, g6⟩ := g
  refine ⟨x_nd h g1, by simpa only [iv_sq, x_o h 20 (by omega)] using g2, ?_, g4, by rw [x_6 h 1 (by omega)]; exact g5, by rw [x_26 h 2 (by omega)]; exact g6⟩
  simpa only [pt_, iv_lv, x_np h, x_12 h, x_6 h 3 (by omega), x_6 h 4 (by omega), x_26 h 18 (by omega), x_26 h 19 (by omega), x_o h 13 (by omega), x_o h 14 (by omega), x_o h 36 (by omega), x_o h 37 (by omega), x_o h 38 (by omega)] using g3
end SX
/-- the clause of the placings, for one tag -/
def pl1 (N t : Nat) (μ : mm_T) : Prop := μ.1 10 t 0 = 0 ∨ (μ.1 10 t 0 = 1 ∧ μ.1 10 t 1 = nI (ft_ (df_ μ t) (lt_ μ N t) % 32) ∧ μ.1 10 t 2 = nI (ft_ (df_ μ t) (lt_ μ N t) / 32) ∧ (μ.1 10 t 3).toInt = lb_ (df_ μ t) (lt_ μ N t) ∧ μ.1 10 t 4 = nI (lt_ μ N t) ∧ μ.1 10 t 5 = nI (ra_ μ N t) &&& (nI (lt_ μ N t) ^^^ (-1 : Int32)))
section PC
variable {d e : Nat → Nat → Int}
theorem ms_c (h : ∀ p j, j < 7 → d p j = e p j) : ms_ d = ms_ e := by
  funext S p
  have k : ∀ n, n ≤ 7 → mf_ (d p) S n = mf_ (e p) S n := by
    intro n
    induction n with
    | zero => intro _; rfl
    | succ n ih => intro hn; simp only [mf_, ih (by omega), h p n (by omega)]
  exact k 7 (by omega)
theorem ft_c (h : ms_ d = ms_ e) : ft_ d = ft_ e := by
  funext S
  simp only [ft_, h]
theorem lb_c (h : ms_ d = ms_ e) : lb_ d = lb_ e := by
  funext S
  simp only [lb_, ft_c h, h]
theorem wf_c (h : ms_ d = ms_ e) : ∀ S n, wf_ d S n = wf_ e S n := by
  intro S n
  induction n with
  | zero => rfl
  | succ n ih => simp only [wf_, ih, lb_c h]
theorem lf_c (h : ms_ d = ms_ e) (l : Int) : ∀ n S, lf_ d l n S = lf_ e l n S := by
  intro n
  induction n with
  | zero => intro S; rfl
  | succ n ih => intro S; simp only [lf_, lb_c h, wf_c h, ih]
theorem rs_c {f g : Nat → Int32} : ∀ n, (∀ j, j < n → f j = g j) → rs_ f n = rs_ g n := by
  intro n
  induction n with
  | zero => intro _; rfl
  | succ n ih => intro h; simp only [rs_, ih (fun j hj => h j (by omega)), h n (by omega)]
end PC
theorem pl_1 {μ μ2 : mm_T} {N t : Nat} (h7 : N ≤ 7) (h1 : ∀ j, j < 7 → μ2.1 12 (7 * t + j) 3 = μ.1 12 (7 * t + j) 3) (h2 : ∀ j, j < 7 → μ2.1 12 (7 * t + j) 4 = μ.1 12 (7 * t + j) 4) (h3 : ∀ i, μ2.1 9 i 1 = μ.1 9 i 1) (h4 : ∀ i, μ2.1 9 i 2 = μ.1 9 i 2) (h5 : μ2.1 6 0 4 = μ.1 6 0 4) (h6 : ∀ j, μ2.1 10 t j = μ.1 10 t j) (h : pl1 N t μ) : pl1 N t μ2 := by
  have e1 : ms_ (df_ μ2 t) = ms_ (df_ μ t) := ms_c (fun p j hj => by simp only [df_, nx_, ny_, h2 j hj, h3, h4])
  have e2 : ra_ μ2 N t = ra_ μ N t := rs_c N (fun j hj => h1 j (by omega))
  have e3 : lt_ μ2 N t = lt_ μ N t := by
    unfold lt_
    rw [lf_c e1, e2, h5]
  unfold pl1
  rw [ft_c e1, lb_c e1, e2, e3, h6, h6, h6, h6, h6, h6]
  exact h
/-- what changes: time, latest, ranges, counts, nexts -/
abbrev xl_T : Type := Nat × Nat × Nat × Nat × (Nat → Int32) × Int32 × Int32
abbrev xs_T : Type := Nat × Option xl_T × (Nat → Int32) × (Nat → Int32) × Int32 × Int32 × (Nat → Nat)
def Lc_ (μ : mm_T) : Option xl_T → Prop
  | none => μ.1 15 0 0 = 0
  | some l => μ.1 15 0 0 = 1 ∧ μ.1 15 0 1 = nI l.1 ∧ μ.1 15 0 2 = nI l.2.1 ∧ μ.2 15 0 3 = lN l.2.2.1 ∧ μ.2 15 0 4 = lN l.2.2.2.1 ∧ (∀ j, 1 ≤ j → j ≤ 6 → μ.2 16 0 j = (l.2.2.2.2.1 j).toInt64) ∧ μ.1 15 0 6 = l.2.2.2.2.2.1 ∧ μ.1 15 0 7 = l.2.2.2.2.2.2 ∧ μ.1 15 0 5 = nI (fl_ μ l.1 l.2.1)
def Lm_ (μ : mm_T) : Option xl_T → Prop
  | none => μ.1 26 0 20 = 0
  | some l => μ.1 26 0 20 = 1 ∧ μ.1 26 0 21 = nI l.1 ∧ μ.1 26 0 22 = nI l.2.1 ∧ μ.1 42 0 1 = nI l.2.2.1 ∧ μ.1 42 0 3 = nI l.2.2.2.1 ∧ (∀ j, 1 ≤ j → j ≤ 6 → μ.1 43 0 j = l.2.2.2.2.1 j) ∧ μ.1 26 0 23 = l.2.2.2.2.2.1 ∧ μ.1 26 0 24 = l.2.2.2.2.2.2
def Rc_ (N : Nat) (X : xs_T) (μ : mm_T) : Prop := μ.2 6 0 2 = lN X.1 ∧ Lc_ μ X.2.1 ∧ (∀ q, q < 49 → μ.1 12 q 3 = X.2.2.1 q ∧ μ.1 12 q 4 = X.2.2.2.1 q) ∧ μ.1 0 0 3 = X.2.2.2.2.1 ∧ μ.1 0 0 4 = X.2.2.2.2.2.1 ∧ ∀ i, i < N → is_t μ i → μ.1 9 i 7 = nI (X.2.2.2.2.2.2 i)
def Rm_ (N : Nat) (X : xs_T) (μ : mm_T) : Prop := μ.1 26 0 17 = nI X.1 ∧ Lm_ μ X.2.1 ∧ (∀ q, q < 49 → μ.1 39 0 q = X.2.2.1 q ∧ (X.2.2.1 q = 1 → μ.1 40 0 q = X.2.2.2.1 q)) ∧ μ.1 26 0 27 = X.2.2.2.2.1 ∧ μ.1 26 0 28 = X.2.2.2.2.2.1 ∧ ∀ i, i < N → is_t μ i → μ.1 35 0 i = nI (X.2.2.2.2.2.2 i)
/-- that it may be so: bounds -/
def Xv_ (N b : Nat) (μ : mm_T) (X : xs_T) : Prop := X.1 ≤ b ∧ (∀ l, X.2.1 = some l → l.1 < N ∧ l.2.1 < N ∧ is_t μ l.1 ∧ is_a μ l.2.1 ∧ l.2.2.1 ≤ b ∧ l.2.2.2.1 ≤ b) ∧ (∀ q, q < 49 → (X.2.2.1 q = 0 ∧ X.2.2.2.1 q = -1) ∨ (X.2.2.1 q = 1 ∧ -400 ≤ (X.2.2.2.1 q).toInt ∧ (X.2.2.2.1 q).toInt ≤ 2000 ∧ ∃ t a, t < N ∧ a < N ∧ is_t μ t ∧ is_a μ a ∧ q = 7 * t + a)) ∧ ∀ i, i < N → is_t μ i → X.2.2.2.2.2.2 i < N ∧ is_a μ (X.2.2.2.2.2.2 i)
/-- an exchange -/
def xn_ (μ : mm_T) (X : xs_T) (t a : Nat) : xs_T := if fe_ μ (7 * t + a) = -1 then (X.1 + 1, X.2.1, X.2.2.1, X.2.2.2.1, X.2.2.2.2.1 + 1, X.2.2.2.2.2.1 + 1, X.2.2.2.2.2.2) else (tt_ μ t a X.1 6 + 10, some (t, a, X.1, tt_ μ t a X.1 3, fun j => Int32.ofInt (sc_ μ t a X.1 j), Int32.ofInt (one_ μ t a X.1), Int32.ofInt (two_ μ t a X.1)), fun q => if q = 7 * t + a then 1 else X.2.2.1 q, fun q => if q = 7 * t + a then Int32.ofInt (two_ μ t a X.1) else X.2.2.2.1 q, X.2.2.2.2.1 + 1, X.2.2.2.2.2.1, X.2.2.2.2.2.2)
def xv_ (μ : mm_T) (X : xs_T) (t a : Nat) : Int32 := if fe_ μ (7 * t + a) = -1 then -1000005 else Int32.ofInt (two_ μ t a X.1)
theorem Lc_fr {μ μ2 : mm_T} (h : fm_ xm_ μ μ2) (l : Option xl_T) (g : Lc_ μ l) : Lc_ μ2 l := by
  have e : ∀ c, μ2.1 15 0 c = μ.1 15 0 c := fun c => h.1 15 0 c (by unfold xm_; omega)
  have e1 : ∀ c, μ2.2 15 0 c = μ.2 15 0 c := fun c => h.2 15 0 c (by unfold xm_; omega)
  have e2 : ∀ c, μ2.2 16 0 c = μ.2 16 0 c := fun c => h.2 16 0 c (by unfold xm_; omega)
  cases l with
  | none => simpa only [Lc_, e] using g
  | some l => simpa only [Lc_, e, e1, e2, x_fl (xp_m h)] using g
theorem Rc_fr {N : Nat} {X : xs_T} {μ μ2 : mm_T} (h : fm_ xm_ μ μ2) (g : Rc_ N X μ) : Rc_ N X μ2 := by
  obtain ⟨g1, g2, g3, g4, g5, g6⟩ := g
  refine ⟨by rw [h.2 6 0 2 (by unfold xm_; omega)]; exact g1, Lc_fr h _ g2, fun q hq => ?_, by rw [h.1 0 0 3 (by unfold xm_; omega)]; exact g4, by rw [h.1 0 0 4 (by unfold xm_; omega)]; exact g5, fun i hi ht => ?_⟩
  · rw [h.1 12 q 3 (by unfold xm_; omega), h.1 12 q 4 (by unfold xm_; omega)]
    exact g3 q hq
  · rw [h.1 9 i 7 (by unfold xm_; omega)]
    exact g6 i hi ((x_t (xp_m h) i).mp ht)
theorem Lm_fr {μ μ2 : mm_T} (h : fm_ xc_ μ μ2) (l : Option xl_T) (g : Lm_ μ l) : Lm_ μ2 l := by
  have e : ∀ c, μ2.1 26 0 c = μ.1 26 0 c := fun c => h.1 26 0 c (by unfold xc_; omega)
  have e1 : ∀ c, μ2.1 42 0 c = μ.1 42 0 c := fun c => h.1 42 0 c (by unfold xc_; omega)
  have e2 : ∀ c, μ2.1 43 0 c = μ.1 43 0 c := fun c => h.1 43 0 c (by unfold xc_; omega)
  cases l with
  | none => simpa only [Lm_, e] using g
  | some l => simpa only [Lm_, e, e1, e2] using g
theorem Rm_fr {N : Nat} {X : xs_T} {μ μ2 : mm_T} (h : fm_ xc_ μ μ2) (g : Rm_ N X μ) : Rm_ N X μ2 := by
  obtain ⟨g1, g2, g3, g4, g5, g6⟩ := g
  have e : ∀ c, μ2.1 26 0 c = μ.1 26 0 c := fun c => h.1 26 0 c (by unfold xc_; omega)
  refine ⟨by rw [e]; exact g1, Lm_fr h _ g2, fun q hq => ?_, by rw [e]; exact g4, by rw [e]; exact g5, fun i hi ht => ?_⟩
  · rw [h.1 39 0 q (by unfold xc_; omega), h.1 40 0 q (by unfold xc_; omega)]
    exact g3 q hq
  · rw [h.1 35 0 i (by unfold xc_; omega)]
    exact g6 i hi ((x_t (xp_c h) i).mp ht)
theorem Xv_fr {N b : Nat} {X : xs_T} {μ μ2 : mm_T} (h : fm_ xp_ μ μ2) (g : Xv_ N b μ X) : Xv_ N b μ2 X := by
  simpa only [Xv_, x_t h, x_a h] using g
