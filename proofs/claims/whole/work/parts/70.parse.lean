/-! The text of a field, read: as numbers; by the class; by the model. -/
def fmi_ (P : Nat → Nat → Prop) (μ m : mm_T) : Prop := (∀ a b c, ¬ P a c → m.1 a b c = μ.1 a b c) ∧ m.2 = μ.2
theorem fmi_.rf {P : Nat → Nat → Prop} {μ : mm_T} : fmi_ P μ μ := ⟨fun _ _ _ _ => rfl, rfl⟩
theorem fmi_.tr {P : Nat → Nat → Prop} {μ m w : mm_T} (h : fmi_ P μ m) (g : fmi_ P m w) : fmi_ P μ w := ⟨fun a b c q => (g.1 a b c q).trans (h.1 a b c q), g.2.trans h.2⟩
theorem fmi_.I {P : Nat → Nat → Prop} {μ m : mm_T} (h : fmi_ P μ m) {f i j : Nat} {v : Int32} (hp : P f j) : fmi_ P μ (mm_I m f i j v) := ⟨fun a b c q => by rw [mm_Ir, if_neg (fun e => q (by rw [e.1, e.2.2]; exact hp))]; exact h.1 a b c q, h.2⟩
def pc_ (a _c : Nat) : Prop := a = 3 ∨ a = 5
def pm_ (a c : Nat) : Prop := (a = 26 ∧ 31 ≤ c ∧ c ≤ 35) ∨ (44 ≤ a ∧ a ≤ 48)
def rw_ (rows : Nat → Nat → Int32) (i j : Nat) (v : Int32) : Nat → Nat → Int32 := fun a b => if a = i ∧ b = j then v else rows a b
abbrev ps_T : Type := Nat × Nat × Nat × Nat × Int32 × (Nat → Nat → Int32)
def ps_go (c t p f : Nat) (ng : Int32) (rows : Nat → Nat → Int32) (l : Int32) : Option ps_T :=
  if p = 0 then (if l = 116 ∧ t < 4 then some (c, t + 1, 1, 0, ng, rw_ (rw_ rows c 0 1) c 1 0) else if l = 97 then some (c, t, 1, 0, ng, rw_ rows c 1 0) else none)
  else if 48 ≤ l ∧ l ≤ 57 then (if (0 < f ∧ rows c p = 0) ∨ mm_G p < 10 * rows c p + (l - 48) then none else some (c, t, p, f + 1, ng, rw_ rows c p (10 * rows c p + (l - 48))))
  else if f = 0 then none
  else if p = 1 then (if l = 44 then some (c, t, 2, 0, ng, rw_ rows c 2 0) else none)
  else if p = 2 then (if l = 43 ∨ l = 45 then some (c, t, 3, 0, (if l = 45 then 1 else 0), rw_ rows c 3 0) else none)
  else if p = 3 then (if l = 64 then some (c, t, 4, 0, ng, rw_ (if ng = 0 then rows else rw_ rows c 3 (-(rows c 3))) c 4 0) else none)
  else (if l = 59 ∧ c < 6 then some (c + 1, t, 0, 0, ng, rw_ rows (c + 1) 0 0) else none)
/-- what holds while reading -/
def gr_ (p : Nat) : Nat := if p = 3 then 99 else if p = 4 then 9999 else if p = 0 then 0 else 31
def tc_ (rows : Nat → Nat → Int32) : Nat → Nat
  | 0 => 0
  | n + 1 => tc_ rows n + (if rows n 0 = 1 then 1 else 0)
/-- a node's row, whole up to part p -/
def rok (rows : Nat → Nat → Int32) (i p : Nat) : Prop := (rows i 0 = 0 ∨ rows i 0 = 1) ∧ (1 < p → ∃ x, x < 32 ∧ rows i 1 = nI x) ∧ (2 < p → ∃ x, x < 32 ∧ rows i 2 = nI x) ∧ (3 < p → -99 ≤ (rows i 3).toInt ∧ (rows i 3).toInt ≤ 99) ∧ (4 < p → ∃ x, x < 10000 ∧ rows i 4 = nI x)
def pok (c t p f : Nat) (ng : Int32) (rows : Nat → Nat → Int32) : Prop := c ≤ 6 ∧ t ≤ 4 ∧ p ≤ 4 ∧ (∃ v, v ≤ gr_ p ∧ rows c p = nI v) ∧ (f = 0 → rows c p = 0) ∧ (ng = 0 ∨ ng = 1) ∧ (∀ i, i < c → rok rows i 5) ∧ rok rows c p ∧ t = tc_ rows (c + 1)
def Pc_ (c t p f : Nat) (ng : Int32) (rows : Nat → Nat → Int32) (μ : mm_T) : Prop := μ.1 3 0 1 = nI c ∧ μ.1 3 0 2 = nI t ∧ μ.1 3 0 3 = nI p ∧ μ.1 3 0 4 = nI f ∧ (p = 3 → μ.1 3 0 5 = ng) ∧ ∀ i j, (i < c ∧ j < 5) ∨ (i = c ∧ j ≤ p) → μ.1 5 i j = rows i j
def Pm_ (c t p f : Nat) (ng : Int32) (rows : Nat → Nat → Int32) (μ : mm_T) : Prop := μ.1 26 0 31 = nI p ∧ μ.1 26 0 34 = nI t ∧ μ.1 26 0 33 = nI (if p = 0 then c else c + 1) ∧ (p ≠ 0 → μ.1 26 0 32 = if f = 0 then -1 else rows c p) ∧ (p = 3 → μ.1 26 0 35 = ng) ∧ (∀ i, i < c ∨ (i = c ∧ 0 < p) → μ.1 44 0 i = rows i 0) ∧ (∀ i, i < c ∨ (i = c ∧ 1 < p) → μ.1 45 0 i = rows i 1) ∧ (∀ i, i < c ∨ (i = c ∧ 2 < p) → μ.1 46 0 i = rows i 2) ∧ (∀ i, i < c ∨ (i = c ∧ 3 < p) → μ.1 47 0 i = rows i 3) ∧ (∀ i, i < c → μ.1 48 0 i = rows i 4)
theorem mG_ : mm_G 0 = 0 ∧ mm_G 1 = 31 ∧ mm_G 2 = 31 ∧ mm_G 3 = 99 ∧ mm_G 4 = 9999 := by decide
theorem tc_c {rows rows2 : Nat → Nat → Int32} : ∀ n, (∀ i, i < n → rows2 i 0 = rows i 0) → tc_ rows2 n = tc_ rows n
  | 0, _ => rfl
  | n + 1, h => by
    unfold tc_
    rw [tc_c n (fun i hi => h i (by omega)), h n (by omega)]
theorem rok_c {rows rows2 : Nat → Nat → Int32} {i p : Nat} (h : ∀ j, j < p ∨ j = 0 → rows2 i j = rows i j) (g : rok rows i p) : rok rows2 i p := by
  obtain ⟨g0, g1, g2, g3, g4⟩ := g
  refine ⟨by rw [h 0 (by omega)]; exact g0, fun q => by rw [h 1 (by omega)]; exact g1 q, fun q => by rw [h 2 (by omega)]; exact g2 q, fun q => by rw [h 3 (by omega)]; exact g3 q, fun q => by rw [h 4 (by omega)]; exact g4 q⟩
theorem rw_n {rows : Nat → Nat → Int32} {i j a b : Nat} {v : Int32} (h : ¬ (a = i ∧ b = j)) : rw_ rows i j v a b = rows a b := if_neg h
theorem rw_y {rows : Nat → Nat → Int32} {i j : Nat} {v : Int32} : rw_ rows i j v i j = v := if_pos ⟨rfl, rfl⟩
/-- figures -/
theorem fig_ {l : Int32} (h : 48 ≤ l ∧ l ≤ 57) : ∃ d, d ≤ 9 ∧ l - 48 = nI d := by
  obtain ⟨k, hk, rfl⟩ := nI_of (x := l) (fun q => by
    have := Int32.lt_iff_toInt_lt.mp q
    have h2 := Int32.le_iff_toInt_le.mp h.1
    rw [show (0 : Int32).toInt = 0 by decide] at this
    rw [show (48 : Int32).toInt = 48 by decide] at h2
    omega)
  have h1 : 48 ≤ k := (nI_leI (a := 48) (by omega) hk).mp h.1
  have h2 : k ≤ 57 := (nI_leI (b := 57) hk (by omega)).mp h.2
  exact ⟨k - 48, by omega, pk_sub (b := 48) h1⟩
theorem mG_n {p : Nat} (h1 : p ≠ 0) (h2 : p ≤ 4) : mm_G p = nI (gr_ p) ∧ gr_ p ≤ 9999 ∧ 9 ≤ gr_ p := by
  rcases (show p = 1 ∨ p = 2 ∨ p = 3 ∨ p = 4 by omega) with rfl | rfl | rfl | rfl <;> exact ⟨by decide, by decide, by decide⟩
theorem pok_go {c t p f : Nat} {ng l : Int32} {rows : Nat → Nat → Int32} (h : pok c t p f ng rows) {c' t' p' f' : Nat} {ng' : Int32} {rows' : Nat → Nat → Int32} (g : ps_go c t p f ng rows l = some (c', t', p', f', ng', rows')) : pok c' t' p' f' ng' rows' ∧ f' ≤ f + 1 := by
  obtain ⟨h1, h2, h3, ⟨v, v1, v2⟩, h4, h5, h6, h7, h8⟩ := h
  have beg : ∀ (p2 : Nat) (ng2 : Int32) (r2 : Nat → Nat → Int32), 0 < p2 → p2 ≤ 4 → (ng2 = 0 ∨ ng2 = 1) → (∀ i, i < c → rok r2 i 5) → rok r2 c p2 → t = tc_ r2 (c + 1) → pok c t p2 0 ng2 (rw_ r2 c p2 0) := by
    intro p2 ng2 r2 b1 b2 b3 b4 b5 b6
    refine ⟨h1, h2, b2, ⟨0, by omega, rw_y⟩, fun _ => rw_y, b3, fun i hi => rok_c (fun j _ => rw_n (by omega)) (b4 i hi), rok_c (fun j hj => rw_n (by omega)) b5, ?_⟩
    rw [b6]
    exact (tc_c _ (fun i _ => rw_n (by omega))).symm
  unfold ps_go at g
  by_cases p0 : p = 0
  · subst p0
    rw [if_pos rfl] at g
    by_cases b : l = 116 ∧ t < 4
    · rw [if_pos b] at g
      cases g
      have r0 : rows c 0 = 0 := by
        have : v = 0 := by simpa [gr_] using v1
        rw [v2, this]
        rfl
      refine ⟨⟨h1, by omega, by omega, ⟨0, by decide, rw_y⟩, fun _ => rw_y, h5, fun i hi => rok_c (fun j _ => (rw_n (by omega)).trans (rw_n (by omega))) (h6 i hi), ⟨Or.inr ((rw_n (by omega)).trans rw_y), fun q => by omega, fun q => by omega, fun q => by omega, fun q => by omega⟩, ?_⟩, by omega⟩
      rw [h8]
      unfold tc_
      rw [r0, if_neg (by decide), tc_c (rows := rows) c (fun i hi => (rw_n (by omega)).trans (rw_n (by omega))), rw_n (by omega), rw_y, if_pos rfl]
    · rw [if_neg b] at g
      by_cases b2 : l = 97
      · rw [if_pos b2] at g
        cases g
        exact ⟨beg 1 ng rows (by omega) (by omega) h5 h6 ⟨h7.1, fun q => by omega, fun q => by omega, fun q => by omega, fun q => by omega⟩ h8, by omega⟩
      · rw [if_neg b2] at g
        cases g
  rw [if_neg p0] at g
  by_cases bf : 48 ≤ l ∧ l ≤ 57
  · rw [if_pos bf] at g
    obtain ⟨d, d1, d2⟩ := fig_ bf
    obtain ⟨G1, G2, G3⟩ := mG_n p0 h3
    have e10 : 10 * rows c p + (l - 48) = nI (10 * v + d) := by rw [v2, d2, show (10 : Int32) = nI 10 from rfl, pk_mul, nI_add]
    rw [e10] at g
    by_cases b : (0 < f ∧ rows c p = 0) ∨ mm_G p < nI (10 * v + d)
    · rw [if_pos b] at g
      cases g
    · rw [if_neg b] at g
      cases g
      have b2 : 10 * v + d ≤ gr_ p := by
        refine Nat.le_of_not_lt (fun q => b (Or.inr ?_))
        rw [G1]
        exact nI_lt q (by omega)
      refine ⟨⟨h1, h2, h3, ⟨10 * v + d, b2, rw_y⟩, fun q => by omega, h5, fun i hi => rok_c (fun j _ => rw_n (by omega)) (h6 i hi), rok_c (fun j hj => rw_n (by omega)) h7, ?_⟩, by omega⟩
      rw [h8]
      exact (tc_c _ (fun i _ => rw_n (by omega))).symm
  rw [if_neg bf] at g
  by_cases f0 : f = 0
  · rw [if_pos f0] at g
    cases g
  rw [if_neg f0] at g
  by_cases p1 : p = 1
  · subst p1
    rw [if_pos rfl] at g
    by_cases b : l = 44
    · rw [if_pos b] at g
      cases g
      exact ⟨beg 2 ng rows (by omega) (by omega) h5 h6 ⟨h7.1, fun _ => ⟨v, by have : v ≤ 31 := v1; omega, v2⟩, fun q => by omega, fun q => by omega, fun q => by omega⟩ h8, by omega⟩
    · rw [if_neg b] at g
      cases g
  rw [if_neg p1] at g
  by_cases p2 : p = 2
  · subst p2
    rw [if_pos rfl] at g
    by_cases b : l = 43 ∨ l = 45
    · rw [if_pos b] at g
      cases g
      refine ⟨beg 3 _ rows (by omega) (by omega) ?_ h6 ⟨h7.1, fun _ => h7.2.1 (by omega), fun _ => ⟨v, by have : v ≤ 31 := v1; omega, v2⟩, fun q => by omega, fun q => by omega⟩ h8, by omega⟩
      by_cases q : l = 45
      · rw [if_pos q]; exact Or.inr rfl
      · rw [if_neg q]; exact Or.inl rfl
    · rw [if_neg b] at g
      cases g
  rw [if_neg p2] at g
  by_cases p3 : p = 3
  · subst p3
    rw [if_pos rfl] at g
    by_cases b : l = 64
    · rw [if_pos b] at g
      cases g
      have v99 : v ≤ 99 := v1
      have tv : (rows c 3).toInt = v := by rw [v2]; exact nI_toInt (by omega)
      by_cases q : ng = 0
      · rw [if_pos q]
        exact ⟨beg 4 ng rows (by omega) (by omega) h5 h6 ⟨h7.1, fun _ => h7.2.1 (by omega), fun _ => h7.2.2.1 (by omega), fun _ => by omega, fun q => by omega⟩ h8, by omega⟩
      · rw [if_neg q]
        have tn : (-(rows c 3)).toInt = -v := by
          rw [v2, oI_n, ← Int32.ofInt_neg, oI_T (by omega) (by omega)]
        refine ⟨beg 4 ng _ (by omega) (by omega) h5 (fun i hi => rok_c (fun j _ => rw_n (by omega)) (h6 i hi)) ⟨by rw [rw_n (by omega)]; exact h7.1, fun _ => by rw [rw_n (by omega)]; exact h7.2.1 (by omega), fun _ => by rw [rw_n (by omega)]; exact h7.2.2.1 (by omega), fun _ => by rw [rw_y, tn]; omega, fun q => by omega⟩ ?_, by omega⟩
        rw [h8]
        exact (tc_c _ (fun i _ => rw_n (by omega))).symm
    · rw [if_neg b] at g
      cases g
  rw [if_neg p3] at g
  have p4 : p = 4 := by omega
  subst p4
  by_cases b : l = 59 ∧ c < 6
  · rw [if_pos b] at g
    cases g
    have v9 : v ≤ 9999 := v1
    refine ⟨⟨by omega, h2, by omega, ⟨0, by omega, rw_y⟩, fun _ => rw_y, h5, fun i hi => ?_, ⟨Or.inl rw_y, fun q => by omega, fun q => by omega, fun q => by omega, fun q => by omega⟩, ?_⟩, by omega⟩
    · refine rok_c (rows := rows) (fun j _ => rw_n (by omega)) ?_
      by_cases e : i = c
      · subst e
        exact ⟨h7.1, fun _ => h7.2.1 (by omega), fun _ => h7.2.2.1 (by omega), fun _ => h7.2.2.2.1 (by omega), fun _ => ⟨v, by omega, v2⟩⟩
      · exact h6 i (by omega)
    · show t = tc_ _ (c + 1) + (if _ = 1 then 1 else 0)
      rw [tc_c (rows := rows) (c + 1) (fun i hi => rw_n (by omega)), rw_y, if_neg (by decide), ← h8]
      rfl
  · rw [if_neg b] at g
    cases g
