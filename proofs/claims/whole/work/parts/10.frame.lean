/-! The heap of the law as a memory: mm_T holds what each int-like and each long place of each cell holds, by (family, index, place); where references lead is fixed (mm_rt). -/
abbrev mm_T : Type := (Nat → Nat → Nat → Int32) × (Nat → Nat → Nat → Int64)
def mm_I (μ : mm_T) (f i j : Nat) (v : Int32) : mm_T := (fun a b => if a = f ∧ b = i then upd (μ.1 f i) j v else μ.1 a b, μ.2)
def mm_L (μ : mm_T) (f i j : Nat) (v : Int64) : mm_T := (μ.1, fun a b => if a = f ∧ b = i then vp_updL (μ.2 f i) j v else μ.2 a b)
def mm_bs (f : Nat) : Nat := ([0, 1, 2, 3, 4, 5, 12, 13, 14, 15, 16, 29, 30, 31, 32, 177, 178, 179, 180, 181, 182, 183, 184, 185, 186, 187, 188, 189, 190, 191, 192, 193, 194, 195, 196, 197, 198, 199, 200, 201, 202, 203, 204, 205, 206, 207, 208, 209, 210] : List Nat).getD f 0
def mm_sd (f : Nat) : Nat := ([0, 0, 0, 0, 0, 1, 0, 0, 0, 2, 2, 0, 3, 3, 3, 0, 0, 0, 0, 0, 0, 0, 0, 0, 0, 0, 0, 0, 0, 0, 0, 0, 0, 0, 0, 0, 0, 0, 0, 0, 0, 0, 0, 0, 0, 0, 0, 0, 0] : List Nat).getD f 0
def mm_cl : List Nat := [1, 1, 1, 1, 1, 7, 1, 1, 1, 7, 7, 1, 49, 49, 49, 1, 1, 1, 1, 1, 1, 1, 1, 1, 1, 1, 1, 1, 1, 1, 1, 1, 1, 1, 1, 1, 1, 1, 1, 1, 1, 1, 1, 1, 1, 1, 1, 1, 1]
def mm_cn (f : Nat) : Nat := mm_cl.getD f 0
def mm_ad (f i : Nat) : Nat := mm_bs f + mm_sd f * i
def mm_ft : List (Nat × Nat) := [(0, 0), (1, 0), (2, 0), (3, 0), (4, 0), (5, 0), (5, 1), (5, 2), (5, 3), (5, 4), (5, 5), (5, 6), (6, 0), (7, 0), (8, 0), (9, 0), (10, 0), (9, 1), (10, 1), (9, 2), (10, 2), (9, 3), (10, 3), (9, 4), (10, 4), (9, 5), (10, 5), (9, 6), (10, 6), (11, 0), (12, 0), (13, 0), (14, 0), (12, 1), (13, 1), (14, 1), (12, 2), (13, 2), (14, 2), (12, 3), (13, 3), (14, 3), (12, 4), (13, 4), (14, 4), (12, 5), (13, 5), (14, 5), (12, 6), (13, 6), (14, 6), (12, 7), (13, 7), (14, 7), (12, 8), (13, 8), (14, 8), (12, 9), (13, 9), (14, 9), (12, 10), (13, 10), (14, 10), (12, 11), (13, 11), (14, 11), (12, 12), (13, 12), (14, 12), (12, 13), (13, 13), (14, 13), (12, 14), (13, 14), (14, 14), (12, 15), (13, 15), (14, 15), (12, 16), (13, 16), (14, 16), (12, 17), (13, 17), (14, 17), (12, 18), (13, 18), (14, 18), (12, 19), (13, 19), (14, 19), (12, 20), (13, 20), (14, 20), (12, 21), (13, 21), (14, 21), (12, 22), (13, 22), (14, 22), (12, 23), (13, 23), (14, 23), (12, 24), (13, 24), (14, 24), (12, 25), (13, 25), (14, 25), (12, 26), (13, 26), (14, 26), (12, 27), (13, 27), (14, 27), (12, 28), (13, 28), (14, 28), (12, 29), (13, 29), (14, 29), (12, 30), (13, 30), (14, 30), (12, 31), (13, 31), (14, 31), (12, 32), (13, 32), (14, 32), (12, 33), (13, 33), (14, 33), (12, 34), (13, 34), (14, 34), (12, 35), (13, 35), (14, 35), (12, 36), (13, 36), (14, 36), (12, 37), (13, 37), (14, 37), (12, 38), (13, 38), (14, 38), (12, 39), (13, 39), (14, 39), (12, 40), (13, 40), (14, 40), (12, 41), (13, 41), (14, 41), (12, 42), (13, 42), (14, 42), (12, 43), (13, 43), (14, 43), (12, 44), (13, 44), (14, 44), (12, 45), (13, 45), (14, 45), (12, 46), (13, 46), (14, 46), (12, 47), (13, 47), (14, 47), (12, 48), (13, 48), (14, 48), (15, 0), (16, 0), (17, 0), (18, 0), (19, 0), (20, 0), (21, 0), (22, 0), (23, 0), (24, 0), (25, 0), (26, 0), (27, 0), (28, 0), (29, 0), (30, 0), (31, 0), (32, 0), (33, 0), (34, 0), (35, 0), (36, 0), (37, 0), (38, 0), (39, 0), (40, 0), (41, 0), (42, 0), (43, 0), (44, 0), (45, 0), (46, 0), (47, 0), (48, 0)]
def mm_kd (f : Nat) : Nat × Nat := ([(0, 10), (0, 6), (1, 110), (0, 8), (7, 7), (1, 5), (0, 0), (5, 7), (6, 7), (0, 5), (0, 7), (4, 49), (0, 4), (1, 6), (1, 6), (0, 3), (2, 7), (0, 9), (1, 16), (0, 2), (1, 1923), (0, 1), (1, 7), (1, 7), (1, 7), (1, 1024), (0, 11), (1, 110), (3, 7), (1, 7), (1, 7), (1, 7), (1, 7), (1, 7), (1, 7), (1, 7), (1, 49), (1, 294), (1, 294), (3, 49), (1, 49), (1, 16), (1, 7), (1, 7), (3, 7), (1, 7), (1, 7), (1, 7), (1, 7)] : List (Nat × Nat)).getD f (0, 0)
def mm_st (ci j : Nat) : Nat := (([[2, 0, 1, 0, 0, 2, 2, 2, 2, 2, 2], [2, 2, 2, 2, 0, 2], [2], [0, 0, 0, 1, 1, 0, 0, 0, 2], [2, 2, 0, 0, 0], [0, 0, 0, 0, 0, 0, 0, 0], [2, 0], [0, 0, 0, 0, 0, 0], [2, 0, 0, 0, 0, 0], [2], [2, 2, 2, 0, 0, 0, 0], [0, 2, 0, 2, 2, 2, 2, 2, 2, 2, 2, 2, 2, 2, 2, 2, 2, 0, 0, 0, 0, 0, 0, 0, 0, 2, 2, 0, 0, 0, 0, 0, 0, 0, 0, 0, 2, 2, 2, 2, 2, 1]] : List (List Nat)).getD ci []).getD j 0
def mm_ns (ci : Nat) : Nat := ([11, 6, 1, 9, 5, 8, 2, 6, 6, 1, 7, 42] : List Nat).getD ci 0
def mm_rl : List (List Nat) := [[1, 3, 6, 0, 0, 0, 0], [2, 0], [], [4, 0, 0, 0, 0, 0], [], [], [7, 0, 0, 0, 0, 15, 17, 11, 8, 19, 21], [], [], [0, 0, 0, 0, 0, 0, 0, 0], [0, 0, 0, 0, 0, 0], [], [13, 14, 0, 0, 0], [], [], [0, 0, 0, 0, 0, 0, 0, 0, 16], [], [18], [], [20], [], [19, 22, 23, 24, 0, 25], [], [], [], [], [0, 27, 0, 28, 29, 30, 31, 32, 33, 34, 35, 36, 37, 38, 39, 40, 41, 0, 0, 0, 0, 0, 0, 0, 0, 42, 43, 0, 0, 0, 0, 0, 0, 0, 0, 0, 44, 45, 46, 47, 48, 0], [], [], [], [], [], [], [], [], [], [], [], [], [], [], [], [], [], [], [], [], [], []]
def mm_rf (f j : Nat) : Nat := if f = 4 then 5 else if f = 7 then 9 else if f = 8 then 10 else if f = 11 then 12 else (mm_rl.getD f []).getD j 0
def mm_ri (f i j : Nat) : Nat := if f = 4 then j else if f = 7 then j else if f = 8 then j else if f = 11 then j else if f = 12 then i else 0
def mm_rt (f i j : Nat) : Nat := mm_ad (mm_rf f j) (mm_ri f i j)
def mm_sl (z : Nat) (μ : mm_T) (f i j t : Nat) : Value := if t = 0 then .int (μ.1 f i j) else if t = 1 then .long (μ.2 f i j) else .ref (z + mm_rt f i j)
def mm_ek (cy : Nat → ClassId) (z : Nat) (μ : mm_T) (f i k n : Nat) : va_E := if k = 0 then .inr (n, (List.range (mm_ns n)).map (fun j => mm_sl z μ f i j (mm_st n j))) else if k = 1 then .inl (cy 0, n, .inl (μ.1 f i)) else if k = 2 then .inl (cy 1, n, .inr (.inl (μ.2 f i))) else if k = 3 then .inl (cy 2, n, .inl (μ.1 f i)) else .inl (cy (k - 1), n, .inr (.inr (.inr (.inr (fun j => some (z + mm_rt f i j))))))
def mm_ce (cy : Nat → ClassId) (z : Nat) (μ : mm_T) (f i : Nat) : va_E := mm_ek cy z μ f i (mm_kd f).1 (mm_kd f).2
def mm_ws (cy : Nat → ClassId) (z : Nat) (μ : mm_T) : va_W := mm_ft.map (fun q => (z + mm_ad q.1 q.2, mm_ce cy z μ q.1 q.2))
def mm_ty (cy : Nat → ClassId) : List (ClassId × FieldType) := [(cy 0, .int), (cy 1, .long), (cy 2, .boolean), (cy 3, .object RX4), (cy 4, .object RX5), (cy 5, .object RX7), (cy 6, .array .int)]
def mm_A (z : Nat) : Nat → Prop := fun q => z ≤ q ∧ q < z + 211
theorem mm_at : ∀ f, f < 49 → ∀ i, i < mm_cn f → mm_ft[mm_ad f i]? = some (f, i) := by decide +kernel
theorem mm_cll : mm_cl.length = 49 := by decide +kernel
theorem mm_cn0 : ∀ f, 49 ≤ f → mm_cn f = 0 := fun f h => by
  unfold mm_cn
  rw [List.getD_eq_getElem?_getD, List.getElem?_eq_none (Nat.le_trans (Nat.le_of_eq mm_cll) h)]
  rfl
theorem mm_at' {f i : Nat} (hi : i < mm_cn f) : mm_ft[mm_ad f i]? = some (f, i) := by
  by_cases h : f < 49
  · exact mm_at f h i hi
  · rw [mm_cn0 f (by omega)] at hi
    omega
theorem mm_ln : mm_ft.length = 211 := by decide +kernel
theorem mm_bk : ∀ k, k < 211 → mm_ad (mm_ft.getD k (0, 0)).1 (mm_ft.getD k (0, 0)).2 = k := by decide +kernel
theorem mm_bk' {k : Nat} {q : Nat × Nat} (h : mm_ft[k]? = some q) : k < 211 ∧ mm_ad q.1 q.2 = k := by
  have hl : k < 211 := mm_ln ▸ (List.getElem?_eq_some_iff.mp h).1
  refine ⟨hl, ?_⟩
  have h2 := mm_bk k hl
  rw [List.getD_eq_getElem?_getD, h] at h2
  exact h2
theorem mm_wsat (cy : Nat → ClassId) (z : Nat) (μ : mm_T) {f i : Nat} (hi : i < mm_cn f) : (mm_ws cy z μ)[mm_ad f i]? = some (z + mm_ad f i, mm_ce cy z μ f i) := by
  unfold mm_ws
  rw [List.getElem?_map, mm_at' hi]
  rfl
theorem mm_wsk {cy : Nat → ClassId} {z : Nat} {μ : mm_T} {k : Nat} {x : Nat × va_E} (h : (mm_ws cy z μ)[k]? = some x) : k < 211 ∧ x.1 = z + k := by
  unfold mm_ws at h
  rw [List.getElem?_map] at h
  cases hq : mm_ft[k]? with
  | none => rw [hq] at h; cases h
  | some q =>
    rw [hq] at h
    cases h
    exact ⟨(mm_bk' hq).1, congrArg (fun n => z + n) (mm_bk' hq).2⟩
theorem mm_D (cy : Nat → ClassId) (z : Nat) (μ : mm_T) : va_D (mm_A z) (mm_ws cy z μ) := by
  refine ⟨fun i j p q hi hj e => ?_, fun k q hk => ?_⟩
  · have h1 := mm_wsk hi
    have h2 := mm_wsk hj
    omega
  · have h1 := mm_wsk hk
    unfold mm_A
    omega
theorem mm_cec (cy : Nat → ClassId) (z : Nat) {μ μ' : mm_T} {f i : Nat} (h1 : μ.1 f i = μ'.1 f i) (h2 : μ.2 f i = μ'.2 f i) : mm_ce cy z μ f i = mm_ce cy z μ' f i := by
  unfold mm_ce mm_ek mm_sl
  rw [h1, h2]
theorem mm_set {cy : Nat → ClassId} {z : Nat} {μ μ' : mm_T} {f i : Nat} (hi : i < mm_cn f) (h : ∀ a b, ¬ (a = f ∧ b = i) → μ.1 a b = μ'.1 a b ∧ μ.2 a b = μ'.2 a b) : (mm_ws cy z μ).set (mm_ad f i) (z + mm_ad f i, mm_ce cy z μ' f i) = mm_ws cy z μ' := by
  apply List.ext_getElem?
  intro k
  have hlen : mm_ad f i < (mm_ws cy z μ).length := (List.getElem?_eq_some_iff.mp (mm_wsat cy z μ hi)).1
  by_cases hk : k = mm_ad f i
  · subst hk
    rw [List.getElem?_set_self hlen, mm_wsat cy z μ' hi]
  · rw [List.getElem?_set_ne (Ne.symm hk)]
    unfold mm_ws
    rw [List.getElem?_map, List.getElem?_map]
    cases hq : mm_ft[k]? with
    | none => rfl
    | some q =>
      have hb := (mm_bk' hq).2
      have hn : ¬ (q.1 = f ∧ q.2 = i) := fun e => hk (by rw [← hb, e.1, e.2])
      have h2 := h q.1 q.2 hn
      show some (z + mm_ad q.1 q.2, mm_ce cy z μ q.1 q.2) = some (z + mm_ad q.1 q.2, mm_ce cy z μ' q.1 q.2)
      rw [mm_cec cy z h2.1 h2.2]
theorem mm_Io (μ : mm_T) (f i j : Nat) (v : Int32) : ∀ a b, ¬ (a = f ∧ b = i) → μ.1 a b = (mm_I μ f i j v).1 a b ∧ μ.2 a b = (mm_I μ f i j v).2 a b := fun a b h => ⟨(if_neg h).symm, rfl⟩
theorem mm_Lo (μ : mm_T) (f i j : Nat) (v : Int64) : ∀ a b, ¬ (a = f ∧ b = i) → μ.1 a b = (mm_L μ f i j v).1 a b ∧ μ.2 a b = (mm_L μ f i j v).2 a b := fun a b h => ⟨rfl, (if_neg h).symm⟩
theorem mm_Is (μ : mm_T) (f i j : Nat) (v : Int32) : (mm_I μ f i j v).1 f i = upd (μ.1 f i) j v := if_pos ⟨rfl, rfl⟩
theorem mm_Ls (μ : mm_T) (f i j : Nat) (v : Int64) : (mm_L μ f i j v).2 f i = vp_updL (μ.2 f i) j v := if_pos ⟨rfl, rfl⟩
theorem mm_ceO {cy : Nat → ClassId} {z : Nat} {μ : mm_T} {f ci : Nat} (hk : mm_kd f = (0, ci)) (i : Nat) : mm_ce cy z μ f i = .inr (ci, (List.range (mm_ns ci)).map (fun j => mm_sl z μ f i j (mm_st ci j))) := by
  unfold mm_ce
  rw [hk]
  rfl
theorem mm_ceI {cy : Nat → ClassId} {z : Nat} {μ : mm_T} {f n : Nat} (hk : mm_kd f = (1, n)) (i : Nat) : mm_ce cy z μ f i = .inl (cy 0, n, .inl (μ.1 f i)) := by
  unfold mm_ce
  rw [hk]
  rfl
theorem mm_ceJ {cy : Nat → ClassId} {z : Nat} {μ : mm_T} {f n : Nat} (hk : mm_kd f = (2, n)) (i : Nat) : mm_ce cy z μ f i = .inl (cy 1, n, .inr (.inl (μ.2 f i))) := by
  unfold mm_ce
  rw [hk]
  rfl
theorem mm_ceZ {cy : Nat → ClassId} {z : Nat} {μ : mm_T} {f n : Nat} (hk : mm_kd f = (3, n)) (i : Nat) : mm_ce cy z μ f i = .inl (cy 2, n, .inl (μ.1 f i)) := by
  unfold mm_ce
  rw [hk]
  rfl
theorem mm_ceR {cy : Nat → ClassId} {z : Nat} {μ : mm_T} {f t n : Nat} (hk : mm_kd f = (t + 4, n)) (i : Nat) : mm_ce cy z μ f i = .inl (cy (t + 3), n, .inr (.inr (.inr (.inr (fun j => some (z + mm_rt f i j)))))) := by
  unfold mm_ce mm_ek
  rw [hk, if_neg (by simp), if_neg (by simp), if_neg (by simp), if_neg (by simp)]
  rfl
theorem mm_ls (n j : Nat) (F G : Nat → Value) (v : Value) (hj : j < n) (h1 : G j = v) (h2 : ∀ k, k ≠ j → G k = F k) : ((List.range n).map F).set j v = (List.range n).map G := by
  apply List.ext_getElem?
  intro k
  by_cases hk : k = j
  · subst hk
    rw [List.getElem?_set_self (by simpa using hj), List.getElem?_map, List.getElem?_range hj]
    simp [h1]
  · rw [List.getElem?_set_ne (Ne.symm hk), List.getElem?_map, List.getElem?_map]
    cases hq : (List.range n)[k]? with
    | none => rfl
    | some q =>
      have : q = k := by
        have := List.getElem?_eq_some_iff.mp hq
        obtain ⟨hl, he⟩ := this
        simpa using he.symm
      subst this
      simp [h2 q hk]
theorem mm_at2 (n j : Nat) (F : Nat → Value) (hj : j < n) : ((List.range n).map F)[j]? = some (F j) := by
  rw [List.getElem?_map, List.getElem?_range hj]
  rfl
