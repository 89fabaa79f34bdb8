/-! new int[7][5]: the outer row is cell 4, the inner ones are cells 5 to 11 -/
def mg_μ (μ : mm_T) : mm_T := (fun a b => if a = 4 ∨ a = 5 then (fun _ => 0) else μ.1 a b, fun a b => if a = 4 ∨ a = 5 then (fun _ => 0) else μ.2 a b)
def mg_ρ (ρ : mm_R) : mm_R := fun a b => if a = 4 then (fun j => if j < 7 then some (mm_ad 5 j) else none) else if a = 5 then (fun _ => none) else ρ a b
theorem mg_outer (c : ClassId) (N h0 : Nat) : ∀ i : Nat, Jvm.Free.Multi.outerC c N h0 i = arrV c N (fun j => va_rf (if j < i then some (h0 + 1 + j) else none))
  | 0 => by
    show ({ cls := c, slots := Array.replicate N .null, vm := .none } : Cell) = _
    rw [arrV_new]
    refine congrArg (arrV c N) (funext fun j => ?_)
    simp [va_rf]
  | i + 1 => by
    show (Jvm.Free.Multi.outerC c N h0 i).setSlot i (.ref (h0 + 1 + i)) = _
    rw [mg_outer c N h0 i, arrV_store]
    refine congrArg (arrV c N) (funext fun j => ?_)
    by_cases e : j = i
    · subst e
      simp [updV, va_rf]
    · by_cases h : j < i
      · simp [updV, e, h, Nat.lt_succ_of_lt h]
      · simp [updV, e, h, show ¬ j < i + 1 by omega]
theorem mg_ad5 : ∀ j, j < 7 → mm_ad 5 j = 5 + j := by decide +kernel
section MG
variable {p : Program} {l : Launch} {e : Env} {R : Room} {s : State} {m : MethodId} {args : Array Value} {below : List Frame} {meth : Method} {c : Code} {cc : ByteArray} {nL : Nat} {own : String} {ws : List Cond} {Q : State → Prop} {cells slots : Nat} {D : va_G} {cy : Nat → ClassId} {z : Nat} {μ : mm_T} {ρ : mm_R} {pc q : Nat} {lv : List (Nat × Value)} {st : List Value}
theorem jq_rows (C : gC p s m args c cc nL own ws) (hK : va_K D vwCl (mm_ty cy) s) (hov : (Cond.arrayOver (.array .int)).before args s = true) {index : Nat} (h1 : Cond.classLink own index ("[" ++ (FieldType.array .int).toString) ∈ ws) (ha : Cond.arrayClass .int ∈ ws) (hcells : cells + 8 ≤ R.cells) (hslots : slots + 42 ≤ R.slots) (hd : decode cc pc = .ok (.multianewarray index 2, 4)) (hq : pc + 4 = q)
    (kk : jG p l e R s m args below meth c (mm_B z) Q nL (cells + 8) (slots + 42) (mn_P D cy z 12 (mg_μ μ) (mg_ρ ρ)) q lv (.ref (z + mm_ad 4 0) :: st)) : jG p l e R s m args below meth c (mm_B z) Q nL cells slots (mn_P D cy z 4 μ ρ) pc lv (.int 5 :: .int 7 :: st) := by
  subst hq
  intro H locs ls hP hS hl
  obtain ⟨hP, hz⟩ := hP
  intro T hT X
  obtain ⟨vm₁, cA, comp, -, fA, fC, hO, -, X', step⟩ := X.multianewarray2F C.1 C.2.2.2.1 (C.2.2.2.2 _ h1) hov (C.2.2.2.2 _ ha) (g := F0 m pc ls (.int 5 :: .int 7 :: st)) rfl (by rw [C.2.1]; exact hd) rfl (by decide) (by decide) (by decide) (by decide) (by decide) rfl rfl hcells hslots
  have hcA : cA = cy 6 := Option.some.inj (fA.symm.trans (hK.2 6 _ rfl).2)
  have hco : comp = cy 0 := Option.some.inj (fC.symm.trans (hK.2 0 _ rfl).2)
  subst hcA
  subst hco
  have e7 : (7 : Int32).toNatClampNeg = 7 := by decide
  have e5 : (5 : Int32).toNatClampNeg = 5 := by decide
  rw [e7, e5] at X' step
  generalize hF : Jvm.Free.Multi.fill (T.setVm vm₁) (cy 6) (cy 0) 7 5 (defaultValue .int) 7 = F at X' step
  have hTh : (T.setVm vm₁).heap = H := hT
  obtain ⟨f1, f2, -, -⟩ := Jvm.Free.Multi.fill_facts (T.setVm vm₁) (cy 6) (cy 0) 7 5 (defaultValue .int) 7
  rw [hF, hTh] at f1 f2
  have hold : ∀ x : Nat, x < H.size → F.heap[x]? = H[x]? := fun x hx => by
    have := Jvm.Free.Multi.fill_old (T.setVm vm₁) (cy 6) (cy 0) 7 5 (defaultValue .int) (a := x) (by rw [hTh]; exact hx) 7
    rw [hF, hTh] at this
    exact this
  have hrow : ∀ j : Nat, j < 7 → F.heap[H.size + 1 + j]? = some (vp_cell (cy 0) (5, .inl (fun _ => 0))) := fun j hj => by
    have := Jvm.Free.Multi.fill_inner (T.setVm vm₁) (cy 6) (cy 0) 7 5 (defaultValue .int) 7 j hj
    rw [hF, hTh] at this
    rw [this, vp_cell_i]
    show some ({ cls := cy 0, slots := Array.replicate 5 (.int 0), vm := .none } : Cell) = _
    rw [arrV_new]
  have hout : Jvm.Free.Multi.outerC (cy 6) 7 H.size 7 = vp_cell (cy 6) (7, .inr (.inr (.inr (.inr (fun j => (mg_ρ ρ 4 0 j).map (fun k => z + k)))))) := by
    rw [vp_cell_q, mg_outer]
    refine congrArg (arrV (cy 6) 7) (funext fun j => ?_)
    by_cases h : j < 7
    · have : mg_ρ ρ 4 0 j = some (mm_ad 5 j) := by simp [mg_ρ, h]
      rw [this, if_pos h, mg_ad5 j h, hz]
      show va_rf (some _) = va_rf (some _)
      refine congrArg (fun n => va_rf (some n)) ?_
      show z + 4 + 1 + j = z + (5 + j)
      omega
    · have : mg_ρ ρ 4 0 j = none := by simp [mg_ρ, h]
      rw [this, if_neg h]
      rfl
  rw [hout] at f2
  have hP1 : va_P D vwCl (mn_ws cy z 12 (mg_μ μ) (mg_ρ ρ)) F.heap := by
    have old : ∀ f, f < 4 → mm_ad f 0 < 4 → 0 < mm_cn f → va_at D vwCl (z + mm_ad f 0, mn_ce cy z (mg_μ μ) (mg_ρ ρ) f 0) F.heap := by
      intro f hf h4 hc
      have h := hP _ _ (mn_wsat cy z μ ρ (n := 4) hc h4)
      have hce : mn_ce cy z (mg_μ μ) (mg_ρ ρ) f 0 = mn_ce cy z μ ρ f 0 := mn_cec cy z ⟨if_neg (by omega), if_neg (by omega), (if_neg (by omega)).trans (if_neg (by omega))⟩
      rw [hce]
      exact h.kept (hold _ h.lt)
    have new : ∀ j, j < 7 → va_at D vwCl (z + mm_ad 5 j, mn_ce cy z (mg_μ μ) (mg_ρ ρ) 5 j) F.heap := by
      intro j hj
      rw [mn_ceI (n := 5) rfl]
      show F.heap[z + mm_ad 5 j]? = some (vp_cell _ _)
      have h2 : (mg_μ μ).1 5 j = fun _ => 0 := by simp [mg_μ]
      rw [h2, mg_ad5 j hj, show z + (5 + j) = H.size + 1 + j by omega]
      exact hrow j hj
    intro k x hx
    have hk := (mn_wsk hx).1
    have hk' : k = 0 ∨ k = 1 ∨ k = 2 ∨ k = 3 ∨ k = 4 ∨ 5 ≤ k := by omega
    rcases hk' with rfl | rfl | rfl | rfl | rfl | h5
    · cases Option.some.inj (hx.symm.trans (mn_wsat cy z (mg_μ μ) (mg_ρ ρ) (n := 12) (f := 0) (i := 0) (by decide) (by decide)))
      exact old 0 (by decide) (by decide) (by decide)
    · cases Option.some.inj (hx.symm.trans (mn_wsat cy z (mg_μ μ) (mg_ρ ρ) (n := 12) (f := 1) (i := 0) (by decide) (by decide)))
      exact old 1 (by decide) (by decide) (by decide)
    · cases Option.some.inj (hx.symm.trans (mn_wsat cy z (mg_μ μ) (mg_ρ ρ) (n := 12) (f := 2) (i := 0) (by decide) (by decide)))
      exact old 2 (by decide) (by decide) (by decide)
    · cases Option.some.inj (hx.symm.trans (mn_wsat cy z (mg_μ μ) (mg_ρ ρ) (n := 12) (f := 3) (i := 0) (by decide) (by decide)))
      exact old 3 (by decide) (by decide) (by decide)
    · cases Option.some.inj (hx.symm.trans (mn_wsat cy z (mg_μ μ) (mg_ρ ρ) (n := 12) (f := 4) (i := 0) (by decide) (by decide)))
      rw [mn_ceR (t := 3) (n := 7) rfl]
      show F.heap[z + 4]? = some (vp_cell _ _)
      rw [← hz]
      exact f2
    · obtain ⟨j, rfl⟩ : ∃ j, k = 5 + j := ⟨k - 5, by omega⟩
      have hj : j < 7 := by omega
      have h9 := mn_wsat cy z (mg_μ μ) (mg_ρ ρ) (n := 12) (f := 5) (i := j) hj (by rw [mg_ad5 j hj]; omega)
      rw [mg_ad5 j hj] at h9
      cases Option.some.inj (hx.symm.trans h9)
      have h8 := new j hj
      rw [mg_ad5 j hj] at h8
      exact h8
  have hkk := kk F.heap locs ls ⟨hP1, by omega⟩ ⟨Nat.le_trans hS.1 (by omega), fun x h1 h2 => (hold x (by have := hS.1; omega)).trans (hS.2.1 x h1 h2), hS.2.2⟩ hl F rfl X'
  obtain ⟨t, a1, b1⟩ := hkk
  refine ⟨t, step t ?_, b1⟩
  rw [hT, hz]
  exact a1
end MG
