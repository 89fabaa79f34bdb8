/-! While the cells are made: n of them stand, the k-th at z + k; where references lead is part of the state (ρ). -/
abbrev mm_R : Type := Nat → Nat → Nat → Option Nat
def mr_W (ρ : mm_R) (f i j k : Nat) : mm_R := fun a b => if a = f ∧ b = i then (fun c => if c = j then some k else ρ f i c) else ρ a b
def mr_Z (ρ : mm_R) (f i : Nat) : mm_R := fun a b => if a = f ∧ b = i then (fun _ => none) else ρ a b
def mm_Z (μ : mm_T) (f i : Nat) : mm_T := (fun a b => if a = f ∧ b = i then (fun _ => 0) else μ.1 a b, fun a b => if a = f ∧ b = i then (fun _ => 0) else μ.2 a b)
def mn_sl (z : Nat) (μ : mm_T) (ρ : mm_R) (f i j t : Nat) : Value := if t = 0 then .int (μ.1 f i j) else if t = 1 then .long (μ.2 f i j) else va_rf ((ρ f i j).map (fun k => z + k))
def mn_ek (cy : Nat → ClassId) (z : Nat) (μ : mm_T) (ρ : mm_R) (f i k n : Nat) : va_E := if k = 0 then .inr (n, (List.range (mm_ns n)).map (fun j => mn_sl z μ ρ f i j (mm_st n j))) else if k = 1 then .inl (cy 0, n, .inl (μ.1 f i)) else if k = 2 then .inl (cy 1, n, .inr (.inl (μ.2 f i))) else if k = 3 then .inl (cy 2, n, .inl (μ.1 f i)) else .inl (cy (k - 1), n, .inr (.inr (.inr (.inr (fun j => (ρ f i j).map (fun k => z + k))))))
def mn_ce (cy : Nat → ClassId) (z : Nat) (μ : mm_T) (ρ : mm_R) (f i : Nat) : va_E := mn_ek cy z μ ρ f i (mm_kd f).1 (mm_kd f).2
def mn_ws (cy : Nat → ClassId) (z n : Nat) (μ : mm_T) (ρ : mm_R) : va_W := (mm_ft.take n).map (fun q => (z + mm_ad q.1 q.2, mn_ce cy z μ ρ q.1 q.2))
def mm_B (z : Nat) : Nat → Prop := fun q => z ≤ q
def mn_P (D : va_G) (cy : Nat → ClassId) (z n : Nat) (μ : mm_T) (ρ : mm_R) (H : Heap) : Prop := va_P D vwCl (mn_ws cy z n μ ρ) H ∧ H.size = z + n
def mn_off (μ μ' : mm_T) (ρ ρ' : mm_R) (f i : Nat) : Prop := ∀ a b, ¬ (a = f ∧ b = i) → μ.1 a b = μ'.1 a b ∧ μ.2 a b = μ'.2 a b ∧ ρ a b = ρ' a b
theorem mn_wsat (cy : Nat → ClassId) (z : Nat) (μ : mm_T) (ρ : mm_R) {n f i : Nat} (hi : i < mm_cn f) (hn : mm_ad f i < n) : (mn_ws cy z n μ ρ)[mm_ad f i]? = some (z + mm_ad f i, mn_ce cy z μ ρ f i) := by
  unfold mn_ws
  rw [List.getElem?_map, List.getElem?_take, if_pos hn, mm_at' hi]
  rfl
theorem mn_wsk {cy : Nat → ClassId} {z n : Nat} {μ : mm_T} {ρ : mm_R} {k : Nat} {x : Nat × va_E} (h : (mn_ws cy z n μ ρ)[k]? = some x) : k < n ∧ x.1 = z + k := by
  unfold mn_ws at h
  rw [List.getElem?_map, List.getElem?_take] at h
  by_cases hk : k < n
  · rw [if_pos hk] at h
    cases hq : mm_ft[k]? with
    | none => rw [hq] at h; cases h
    | some q =>
      rw [hq] at h
      cases h
      exact ⟨hk, congrArg (fun n => z + n) (mm_bk' hq).2⟩
  · rw [if_neg hk] at h
    cases h
theorem mn_D (cy : Nat → ClassId) (z n : Nat) (μ : mm_T) (ρ : mm_R) : va_D (mm_B z) (mn_ws cy z n μ ρ) := by
  refine ⟨fun i j p q hi hj e => ?_, fun k q hk => ?_⟩
  · have h1 := mn_wsk hi
    have h2 := mn_wsk hj
    omega
  · have h1 := mn_wsk hk
    unfold mm_B
    omega
theorem mn_cec (cy : Nat → ClassId) (z : Nat) {μ μ' : mm_T} {ρ ρ' : mm_R} {f i : Nat} (h : μ.1 f i = μ'.1 f i ∧ μ.2 f i = μ'.2 f i ∧ ρ f i = ρ' f i) : mn_ce cy z μ ρ f i = mn_ce cy z μ' ρ' f i := by
  unfold mn_ce mn_ek mn_sl
  rw [h.1, h.2.1, h.2.2]
theorem mn_set {cy : Nat → ClassId} {z n : Nat} {μ μ' : mm_T} {ρ ρ' : mm_R} {f i : Nat} (hi : i < mm_cn f) (hn : mm_ad f i < n) (h : mn_off μ μ' ρ ρ' f i) : (mn_ws cy z n μ ρ).set (mm_ad f i) (z + mm_ad f i, mn_ce cy z μ' ρ' f i) = mn_ws cy z n μ' ρ' := by
  apply List.ext_getElem?
  intro k
  have hlen : mm_ad f i < (mn_ws cy z n μ ρ).length := (List.getElem?_eq_some_iff.mp (mn_wsat cy z μ ρ hi hn)).1
  by_cases hk : k = mm_ad f i
  · subst hk
    rw [List.getElem?_set_self hlen, mn_wsat cy z μ' ρ' hi hn]
  · rw [List.getElem?_set_ne (Ne.symm hk)]
    unfold mn_ws
    rw [List.getElem?_map, List.getElem?_map, List.getElem?_take]
    by_cases hkn : k < n
    · rw [if_pos hkn]
      cases hq : mm_ft[k]? with
      | none => rfl
      | some q =>
        have hb := (mm_bk' hq).2
        have hnq : ¬ (q.1 = f ∧ q.2 = i) := fun e => hk (by rw [← hb, e.1, e.2])
        show some (z + mm_ad q.1 q.2, mn_ce cy z μ ρ q.1 q.2) = some (z + mm_ad q.1 q.2, mn_ce cy z μ' ρ' q.1 q.2)
        rw [mn_cec cy z (h q.1 q.2 hnq)]
    · rw [if_neg hkn]
      rfl
theorem mn_push {cy : Nat → ClassId} {z n : Nat} {μ μ' : mm_T} {ρ ρ' : mm_R} {f i : Nat} (hft : mm_ft[n]? = some (f, i)) (h : mn_off μ μ' ρ ρ' f i) : mn_ws cy z n μ ρ ++ [(z + n, mn_ce cy z μ' ρ' f i)] = mn_ws cy z (n + 1) μ' ρ' := by
  have had : mm_ad f i = n := (mm_bk' hft).2
  unfold mn_ws
  rw [List.take_succ, hft, List.map_append]
  congr 1
  · apply List.map_congr_left
    intro q hq
    obtain ⟨k, hk⟩ := List.mem_iff_getElem?.mp hq
    rw [List.getElem?_take] at hk
    by_cases hkn : k < n
    · rw [if_pos hkn] at hk
      have hb := (mm_bk' hk).2
      have hnq : ¬ (q.1 = f ∧ q.2 = i) := fun e => by rw [e.1, e.2, had] at hb; omega
      rw [mn_cec cy z (h q.1 q.2 hnq)]
    · rw [if_neg hkn] at hk
      cases hk
  · show [(z + n, mn_ce cy z μ' ρ' f i)] = [(z + mm_ad f i, mn_ce cy z μ' ρ' f i)]
    rw [had]
theorem mn_offZ (μ : mm_T) (ρ : mm_R) (f i : Nat) : mn_off μ (mm_Z μ f i) ρ (mr_Z ρ f i) f i := fun a b h => ⟨(if_neg h).symm, (if_neg h).symm, (if_neg h).symm⟩
theorem mn_offW (μ : mm_T) (ρ : mm_R) (f i j k : Nat) : mn_off μ μ ρ (mr_W ρ f i j k) f i := fun a b h => ⟨rfl, rfl, (if_neg h).symm⟩
theorem mn_offI (μ : mm_T) (ρ : mm_R) (f i j : Nat) (v : Int32) : mn_off μ (mm_I μ f i j v) ρ ρ f i := fun a b h => ⟨(if_neg h).symm, rfl, rfl⟩
theorem mm_Z1 (μ : mm_T) (f i : Nat) : (mm_Z μ f i).1 f i = fun _ => 0 := if_pos ⟨rfl, rfl⟩
theorem mm_Z2 (μ : mm_T) (f i : Nat) : (mm_Z μ f i).2 f i = fun _ => 0 := if_pos ⟨rfl, rfl⟩
theorem mr_Zs (ρ : mm_R) (f i : Nat) : mr_Z ρ f i f i = fun _ => none := if_pos ⟨rfl, rfl⟩
theorem mr_Ws (ρ : mm_R) (f i j k : Nat) : mr_W ρ f i j k f i = fun c => if c = j then some k else ρ f i c := if_pos ⟨rfl, rfl⟩
theorem mn_ceO {cy : Nat → ClassId} {z : Nat} {μ : mm_T} {ρ : mm_R} {f ci : Nat} (hk : mm_kd f = (0, ci)) (i : Nat) : mn_ce cy z μ ρ f i = .inr (ci, (List.range (mm_ns ci)).map (fun j => mn_sl z μ ρ f i j (mm_st ci j))) := by
  unfold mn_ce
  rw [hk]
  rfl
theorem mn_ceI {cy : Nat → ClassId} {z : Nat} {μ : mm_T} {ρ : mm_R} {f n : Nat} (hk : mm_kd f = (1, n)) (i : Nat) : mn_ce cy z μ ρ f i = .inl (cy 0, n, .inl (μ.1 f i)) := by
  unfold mn_ce
  rw [hk]
  rfl
theorem mn_ceJ {cy : Nat → ClassId} {z : Nat} {μ : mm_T} {ρ : mm_R} {f n : Nat} (hk : mm_kd f = (2, n)) (i : Nat) : mn_ce cy z μ ρ f i = .inl (cy 1, n, .inr (.inl (μ.2 f i))) := by
  unfold mn_ce
  rw [hk]
  rfl
theorem mn_ceZ {cy : Nat → ClassId} {z : Nat} {μ : mm_T} {ρ : mm_R} {f n : Nat} (hk : mm_kd f = (3, n)) (i : Nat) : mn_ce cy z μ ρ f i = .inl (cy 2, n, .inl (μ.1 f i)) := by
  unfold mn_ce
  rw [hk]
  rfl
theorem mn_ceR {cy : Nat → ClassId} {z : Nat} {μ : mm_T} {ρ : mm_R} {f t n : Nat} (hk : mm_kd f = (t + 4, n)) (i : Nat) : mn_ce cy z μ ρ f i = .inl (cy (t + 3), n, .inr (.inr (.inr (.inr (fun j => (ρ f i j).map (fun k => z + k)))))) := by
  unfold mn_ce mn_ek
  rw [hk, if_neg (by simp), if_neg (by simp), if_neg (by simp), if_neg (by simp)]
  rfl
/-- what the makers need beside the words: links of nest mates, the rows of rows -/
def mn_X (U : State) : Prop := va_Nw (.methodLinkNest RX0 23 yX5_init RX10) U ∧ va_Nw (.methodLinkNest RX0 24 yX7_init RX10) U ∧ (Cond.arrayOver (.array .int)).before #[] U = true ∧ va_AO RX4 U ∧ va_AO RX5 U ∧ va_AO RX7 U
theorem mn_X.to {s U : State} (h : mn_X s) (hW : s.WarmedH U.vm) : mn_X U := ⟨va_Nw.warmM hW h.1, va_Nw.warmM hW h.2.1, Jvm.Stand.arrayOver_alikeB hW.alike h.2.2.1, h.2.2.2.1.moved hW.alike, h.2.2.2.2.1.moved hW.alike, h.2.2.2.2.2.moved hW.alike⟩
theorem mn_X.bl {U : State} {g : JFrame} {mk : MethodId} {a : Array Value} (h : mn_X U) : mn_X (U.calling g mk a) := ⟨va_Nw.same (U := U.calling g mk a) rfl rfl h.1, va_Nw.same (U := U.calling g mk a) rfl rfl h.2.1, Jvm.Stand.arrayOver_alikeB (U := U.calling g mk a) (Vm.Alike.refl U.vm) h.2.2.1, h.2.2.2.1.moved (U := U.calling g mk a) (Vm.Alike.refl U.vm), h.2.2.2.2.1.moved (U := U.calling g mk a) (Vm.Alike.refl U.vm), h.2.2.2.2.2.moved (U := U.calling g mk a) (Vm.Alike.refl U.vm)⟩
def mn_Pr (D : va_G) (cy : Nat → ClassId) (z n : Nat) (μ : mm_T) (ρ : mm_R) (U : State) : Prop := mn_P D cy z n μ ρ U.heap ∧ va_K D vwCl (mm_ty cy) U ∧ mn_X U
theorem mn_bl (D : va_G) (cy : Nat → ClassId) (z n : Nat) (μ : mm_T) (ρ : mm_R) (av : List Value) : FrameBlind (va_Pc av (mn_Pr D cy z n μ ρ)) := fun a U g mk h => ⟨h.1, h.2.1, va_K.moved (u := U) (U := U.calling g mk a) (Vm.Alike.refl U.vm) h.2.2.1, h.2.2.2.bl⟩
def mn_C (l : Launch) (y : MethodName) (ws : List Cond) (rm : Room) (n n1 mc ms : Nat) (av : Nat → List Value) (wp : mm_T → mm_R → (mm_T → mm_R → Prop) → Prop) : Prop := ∀ (D : va_G) (cy : Nat → ClassId) (z : Nat) (μ : mm_T) (ρ : mm_R) (Po : mm_T → mm_R → Prop), wp μ ρ Po → Met l y ws rm (va_Pc (av z) (mn_Pr D cy z n μ ρ)) (va_Qv (fun u : mm_T × mm_R => Po u.1 u.2) (fun u t => mn_P D cy z n1 u.1 u.2 t.heap) (mm_B z)) mc ms (mm_B z)
def gC (p : Program) (s : State) (m : MethodId) (args : Array Value) (c : Code) (cc : ByteArray) (nL : Nat) (own : String) (ws : List Cond) : Prop := p.tables.exec = Jvm.exec ∧ c.code = cc ∧ c.maxLocals = nL ∧ s.vm.findClass own = some m.cls ∧ ∀ w ∈ ws, w.before args s = true
def jG (p : Program) (l : Launch) (e : Env) (R : Room) (s : State) (m : MethodId) (args : Array Value) (below : List Frame) (meth : Method) (c : Code) (A : Nat → Prop) (Q : State → Prop) (nL cells slots : Nat) (P : Heap → Prop) (pc : Nat) (lv : List (Nat × Value)) (st : List Value) : Prop :=
  ∀ (H : Heap) (locs : List Loc) (ls : Array Slot), P H → va_S A s.heap H locs → lv_has ls nL lv → W p l e R s m args below meth c H locs cells slots Q (F0 m pc ls st)

section JG
variable {p : Program} {l : Launch} {e : Env} {R : Room} {s : State} {m : MethodId} {args : Array Value} {below : List Frame} {meth : Method} {c : Code} {cc : ByteArray} {nL : Nat} {own : String} {ws : List Cond} {A : Nat → Prop} {Q : State → Prop} {cells slots : Nat} {P : Heap → Prop} {pc q : Nat} {lv : List (Nat × Value)} {st : List Value}
theorem jg_iconst (C : gC p s m args c cc nL own ws) {n : Int} {v : Int32} (hd : decode cc pc = .ok (.iconst n, 1)) (hv : Int32.ofInt n = v) (hq : pc + 1 = q) (kk : jG p l e R s m args below meth c A Q nL cells slots P q lv (.int v :: st)) : jG p l e R s m args below meth c A Q nL cells slots P pc lv (st) := by
  subst hq
  exact fun H locs ls hP hS hl => lv_iconst C.1 C.2.1 hd hv (kk H locs ls hP hS hl)
theorem jg_bipush (C : gC p s m args c cc nL own ws) {n : Int} {v : Int32} (hd : decode cc pc = .ok (.bipush n, 2)) (hv : (Int8.ofInt n).toInt32 = v) (hq : pc + 2 = q) (kk : jG p l e R s m args below meth c A Q nL cells slots P q lv (.int v :: st)) : jG p l e R s m args below meth c A Q nL cells slots P pc lv (st) := by
  subst hq
  exact fun H locs ls hP hS hl => lv_bipush C.1 C.2.1 hd hv (kk H locs ls hP hS hl)
theorem jg_sipush (C : gC p s m args c cc nL own ws) {n : Int} {v : Int32} (hd : decode cc pc = .ok (.sipush n, 3)) (hv : (Int16.ofInt n).toInt32 = v) (hq : pc + 3 = q) (kk : jG p l e R s m args below meth c A Q nL cells slots P q lv (.int v :: st)) : jG p l e R s m args below meth c A Q nL cells slots P pc lv (st) := by
  subst hq
  exact fun H locs ls hP hS hl => lv_sipush C.1 C.2.1 hd hv (kk H locs ls hP hS hl)
theorem jg_iload_n (C : gC p s m args c cc nL own ws) {k : Fin 4} {i : Nat} {x : Int32} (n : Nat) (hd : decode cc pc = .ok (.iload_n k, 1)) (hi : (k : Nat) = i) (hn : lv[n]? = some (i, .int x)) (hq : pc + 1 = q) (kk : jG p l e R s m args below meth c A Q nL cells slots P q lv (.int x :: st)) : jG p l e R s m args below meth c A Q nL cells slots P pc lv (st) := by
  subst hq
  exact fun H locs ls hP hS hl => lv_iload_n C.1 C.2.1 hd hi (lv_at hl n hn) (kk H locs ls hP hS hl)
theorem jg_istore_n (C : gC p s m args c cc nL own ws) {k : Fin 4} {i : Nat} {x : Int32} {lv' : List (Nat × Value)} (hd : decode cc pc = .ok (.istore_n k, 1)) (hi : (k : Nat) = i) (hn : i < nL) (hl2 : (i, Value.int x) :: lv.filter (fun q => !(q.1 == i) && !(q.1 + 1 == i && q.2.category == 2)) = lv') (hq : pc + 1 = q) (kk : jG p l e R s m args below meth c A Q nL cells slots P q lv' (st)) : jG p l e R s m args below meth c A Q nL cells slots P pc lv (.int x :: st) := by
  subst hq
  exact fun H locs ls hP hS hl => lv_istore_n C.1 C.2.1 hd hi hl hn hl2 (fun ls' hl' => kk H locs ls' hP hS hl')
theorem jg_aload_n (C : gC p s m args c cc nL own ws) {k : Fin 4} {i : Nat} {x : Nat} (n : Nat) (hd : decode cc pc = .ok (.aload_n k, 1)) (hi : (k : Nat) = i) (hn : lv[n]? = some (i, .ref x)) (hq : pc + 1 = q) (kk : jG p l e R s m args below meth c A Q nL cells slots P q lv (.ref x :: st)) : jG p l e R s m args below meth c A Q nL cells slots P pc lv (st) := by
  subst hq
  exact fun H locs ls hP hS hl => lv_aload_n C.1 C.2.1 hd hi (lv_at hl n hn) (kk H locs ls hP hS hl)
theorem jg_astore_n (C : gC p s m args c cc nL own ws) {k : Fin 4} {i : Nat} {x : Nat} {lv' : List (Nat × Value)} (hd : decode cc pc = .ok (.astore_n k, 1)) (hi : (k : Nat) = i) (hn : i < nL) (hl2 : (i, Value.ref x) :: lv.filter (fun q => !(q.1 == i) && !(q.1 + 1 == i && q.2.category == 2)) = lv') (hq : pc + 1 = q) (kk : jG p l e R s m args below meth c A Q nL cells slots P q lv' (st)) : jG p l e R s m args below meth c A Q nL cells slots P pc lv (.ref x :: st) := by
  subst hq
  exact fun H locs ls hP hS hl => lv_astore_n C.1 C.2.1 hd hi hl hn hl2 (fun ls' hl' => kk H locs ls' hP hS hl')
theorem jg_iinc (C : gC p s m args c cc nL own ws) {i : Nat} {n : Int} {x v : Int32} {lv' : List (Nat × Value)} (k : Nat) (hd : decode cc pc = .ok (.iinc i n, 3)) (hk : lv[k]? = some (i, .int x)) (hv : x + Int32.ofInt n = v) (hn : i < nL) (hl2 : (i, Value.int v) :: lv.filter (fun q => !(q.1 == i) && !(q.1 + 1 == i && q.2.category == 2)) = lv') (hq : pc + 3 = q) (kk : jG p l e R s m args below meth c A Q nL cells slots P q lv' (st)) : jG p l e R s m args below meth c A Q nL cells slots P pc lv (st) := by
  subst hq
  exact fun H locs ls hP hS hl => lv_iinc C.1 C.2.1 hd hl hk hv hn hl2 (fun ls' hl' => kk H locs ls' hP hS hl')
theorem jg_iadd (C : gC p s m args c cc nL own ws) {x y : Int32} (hd : decode cc pc = .ok (.iadd, 1))  (hq : pc + 1 = q) (kk : jG p l e R s m args below meth c A Q nL cells slots P q lv (.int (x + y) :: st)) : jG p l e R s m args below meth c A Q nL cells slots P pc lv (.int y :: .int x :: st) := by
  subst hq
  exact fun H locs ls hP hS hl => lv_iadd C.1 C.2.1 hd (kk H locs ls hP hS hl)
theorem jg_isub (C : gC p s m args c cc nL own ws) {x y : Int32} (hd : decode cc pc = .ok (.isub, 1))  (hq : pc + 1 = q) (kk : jG p l e R s m args below meth c A Q nL cells slots P q lv (.int (x - y) :: st)) : jG p l e R s m args below meth c A Q nL cells slots P pc lv (.int y :: .int x :: st) := by
  subst hq
  exact fun H locs ls hP hS hl => lv_isub C.1 C.2.1 hd (kk H locs ls hP hS hl)
theorem jg_imul (C : gC p s m args c cc nL own ws) {x y : Int32} (hd : decode cc pc = .ok (.imul, 1))  (hq : pc + 1 = q) (kk : jG p l e R s m args below meth c A Q nL cells slots P q lv (.int (x * y) :: st)) : jG p l e R s m args below meth c A Q nL cells slots P pc lv (.int y :: .int x :: st) := by
  subst hq
  exact fun H locs ls hP hS hl => lv_imul C.1 C.2.1 hd (kk H locs ls hP hS hl)
theorem jg_iand (C : gC p s m args c cc nL own ws) {x y : Int32} (hd : decode cc pc = .ok (.iand, 1))  (hq : pc + 1 = q) (kk : jG p l e R s m args below meth c A Q nL cells slots P q lv (.int (x &&& y) :: st)) : jG p l e R s m args below meth c A Q nL cells slots P pc lv (.int y :: .int x :: st) := by
  subst hq
  exact fun H locs ls hP hS hl => lv_iand C.1 C.2.1 hd (kk H locs ls hP hS hl)
theorem jg_lcmp (C : gC p s m args c cc nL own ws) {x y : Int64} (hd : decode cc pc = .ok (.lcmp, 1))  (hq : pc + 1 = q) (kk : jG p l e R s m args below meth c A Q nL cells slots P q lv (.int (lg_cmp x y) :: st)) : jG p l e R s m args below meth c A Q nL cells slots P pc lv (.long y :: .long x :: st) := by
  subst hq
  exact fun H locs ls hP hS hl => W.lcmp C.1 C.2.1 hd (kk H locs ls hP hS hl)
theorem jg_dup (C : gC p s m args c cc nL own ws) {v : Value} (hd : decode cc pc = .ok (.dup, 1)) (hv : v.category = 1) (hq : pc + 1 = q) (kk : jG p l e R s m args below meth c A Q nL cells slots P q lv (v :: v :: st)) : jG p l e R s m args below meth c A Q nL cells slots P pc lv (v :: st) := by
  subst hq
  exact fun H locs ls hP hS hl => lv_dup C.1 C.2.1 hd hv (kk H locs ls hP hS hl)
theorem jg_if_eq (C : gC p s m args c cc nL own ws) {x : Int32} {off : Int} {tgt : Nat} (hd : decode cc pc = .ok (.ifCond .eq off, 3)) (ht : (pc : Int) + off = (tgt : Int)) (hq : pc + 3 = q) (kt : x = 0 → jG p l e R s m args below meth c A Q nL cells slots P tgt lv (st)) (kf : ¬ (x = 0) → jG p l e R s m args below meth c A Q nL cells slots P q lv (st)) : jG p l e R s m args below meth c A Q nL cells slots P pc lv (.int x :: st) := by
  subst hq
  exact fun H locs ls hP hS hl => lv_if_eq C.1 C.2.1 hd ht (fun h => kt h H locs ls hP hS hl) (fun h => kf h H locs ls hP hS hl)
theorem jg_if_ne (C : gC p s m args c cc nL own ws) {x : Int32} {off : Int} {tgt : Nat} (hd : decode cc pc = .ok (.ifCond .ne off, 3)) (ht : (pc : Int) + off = (tgt : Int)) (hq : pc + 3 = q) (kt : ¬ x = 0 → jG p l e R s m args below meth c A Q nL cells slots P tgt lv (st)) (kf : x = 0 → jG p l e R s m args below meth c A Q nL cells slots P q lv (st)) : jG p l e R s m args below meth c A Q nL cells slots P pc lv (.int x :: st) := by
  subst hq
  exact fun H locs ls hP hS hl => lv_if_ne C.1 C.2.1 hd ht (fun h => kt h H locs ls hP hS hl) (fun h => kf h H locs ls hP hS hl)
theorem jg_icmp_eq (C : gC p s m args c cc nL own ws) {x y : Int32} {off : Int} {tgt : Nat} (hd : decode cc pc = .ok (.if_icmp .eq off, 3)) (ht : (pc : Int) + off = (tgt : Int)) (hq : pc + 3 = q) (kt : x = y → jG p l e R s m args below meth c A Q nL cells slots P tgt lv (st)) (kf : ¬ (x = y) → jG p l e R s m args below meth c A Q nL cells slots P q lv (st)) : jG p l e R s m args below meth c A Q nL cells slots P pc lv (.int y :: .int x :: st) := by
  subst hq
  exact fun H locs ls hP hS hl => lv_icmp_eq C.1 C.2.1 hd ht (fun h => kt h H locs ls hP hS hl) (fun h => kf h H locs ls hP hS hl)
theorem jg_icmp_ge (C : gC p s m args c cc nL own ws) {x y : Int32} {off : Int} {tgt : Nat} (hd : decode cc pc = .ok (.if_icmp .ge off, 3)) (ht : (pc : Int) + off = (tgt : Int)) (hq : pc + 3 = q) (kt : y ≤ x → jG p l e R s m args below meth c A Q nL cells slots P tgt lv (st)) (kf : ¬ (y ≤ x) → jG p l e R s m args below meth c A Q nL cells slots P q lv (st)) : jG p l e R s m args below meth c A Q nL cells slots P pc lv (.int y :: .int x :: st) := by
  subst hq
  exact fun H locs ls hP hS hl => lv_icmp_ge C.1 C.2.1 hd ht (fun h => kt h H locs ls hP hS hl) (fun h => kf h H locs ls hP hS hl)
theorem jg_icmp_gt (C : gC p s m args c cc nL own ws) {x y : Int32} {off : Int} {tgt : Nat} (hd : decode cc pc = .ok (.if_icmp .gt off, 3)) (ht : (pc : Int) + off = (tgt : Int)) (hq : pc + 3 = q) (kt : y < x → jG p l e R s m args below meth c A Q nL cells slots P tgt lv (st)) (kf : ¬ (y < x) → jG p l e R s m args below meth c A Q nL cells slots P q lv (st)) : jG p l e R s m args below meth c A Q nL cells slots P pc lv (.int y :: .int x :: st) := by
  subst hq
  exact fun H locs ls hP hS hl => lv_icmp_gt C.1 C.2.1 hd ht (fun h => kt h H locs ls hP hS hl) (fun h => kf h H locs ls hP hS hl)
theorem jg_icmp_le (C : gC p s m args c cc nL own ws) {x y : Int32} {off : Int} {tgt : Nat} (hd : decode cc pc = .ok (.if_icmp .le off, 3)) (ht : (pc : Int) + off = (tgt : Int)) (hq : pc + 3 = q) (kt : x ≤ y → jG p l e R s m args below meth c A Q nL cells slots P tgt lv (st)) (kf : ¬ (x ≤ y) → jG p l e R s m args below meth c A Q nL cells slots P q lv (st)) : jG p l e R s m args below meth c A Q nL cells slots P pc lv (.int y :: .int x :: st) := by
  subst hq
  exact fun H locs ls hP hS hl => lv_icmp_le C.1 C.2.1 hd ht (fun h => kt h H locs ls hP hS hl) (fun h => kf h H locs ls hP hS hl)
theorem jg_goto (C : gC p s m args c cc nL own ws) {off : Int} {tgt : Nat} (hd : decode cc pc = .ok (.goto off, 3)) (ht : (pc : Int) + off = (tgt : Int)) (kk : jG p l e R s m args below meth c A Q nL cells slots P tgt lv (st)) : jG p l e R s m args below meth c A Q nL cells slots P pc lv (st) := fun H locs ls hP hS hl => lv_goto C.1 C.2.1 hd ht (kk H locs ls hP hS hl)
theorem jg_tabO (C : gC p s m args c cc nL own ws) {dflt lo hi : Int} {offs : Array Int} {len : Nat} {x : Int32} {tgt : Nat} (hd : decode cc pc = .ok (.tableswitch dflt lo hi offs, len)) (h : x.toInt < lo ∨ hi < x.toInt) (ht : (pc : Int) + dflt = (tgt : Int)) (kk : jG p l e R s m args below meth c A Q nL cells slots P tgt lv (st)) : jG p l e R s m args below meth c A Q nL cells slots P pc lv (.int x :: st) := fun H locs ls hP hS hl => lv_tableOut C.1 C.2.1 hd h ht (kk H locs ls hP hS hl)
theorem jg_tabI (C : gC p s m args c cc nL own ws) {dflt lo hi : Int} {offs : Array Int} {len : Nat} {x : Int32} {off : Int} {tgt : Nat} (v : Int32) (hx : x = v) (hd : decode cc pc = .ok (.tableswitch dflt lo hi offs, len)) (h1 : ¬ v.toInt < lo) (h2 : ¬ hi < v.toInt) (ho : offs[(v.toInt - lo).toNat]? = some off) (ht : (pc : Int) + off = (tgt : Int)) (kk : jG p l e R s m args below meth c A Q nL cells slots P tgt lv (st)) : jG p l e R s m args below meth c A Q nL cells slots P pc lv (.int x :: st) := by
  subst hx
  exact fun H locs ls hP hS hl => lv_tableIn C.1 C.2.1 hd h1 h2 ho ht (kk H locs ls hP hS hl)
theorem jg_sub {lv2 : List (Nat × Value)} (ks : List Nat) (h : lv_pick lv ks = lv2) (kk : jG p l e R s m args below meth c A Q nL cells slots P pc lv2 (st)) : jG p l e R s m args below meth c A Q nL cells slots P pc lv (st) := fun H locs ls hP hS hl => kk H locs ls hP hS (lv_sub hl ks h)
theorem jg_wide {k n : Nat} (h1 : cells ≤ k) (h2 : slots ≤ n) (kk : jG p l e R s m args below meth c A Q nL k n P pc lv (st)) : jG p l e R s m args below meth c A Q nL cells slots P pc lv (st) := fun H locs ls hP hS hl => W.widen h1 h2 (kk H locs ls hP hS hl)
theorem jg_obj (C : gC p s m args c cc nL own ws) {a idx : Nat} (h1 : Cond.methodLink own idx Lib.objectInit ∈ ws) (h2 : Cond.instanceMethod Lib.objectInit ∈ ws) (h3 : Cond.code Lib.objectInit ⟨#[0xb1]⟩ 1 none ∈ ws) (hf : 1 ≤ R.frames) (hlo : (st.map fun v => v.category).sum + 12 ≤ R.locals) (hd : decode cc pc = .ok (.invokespecial idx, 3)) (hq : pc + 3 = q) (kk : jG p l e R s m args below meth c A Q nL cells slots P q lv (st)) : jG p l e R s m args below meth c A Q nL cells slots P pc lv (.ref a :: st) := by
  subst hq
  exact fun H locs ls hP hS hl => W.objInit C.1 C.2.1 C.2.2.2.1 (C.2.2.2.2 _ h1) (C.2.2.2.2 _ h2) (C.2.2.2.2 _ h3) rfl (by rw [C.2.2.1]; exact hl.1) rfl hd hf (by show 2 * 0 + _ + 12 ≤ _; omega) (kk H locs ls hP hS hl)
end JG
section JQ
variable {p : Program} {l : Launch} {e : Env} {R : Room} {s : State} {m : MethodId} {args : Array Value} {below : List Frame} {meth : Method} {c : Code} {cc : ByteArray} {nL : Nat} {own : String} {ws : List Cond} {Q : State → Prop} {cells slots : Nat} {D : va_G} {cy : Nat → ClassId} {z n : Nat} {μ : mm_T} {ρ : mm_R} {pc q : Nat} {lv : List (Nat × Value)} {st : List Value}
theorem jq_new (C : gC p s m args c cc nL own ws) (hK : va_K D vwCl (mm_ty cy) s) (h0 : z ≤ s.heap.size) {f i ci N index : Nat} {Cn : String} {T : u_T} (hft : mm_ft[n]? = some (f, i)) (hk : mm_kd f = (0, ci)) (hc : vwCl[ci]? = some (Cn, T, N)) (hns : mm_ns ci = N) (hw : ∀ w ∈ u_ws Cn T N, w ∈ ws) (ty0 : Nat → FieldType) (hty : ∀ k, k < N → parseFieldDescriptor (T k).2.2.1 = some (ty0 k)) (hdv : ∀ j, j < N → defaultValue (ty0 j) = (if mm_st ci j = 0 then Value.int 0 else if mm_st ci j = 1 then .long 0 else .null)) (h1 : Cond.classLink own index Cn ∈ ws) (h2 : Cond.instantiable Cn N ∈ ws) (h3 : Cond.initialized Cn ∈ ws) (hcells : cells + 1 ≤ R.cells) (hslots : slots + N ≤ R.slots) (hd : decode cc pc = .ok (.new index, 3)) (hq : pc + 3 = q)
    (kk : jG p l e R s m args below meth c (mm_B z) Q nL (cells + 1) (slots + N) (mn_P D cy z (n + 1) (mm_Z μ f i) (mr_Z ρ f i)) q lv (.ref (z + mm_ad f i) :: st)) : jG p l e R s m args below meth c (mm_B z) Q nL cells slots (mn_P D cy z n μ ρ) pc lv (st) := by
  subst hq
  intro H locs ls hP hS hl
  obtain ⟨hP, hz⟩ := hP
  have hKn := hK.1 ci _ hc
  have had : mm_ad f i = n := (mm_bk' hft).2
  refine W.newcK C.1 C.2.1 C.2.2.2.1 (C.2.2.2.2 _ h1) (C.2.2.2.2 _ h2) (C.2.2.2.2 _ h3) rfl hd hcells hslots hKn.2.1 hz fun H1 kC hkC e1 z1 o1 => ?_
  have hk' : ∀ (k : Nat) (x : Nat × va_E), (mn_ws cy z n μ ρ)[k]? = some x → H1[x.1]? = H[x.1]? := fun k x hx => o1 x.1 (by have := (hP k x hx).lt; omega)
  have hP1 : va_P D vwCl (mn_ws cy z (n + 1) (mm_Z μ f i) (mr_Z ρ f i)) H1 := by
    rw [← mn_push hft (mn_offZ μ ρ f i)]
    refine (hP.kept hk').app (fun k x hx => ?_)
    have hz0 : k < 1 := (List.getElem?_eq_some_iff.mp hx).1
    rw [show k = 0 by omega] at hx
    cases hx
    rw [mn_ceO hk]
    refine ⟨_, hc, (u_born ty0 C.2.2.2.2 hw hKn hkC e1 hty).to (fun j hj => ?_)⟩
    show defaultValue (ty0 j) = vp_V _ j
    unfold vp_V
    rw [hdv j hj, List.getD_eq_getElem?_getD, mm_at2 _ _ _ (by rw [hns]; exact hj)]
    show _ = mn_sl z (mm_Z μ f i) (mr_Z ρ f i) f i j (mm_st ci j)
    unfold mn_sl
    rw [mm_Z1, mm_Z2, mr_Zs]
    rfl
  have hkk := kk H1 locs ls ⟨hP1, by omega⟩ ⟨Nat.le_trans hS.1 (by omega), fun x h1 h2 => (o1 x (by have := hS.1; omega)).trans (hS.2.1 x h1 h2), hS.2.2⟩ hl
  rw [had] at hkk
  exact hkk
theorem jq_newI (C : gC p s m args c cc nL own ws) (hK : va_K D vwCl (mm_ty cy) s) (h0 : z ≤ s.heap.size) {f i N : Nat} {x : Int32} (hft : mm_ft[n]? = some (f, i)) (hk : mm_kd f = (1, N)) (ha : Cond.arrayClass .int ∈ ws) (hx0 : ¬ x < 0) (hx : x.toNatClampNeg = N) (hb8 : N ≤ 65536) (hcells : cells + 1 ≤ R.cells) (hslots : slots + N ≤ R.slots) (hd : decode cc pc = .ok (.newarray .int, 2)) (hq : pc + 2 = q)
    (kk : jG p l e R s m args below meth c (mm_B z) Q nL (cells + 1) (slots + N) (mn_P D cy z (n + 1) (mm_Z μ f i) (mr_Z ρ f i)) q lv (.ref (z + mm_ad f i) :: st)) : jG p l e R s m args below meth c (mm_B z) Q nL cells slots (mn_P D cy z n μ ρ) pc lv (.int x :: st) := by
  subst hq
  intro H locs ls hP hS hl
  obtain ⟨hP, hz⟩ := hP
  have had : mm_ad f i = n := (mm_bk' hft).2
  refine va_newaK (atype := .int) C.1 C.2.1 (C.2.2.2.2 _ ha) rfl hd rfl hx0 hx (Nat.le_trans (Nat.mul_le_mul hb8 (show componentBytes .int ≤ 8 by decide)) (by decide)) hcells hslots hz fun H1 cA e1 z1 o1 hAr hNm => ?_
  have hcA : cA = cy 0 := Option.some.inj (hNm.symm.trans (hK.2 0 _ rfl).2)
  subst hcA
  have hk' : ∀ (k : Nat) (x : Nat × va_E), (mn_ws cy z n μ ρ)[k]? = some x → H1[x.1]? = H[x.1]? := fun k x hx => o1 x.1 (by have := (hP k x hx).lt; omega)
  have hP1 : va_P D vwCl (mn_ws cy z (n + 1) (mm_Z μ f i) (mr_Z ρ f i)) H1 := by
    rw [← mn_push hft (mn_offZ μ ρ f i)]
    refine (hP.kept hk').app (fun k x hx => ?_)
    have hz0 : k < 1 := (List.getElem?_eq_some_iff.mp hx).1
    rw [show k = 0 by omega] at hx
    cases hx
    rw [mn_ceI hk, mm_Z1]
    show H1[z + n]? = some (vp_cell _ _)
    rw [vp_cell_i]
    exact e1
  have hkk := kk H1 locs ls ⟨hP1, by omega⟩ ⟨Nat.le_trans hS.1 (by omega), fun x h1 h2 => (o1 x (by have := hS.1; omega)).trans (hS.2.1 x h1 h2), hS.2.2⟩ hl
  rw [had] at hkk
  exact hkk
theorem jq_newJ (C : gC p s m args c cc nL own ws) (hK : va_K D vwCl (mm_ty cy) s) (h0 : z ≤ s.heap.size) {f i N : Nat} {x : Int32} (hft : mm_ft[n]? = some (f, i)) (hk : mm_kd f = (2, N)) (ha : Cond.arrayClass .long ∈ ws) (hx0 : ¬ x < 0) (hx : x.toNatClampNeg = N) (hb8 : N ≤ 65536) (hcells : cells + 1 ≤ R.cells) (hslots : slots + N ≤ R.slots) (hd : decode cc pc = .ok (.newarray .long, 2)) (hq : pc + 2 = q)
    (kk : jG p l e R s m args below meth c (mm_B z) Q nL (cells + 1) (slots + N) (mn_P D cy z (n + 1) (mm_Z μ f i) (mr_Z ρ f i)) q lv (.ref (z + mm_ad f i) :: st)) : jG p l e R s m args below meth c (mm_B z) Q nL cells slots (mn_P D cy z n μ ρ) pc lv (.int x :: st) := by
  subst hq
  intro H locs ls hP hS hl
  obtain ⟨hP, hz⟩ := hP
  have had : mm_ad f i = n := (mm_bk' hft).2
  refine va_newaK (atype := .long) C.1 C.2.1 (C.2.2.2.2 _ ha) rfl hd rfl hx0 hx (Nat.le_trans (Nat.mul_le_mul hb8 (show componentBytes .long ≤ 8 by decide)) (by decide)) hcells hslots hz fun H1 cA e1 z1 o1 hAr hNm => ?_
  have hcA : cA = cy 1 := Option.some.inj (hNm.symm.trans (hK.2 1 _ rfl).2)
  subst hcA
  have hk' : ∀ (k : Nat) (x : Nat × va_E), (mn_ws cy z n μ ρ)[k]? = some x → H1[x.1]? = H[x.1]? := fun k x hx => o1 x.1 (by have := (hP k x hx).lt; omega)
  have hP1 : va_P D vwCl (mn_ws cy z (n + 1) (mm_Z μ f i) (mr_Z ρ f i)) H1 := by
    rw [← mn_push hft (mn_offZ μ ρ f i)]
    refine (hP.kept hk').app (fun k x hx => ?_)
    have hz0 : k < 1 := (List.getElem?_eq_some_iff.mp hx).1
    rw [show k = 0 by omega] at hx
    cases hx
    rw [mn_ceJ hk, mm_Z2]
    show H1[z + n]? = some (vp_cell _ _)
    rw [vp_cell_l]
    exact e1
  have hkk := kk H1 locs ls ⟨hP1, by omega⟩ ⟨Nat.le_trans hS.1 (by omega), fun x h1 h2 => (o1 x (by have := hS.1; omega)).trans (hS.2.1 x h1 h2), hS.2.2⟩ hl
  rw [had] at hkk
  exact hkk
theorem jq_newZ (C : gC p s m args c cc nL own ws) (hK : va_K D vwCl (mm_ty cy) s) (h0 : z ≤ s.heap.size) {f i N : Nat} {x : Int32} (hft : mm_ft[n]? = some (f, i)) (hk : mm_kd f = (3, N)) (ha : Cond.arrayClass .boolean ∈ ws) (hx0 : ¬ x < 0) (hx : x.toNatClampNeg = N) (hb8 : N ≤ 65536) (hcells : cells + 1 ≤ R.cells) (hslots : slots + N ≤ R.slots) (hd : decode cc pc = .ok (.newarray .boolean, 2)) (hq : pc + 2 = q)
    (kk : jG p l e R s m args below meth c (mm_B z) Q nL (cells + 1) (slots + N) (mn_P D cy z (n + 1) (mm_Z μ f i) (mr_Z ρ f i)) q lv (.ref (z + mm_ad f i) :: st)) : jG p l e R s m args below meth c (mm_B z) Q nL cells slots (mn_P D cy z n μ ρ) pc lv (.int x :: st) := by
  subst hq
  intro H locs ls hP hS hl
  obtain ⟨hP, hz⟩ := hP
  have had : mm_ad f i = n := (mm_bk' hft).2
  refine va_newaK (atype := .boolean) C.1 C.2.1 (C.2.2.2.2 _ ha) rfl hd rfl hx0 hx (Nat.le_trans (Nat.mul_le_mul hb8 (show componentBytes .boolean ≤ 8 by decide)) (by decide)) hcells hslots hz fun H1 cA e1 z1 o1 hAr hNm => ?_
  have hcA : cA = cy 2 := Option.some.inj (hNm.symm.trans (hK.2 2 _ rfl).2)
  subst hcA
  have hk' : ∀ (k : Nat) (x : Nat × va_E), (mn_ws cy z n μ ρ)[k]? = some x → H1[x.1]? = H[x.1]? := fun k x hx => o1 x.1 (by have := (hP k x hx).lt; omega)
  have hP1 : va_P D vwCl (mn_ws cy z (n + 1) (mm_Z μ f i) (mr_Z ρ f i)) H1 := by
    rw [← mn_push hft (mn_offZ μ ρ f i)]
    refine (hP.kept hk').app (fun k x hx => ?_)
    have hz0 : k < 1 := (List.getElem?_eq_some_iff.mp hx).1
    rw [show k = 0 by omega] at hx
    cases hx
    rw [mn_ceZ hk, mm_Z1]
    show H1[z + n]? = some (vp_cell _ _)
    rw [vp_cell_i]
    exact e1
  have hkk := kk H1 locs ls ⟨hP1, by omega⟩ ⟨Nat.le_trans hS.1 (by omega), fun x h1 h2 => (o1 x (by have := hS.1; omega)).trans (hS.2.1 x h1 h2), hS.2.2⟩ hl
  rw [had] at hkk
  exact hkk
theorem jq_newR (C : gC p s m args c cc nL own ws) (hK : va_K D vwCl (mm_ty cy) s) (h0 : z ≤ s.heap.size) {f i N t index : Nat} {Cn : String} {x : Int32} (hft : mm_ft[n]? = some (f, i)) (hk : mm_kd f = (t + 4, N)) (htt : (mm_ty cy)[t + 3]? = some (cy (t + 3), .object Cn)) (hov : va_AO Cn s) (h1 : Cond.classLink own index Cn ∈ ws) (hx0 : ¬ x < 0) (hx : x.toNatClampNeg = N) (hb8 : N ≤ 65536) (hcells : cells + 1 ≤ R.cells) (hslots : slots + N ≤ R.slots) (hd : decode cc pc = .ok (.anewarray index, 3)) (hq : pc + 3 = q)
    (kk : jG p l e R s m args below meth c (mm_B z) Q nL (cells + 1) (slots + N) (mn_P D cy z (n + 1) (mm_Z μ f i) (mr_Z ρ f i)) q lv (.ref (z + mm_ad f i) :: st)) : jG p l e R s m args below meth c (mm_B z) Q nL cells slots (mn_P D cy z n μ ρ) pc lv (.int x :: st) := by
  subst hq
  subst hx
  intro H locs ls hP hS hl
  obtain ⟨hP, hz⟩ := hP
  have had : mm_ad f i = n := (mm_bk' hft).2
  refine W.anew C.1 C.2.1 C.2.2.2.1 (C.2.2.2.2 _ h1) (va_AO.use hov) rfl hd rfl hx0 (by omega) hcells hslots fun cA kA comp f1 f2 f3 f4 => ?_
  generalize hH1 : H.push ({ cls := cA, slots := Array.replicate x.toNatClampNeg .null, vm := .none } : Cell) = H1
  have z1 : H1.size = H.size + 1 := by rw [← hH1, Array.size_push]
  have e1 : H1[H.size]? = some (arrV cA x.toNatClampNeg (fun _ => .null)) := by rw [← hH1, Array.getElem?_push_size, ← arrV_new]
  have o1 : ∀ q : Nat, q < H.size → H1[q]? = H[q]? := fun q hq => by rw [← hH1, Array.getElem?_push, if_neg (Nat.ne_of_lt hq)]
  have hcA : cA = cy (t + 3) := by
    obtain ⟨kA2, comp2, g1, g2, g3, g4⟩ := (hK.2 (t + 3) _ htt).2
    exact Option.some.inj (f1.symm.trans g4)
  subst hcA
  have hk' : ∀ (k : Nat) (x : Nat × va_E), (mn_ws cy z n μ ρ)[k]? = some x → H1[x.1]? = H[x.1]? := fun k x hx => o1 x.1 (hP k x hx).lt
  have hP1 : va_P D vwCl (mn_ws cy z (n + 1) (mm_Z μ f i) (mr_Z ρ f i)) H1 := by
    rw [← mn_push hft (mn_offZ μ ρ f i)]
    refine (hP.kept hk').app (fun k x hx => ?_)
    have hz0 : k < 1 := (List.getElem?_eq_some_iff.mp hx).1
    rw [show k = 0 by omega] at hx
    cases hx
    rw [mn_ceR hk, mr_Zs]
    show H1[z + n]? = some (vp_cell _ _)
    rw [vp_cell_q, ← hz]
    exact e1
  have hkk := kk H1 locs ls ⟨hP1, by omega⟩ ⟨Nat.le_trans hS.1 (by omega), fun x h1 h2 => (o1 x (Nat.lt_of_lt_of_le h1 hS.1)).trans (hS.2.1 x h1 h2), hS.2.2⟩ hl
  rw [had, ← hz] at hkk
  exact hkk
theorem jq_getR (C : gC p s m args c cc nL own ws) (hK : va_K D vwCl (mm_ty cy) s) (h0 : z ≤ s.heap.size) {Cn : String} {T : u_T} {N ci j i f index k : Nat} (hi : i < mm_cn f) (hin : mm_ad f i < n) (hk : mm_kd f = (0, ci)) (hc : vwCl[ci]? = some (Cn, T, N)) (hj : j < N) (hn : mm_ns ci = N) (hs : mm_st ci j = 2) (hr : ρ f i j = some k) (hw : ∀ w ∈ u_ws Cn T N, w ∈ ws) (hl0 : Cond.fieldLink own index Cn (T j).2.1 (T j).2.2.1 ∈ ws) (hd : decode cc pc = .ok (.getfield index, 3)) (ho : (T j).1 = Cn) (hq : pc + 3 = q) (kk : jG p l e R s m args below meth c (mm_B z) Q nL cells slots (mn_P D cy z n μ ρ) q lv (.ref (z + k) :: st)) : jG p l e R s m args below meth c (mm_B z) Q nL cells slots (mn_P D cy z n μ ρ) pc lv (.ref (z + mm_ad f i) :: st) := by
  subst hq
  intro H locs ls hP hS hl
  refine va_get (D := D) (cl := vwCl) (tys := mm_ty cy) (ci := ci) (C := Cn) (T := T) (N := N) (v := .ref (z + k)) C.1 C.2.1 C.2.2.2.2 hw C.2.2.2.1 hK hP.1 (mm_ad f i) ((mn_wsat cy z μ ρ hi hin).trans (congrArg (fun e => some (z + mm_ad f i, e)) (mn_ceO hk i))) hc j hj (C.2.2.2.2 _ hl0) (by rw [ho]; exact fun _ h => h) ?_ hd (kk H locs ls hP hS hl)
  rw [mm_at2 _ _ _ (by rw [hn]; exact hj), hs]
  show some (va_rf ((ρ f i j).map (fun k => z + k))) = _
  rw [hr]
  rfl
theorem jq_putF (C : gC p s m args c cc nL own ws) (hK : va_K D vwCl (mm_ty cy) s) (h0 : z ≤ s.heap.size) {Cn : String} {T : u_T} {N ci j i f index k : Nat} (hi : i < mm_cn f) (hin : mm_ad f i < n) (hk : mm_kd f = (0, ci)) (hc : vwCl[ci]? = some (Cn, T, N)) (hj : j < N) (hn : mm_ns ci = N) (hs : mm_st ci j = 2) (hini : meth.name = "<init>") (hdc : (T j).1 = own) (ty0 : Nat → FieldType) (hty : ∀ k, k < N → parseFieldDescriptor (T k).2.2.1 = some (ty0 k)) (hnm : ∀ a, a < N → ∀ b, b < N → a ≠ b → (T a).2.1 ≠ (T b).2.1) (hfin : (T j).2.2.2 = true) {ty : FieldType} (hd0 : parseFieldDescriptor (T j).2.2.1 = some ty) (hna : narrow ty (.ref (z + k)) = .ref (z + k)) (hfi : fits ty (.ref (z + k)) = true) (hw : ∀ w ∈ u_ws Cn T N, w ∈ ws) (hl0 : Cond.fieldLink own index Cn (T j).2.1 (T j).2.2.1 ∈ ws) (hd : decode cc pc = .ok (.putfield index, 3)) (ho : (T j).1 = Cn) (hq : pc + 3 = q) (kk : jG p l e R s m args below meth c (mm_B z) Q nL cells slots (mn_P D cy z n μ (mr_W ρ f i j k)) q lv (st)) : jG p l e R s m args below meth c (mm_B z) Q nL cells slots (mn_P D cy z n μ ρ) pc lv (.ref (z + k) :: .ref (z + mm_ad f i) :: st) := by
  subst hq
  intro H locs ls hP hS hl
  obtain ⟨hP, hz⟩ := hP
  have hat := (mn_wsat cy z μ ρ hi hin).trans (congrArg (fun e => some (z + mm_ad f i, e)) (mn_ceO hk i))
  have hset : ((List.range (mm_ns ci)).map (fun j => mn_sl z μ ρ f i j (mm_st ci j))).set j (.ref (z + k)) = (List.range (mm_ns ci)).map (fun c => mn_sl z μ (mr_W ρ f i j k) f i c (mm_st ci c)) := by
    refine mm_ls _ _ _ _ _ (by rw [hn]; exact hj) ?_ (fun c hcj => ?_)
    · show mn_sl z μ (mr_W ρ f i j k) f i j (mm_st ci j) = .ref (z + k)
      rw [hs]
      show va_rf ((mr_W ρ f i j k f i j).map (fun k => z + k)) = Value.ref (z + k)
      rw [mr_Ws]
      simp [va_rf]
    · show mn_sl z μ (mr_W ρ f i j k) f i c (mm_st ci c) = mn_sl z μ ρ f i c (mm_st ci c)
      have h1 : mr_W ρ f i j k f i c = ρ f i c := by
        rw [mr_Ws]
        simp [hcj]
      unfold mn_sl
      rw [h1]
  have hw2 : (mn_ws cy z n μ ρ).set (mm_ad f i) (z + mm_ad f i, .inr (ci, ((List.range (mm_ns ci)).map (fun j => mn_sl z μ ρ f i j (mm_st ci j))).set j (.ref (z + k)))) = mn_ws cy z n μ (mr_W ρ f i j k) := by
    rw [hset, ← mn_ceO (cy := cy) hk i]
    exact mn_set hi hin (mn_offW μ ρ f i j k)
  have hap := va_apart (own := own) C.2.2.2.2 hw ty0 hty hnm hK hc
  obtain ⟨r, hr1, cell, q1, q2, q3, q4⟩ := hP _ _ hat
  have hr : r = (Cn, T, N) := Option.some.inj (hr1.symm.trans hc)
  subst hr
  obtain ⟨hSl, hfc, kC, hkC, hkind⟩ := hK.1 ci _ hc
  obtain ⟨cf, kf, fi, fd, hfi2, hsl⟩ := hSl j hj
  have hlay := C.2.2.2.2 _ (hw _ (u_in_lay hj))
  unfold u_lay at hlay
  rw [if_pos hfin] at hlay
  have hst := (u_facts hfc hkC (u_lays C.2.2.2.2 hw hj) hfi2).1
  have hcf : m.cls = cf := by
    obtain ⟨_, _, c', _, _, _, -, -, hf', -, -, -, hown2, -⟩ := Cond.laysFinal_spec hlay
    have e1 : c' = cf := by have := hfi2.symm.trans hf'; simp at this; exact this.1.symm
    rw [hdc] at hown2
    rw [← e1]; exact Option.some.inj (C.2.2.2.1.symm.trans hown2)
  have h6 := u_fits hfc hkC hkind (Or.inr hlay) hfi2 hd0 hna hfi
  have hlen : j < ((List.range (mm_ns ci)).map (fun j => mn_sl z μ ρ f i j (mm_st ci j))).length := by simp; rw [hn]; exact hj
  refine W.putFinK C.1 C.2.1 C.2.2.2.1 (C.2.2.2.2 _ hl0) (f := fd) (by rw [ho] at hfi2; exact hfi2) hst hcf hini (by rw [q2]; exact h6) q1 q3 (by rw [hsl]; exact k2_hasslot (q4 j hj)) rfl rfl hd fun H1 e1 e2 e3 => ?_
  rw [hsl] at e1
  have hP1 := hP.set (mn_D cy z n μ ρ) hat (e := .inr (ci, ((List.range (mm_ns ci)).map (fun j => mn_sl z μ ρ f i j (mm_st ci j))).set j (.ref (z + k)))) ⟨_, hc, t_OB.to (V := updV (vp_V _) j (.ref (z + k))) ⟨_, e1, q2, q3, t_set q4 hap hj _⟩ (fun c _ => vp_updV_set hlen _ c)⟩ e3
  rw [hw2] at hP1
  exact kk H1 _ ls ⟨hP1, by omega⟩ (hS.put e2 e3 ((mn_D cy z n μ ρ).2 _ _ hat)) hl
theorem jq_iast (C : gC p s m args c cc nL own ws) (hK : va_K D vwCl (mm_ty cy) s) (h0 : z ≤ s.heap.size) {f i N : Nat} {x v : Int32} (hi : i < mm_cn f) (hin : mm_ad f i < n) (hk : mm_kd f = (1, N)) (hx : vp_in x N) (hd : decode cc pc = .ok (.iastore, 1)) (hq : pc + 1 = q) (kk : jG p l e R s m args below meth c (mm_B z) Q nL cells slots (mn_P D cy z n (mm_I μ f i x.toNatClampNeg v) ρ) q lv (st)) : jG p l e R s m args below meth c (mm_B z) Q nL cells slots (mn_P D cy z n μ ρ) pc lv (.int v :: .int x :: .ref (z + mm_ad f i) :: st) := by
  subst hq
  intro H locs ls hP hS hl
  obtain ⟨hP, hz⟩ := hP
  have hat := (mn_wsat cy z μ ρ hi hin).trans (congrArg (fun e => some (z + mm_ad f i, e)) (mn_ceI hk i))
  have hw2 : (mn_ws cy z n μ ρ).set (mm_ad f i) (z + mm_ad f i, .inl (cy 0, N, .inl (upd (μ.1 f i) x.toNatClampNeg v))) = mn_ws cy z n (mm_I μ f i x.toNatClampNeg v) ρ := by
    rw [← mn_set (cy := cy) (z := z) hi hin (mn_offI μ ρ f i x.toNatClampNeg v), mn_ceI hk i, mm_Is]
  refine W.iast C.1 C.2.1 (hP _ _ hat) ((hK.2 0 _ rfl).1 N (fun j => .int (μ.1 f i j))) (fun q => by cases q) (by show ¬ (x < 0 ∨ (arrV _ _ _).slots.size ≤ _); rw [arrV_size]; exact hx) rfl rfl hd fun H1 e1 e2 e3 => ?_
  have hP1 := hP.set (mn_D cy z n μ ρ) hat (e := .inl (cy 0, N, .inl (upd (μ.1 f i) x.toNatClampNeg v))) (by
    show H1[z + mm_ad f i]? = some (vp_cell _ _)
    rw [e1, vp_cell_i, vp_cell_i, arrV_store]
    congr 2
    funext q
    by_cases hq : q = x.toNatClampNeg
    · subst hq
      simp [updV, upd]
    · simp [updV, upd, hq]) e3
  rw [hw2] at hP1
  exact kk H1 _ ls ⟨hP1, by omega⟩ (hS.put e2 e3 ((mn_D cy z n μ ρ).2 _ _ hat)) hl
theorem jq_aast (C : gC p s m args c cc nL own ws) (hK : va_K D vwCl (mm_ty cy) s) (h0 : z ≤ s.heap.size) {f i N t ci F I : Nat} {vq : vw_C} {x : Int32} (hi : i < mm_cn f) (hin : mm_ad f i < n) (hk : mm_kd f = (t + 4, N)) (htt : (mm_ty cy)[t + 3]? = some (cy (t + 3), .object vq.1)) (hI : I < mm_cn F) (hIn : mm_ad F I < n) (hkF : mm_kd F = (0, ci)) (hvq : vwCl[ci]? = some vq) (hx : vp_in x N) (hd : decode cc pc = .ok (.aastore, 1)) (hq : pc + 1 = q) (kk : jG p l e R s m args below meth c (mm_B z) Q nL cells slots (mn_P D cy z n μ (mr_W ρ f i x.toNatClampNeg (mm_ad F I))) q lv (st)) : jG p l e R s m args below meth c (mm_B z) Q nL cells slots (mn_P D cy z n μ ρ) pc lv (.ref (z + mm_ad F I) :: .int x :: .ref (z + mm_ad f i) :: st) := by
  subst hq
  intro H locs ls hP hS hl
  obtain ⟨hP, hz⟩ := hP
  have hat := (mn_wsat cy z μ ρ hi hin).trans (congrArg (fun e => some (z + mm_ad f i, e)) (mn_ceR hk i))
  have hav := (mn_wsat cy z μ ρ hI hIn).trans (congrArg (fun e => some (z + mm_ad F I, e)) (mn_ceO hkF I))
  have h0' : ¬ x < 0 := fun q => hx (Or.inl q)
  have hlt : x.toNatClampNeg < N := Nat.not_le.mp fun q => hx (Or.inr q)
  have hw2 : (mn_ws cy z n μ ρ).set (mm_ad f i) (z + mm_ad f i, .inl (cy (t + 3), N, .inr (.inr (.inr (.inr (va_up (fun j => (ρ f i j).map (fun k => z + k)) x.toNatClampNeg (some (z + mm_ad F I)))))))) = mn_ws cy z n μ (mr_W ρ f i x.toNatClampNeg (mm_ad F I)) := by
    have hfun : va_up (fun j => (ρ f i j).map (fun k => z + k)) x.toNatClampNeg (some (z + mm_ad F I)) = fun j => (mr_W ρ f i x.toNatClampNeg (mm_ad F I) f i j).map (fun k => z + k) := by
      funext j
      rw [mr_Ws]
      by_cases hj : j = x.toNatClampNeg
      · subst hj
        simp [va_up]
      · simp [va_up, hj]
    rw [hfun, ← mn_ceR (cy := cy) (μ := μ) (ρ := mr_W ρ f i x.toNatClampNeg (mm_ad F I)) hk i]
    exact mn_set hi hin (mn_offW μ ρ f i x.toNatClampNeg (mm_ad F I))
  obtain ⟨r', hr', cellV, g1, g2, g3, -⟩ := hP _ _ hav
  have hcls := (hK.1 ci vq hvq).2
  obtain ⟨kA, comp, k1, k2, k3, -⟩ := (hK.2 (t + 3) _ htt).2
  have hcomp : comp = D.1 ci := Option.some.inj (k3.symm.trans hcls.1)
  subst hcomp
  obtain ⟨kC, hkC, -⟩ := hcls.2
  refine W.aast C.1 C.2.1 (hP _ _ hat) (fun q h => by cases h) (fun h => by cases h) k1 k2 rfl hkC ⟨h0', by show _ < (arrV _ _ _).slots.size; rw [arrV_size]; exact hlt⟩ g1 (fun q h => by rw [g3] at h; cases h) (by rw [g2]; exact hkC) (by rw [g2]; exact va_assign hcls) rfl rfl hd fun H1 e1 e2 e3 => ?_
  have hP1 := hP.set (mn_D cy z n μ ρ) hat (e := .inl (cy (t + 3), N, .inr (.inr (.inr (.inr (va_up (fun j => (ρ f i j).map (fun k => z + k)) x.toNatClampNeg (some (z + mm_ad F I)))))))) (by
    show H1[z + mm_ad f i]? = some (vp_cell _ _)
    rw [e1, vp_cell_q, vp_cell_q, arrV_store]
    congr 2
    funext q
    by_cases hq : q = x.toNatClampNeg
    · subst hq
      simp [updV, va_up, va_rf]
    · simp [updV, va_up, hq]) e3
  rw [hw2] at hP1
  exact kk H1 _ ls ⟨hP1, by omega⟩ (hS.put e2 e3 ((mn_D cy z n μ ρ).2 _ _ hat)) hl
theorem jq_alen (C : gC p s m args c cc nL own ws) (hK : va_K D vwCl (mm_ty cy) s) (h0 : z ≤ s.heap.size) {f i N t : Nat} {ty : FieldType} {v : Int32} (hi : i < mm_cn f) (hin : mm_ad f i < n) (hk : mm_kd f = (t + 4, N)) (htt : (mm_ty cy)[t + 3]? = some (cy (t + 3), ty)) (hv : Int32.ofNat N = v) (hd : decode cc pc = .ok (.arraylength, 1)) (hq : pc + 1 = q) (kk : jG p l e R s m args below meth c (mm_B z) Q nL cells slots (mn_P D cy z n μ ρ) q lv (.int v :: st)) : jG p l e R s m args below meth c (mm_B z) Q nL cells slots (mn_P D cy z n μ ρ) pc lv (.ref (z + mm_ad f i) :: st) := by
  subst hq
  exact fun H locs ls hP hS hl => va_alen (tys := mm_ty cy) C.1 C.2.1 hK hP.1 (mm_ad f i) (t + 3) ((mn_wsat cy z μ ρ hi hin).trans (congrArg (fun e => some (z + mm_ad f i, e)) (mn_ceR hk i))) htt hv hd (kk H locs ls hP hS hl)
theorem jq_vret (C : gC p s m args c cc nL own ws) (hK : va_K D vwCl (mm_ty cy) s) (h0 : z ≤ s.heap.size) {n1 : Nat} {Po : mm_T → mm_R → Prop} (hr : meth.sig.returnType = none) (hlk : meth.locks = false) (hn : n = n1) (hd : decode cc pc = .ok (.return_, 1)) (h : Po μ ρ) : jG p l e R s m args below meth c (mm_B z) (MQ below (va_Qv (fun u : mm_T × mm_R => Po u.1 u.2) (fun u t => mn_P D cy z n1 u.1 u.2 t.heap) (mm_B z)) args s cells slots (mm_B z)) nL cells slots (mn_P D cy z n μ ρ) pc lv [] := by
  subst hn
  exact fun H locs ls hP hS hl => W.vret C.1 C.2.1 hr (fun t ht hW => ⟨⟨(μ, ρ), rfl, h, by show mn_P D cy z n μ ρ t.heap; rw [ht]; exact hP⟩, hS.F ht⟩) hS.2.2 hd hlk
theorem jq_call (C : gC p s m args c cc nL own ws) (hK : va_K D vwCl (mm_ty cy) s) (h0 : z ≤ s.heap.size) (hX : mn_X s) {y : MethodName} {ws1 ws2 : List Cond} {rm : Room} {n1 mc ms maxL na index b : Nat} {bytes : ByteArray} {av : Nat → List Value} {As rest : List Value} {wp : mm_T → mm_R → (mm_T → mm_R → Prop) → Prop} {Ko : mm_T → mm_R → Prop} (ct : mn_C l y ws1 rm n n1 mc ms av wp) (hav : av z = .ref b :: As) (hG : GoodIn ws ws1) (hw : ws1 = Cond.code y bytes maxL none :: ws2) (hyn : y.name = "<init>") (hli : Cond.methodLink own index y ∈ ws) (hin : Cond.instanceMethod y ∈ ws) (hini : Cond.initialized y.cls ∈ ws) (hd0 : y.cls ≠ "java/lang/invoke/MethodHandle" ∧ y.cls ≠ "java/lang/invoke/VarHandle" ∧ (parseMethodDescriptor y.desc).map (fun d => d.parameters.length) = some na) (hrm : rm.cells = mc ∧ rm.slots = ms) (hR : rm.frames + 1 ≤ R.frames ∧ 8 + (maxL + 11) + rm.locals ≤ R.locals) (hn : As.length = na) (hst : st = As.reverse ++ .ref b :: rest) (hW8 : (rest.map fun v => v.category).sum ≤ 8) (hd : decode cc pc = .ok (.invokespecial index, 3)) (hq : pc + 3 = q) (hf : cells + mc ≤ R.cells ∧ slots + ms ≤ R.slots) (h : wp μ ρ Ko) (kk : ∀ (u : mm_T) (r : mm_R), Ko u r → jG p l e R s m args below meth c (mm_B z) Q nL (cells + mc) (slots + ms) (mn_P D cy z n1 u r) q lv (rest)) : jG p l e R s m args below meth c (mm_B z) Q nL cells slots (mn_P D cy z n μ ρ) pc lv (st) := by
  subst hq
  subst hst
  intro H locs ls hP hS hl
  exact va_callv (va_runI (As := As) (rest := rest) C (ct D cy z μ ρ Ko h) ⟨callB_of na C.2.2.2.2 hG hw hrm.1 hrm.2 (C.2.2.2.2 _ hini) (C.2.2.2.2 _ hli) hd0 hR, hyn, C.2.2.2.2 _ hin⟩ ⟨mn_bl D cy z n μ ρ _, fun U hU hW => ⟨by rw [hav], by rw [hU]; exact hP, va_K.moved hW.alike hK, hX.to hW⟩⟩ rfl hn hl.1 rfl (lv_room hW8) hd hf) hS (fun q _ h => h) (fun q h => h) (fun u t H1 locs1 ht hvm hw2 hB hz1 hk1 hS1 => kk u.1 u.2 hw2 H1 locs1 ls (by rw [← ht]; exact hB) hS1 hl)
theorem jq_callN (C : gC p s m args c cc nL own ws) (hK : va_K D vwCl (mm_ty cy) s) (h0 : z ≤ s.heap.size) (hX : mn_X s) {y : MethodName} {ws1 ws2 : List Cond} {rm : Room} {n1 mc ms maxL na index b : Nat} {bytes : ByteArray} {host : String} {av : Nat → List Value} {As rest : List Value} {wp : mm_T → mm_R → (mm_T → mm_R → Prop) → Prop} {Ko : mm_T → mm_R → Prop} (ct : mn_C l y ws1 rm n n1 mc ms av wp) (hav : av z = .ref b :: As) (hG : GoodIn ws ws1) (hw : ws1 = Cond.code y bytes maxL none :: ws2) (hyn : y.name = "<init>") (hli : va_Nw (.methodLinkNest own index y host) s) (hin : Cond.instanceMethod y ∈ ws) (hini : Cond.initialized y.cls ∈ ws) (hd0 : y.cls ≠ "java/lang/invoke/MethodHandle" ∧ y.cls ≠ "java/lang/invoke/VarHandle" ∧ (parseMethodDescriptor y.desc).map (fun d => d.parameters.length) = some na) (hrm : rm.cells = mc ∧ rm.slots = ms) (hR : rm.frames + 1 ≤ R.frames ∧ 8 + (maxL + 11) + rm.locals ≤ R.locals) (hn : As.length = na) (hst : st = As.reverse ++ .ref b :: rest) (hW8 : (rest.map fun v => v.category).sum ≤ 8) (hd : decode cc pc = .ok (.invokespecial index, 3)) (hq : pc + 3 = q) (hf : cells + mc ≤ R.cells ∧ slots + ms ≤ R.slots) (h : wp μ ρ Ko) (kk : ∀ (u : mm_T) (r : mm_R), Ko u r → jG p l e R s m args below meth c (mm_B z) Q nL (cells + mc) (slots + ms) (mn_P D cy z n1 u r) q lv (rest)) : jG p l e R s m args below meth c (mm_B z) Q nL cells slots (mn_P D cy z n μ ρ) pc lv (st) := by
  subst hq
  subst hst
  intro H locs ls hP hS hl
  exact va_callv (va_runIN (As := As) (rest := rest) C (ct D cy z μ ρ Ko h) ⟨va_cnB na C.2.2.2.2 hG hw hrm.1 hrm.2 hli (C.2.2.2.2 _ hini) hd0 hR, hyn, C.2.2.2.2 _ hin⟩ ⟨mn_bl D cy z n μ ρ _, fun U hU hW => ⟨by rw [hav], by rw [hU]; exact hP, va_K.moved hW.alike hK, hX.to hW⟩⟩ rfl hn hl.1 rfl (lv_room hW8) hd hf) hS (fun q _ h => h) (fun q h => h) (fun u t H1 locs1 ht hvm hw2 hB hz1 hk1 hS1 => kk u.1 u.2 hw2 H1 locs1 ls (by rw [← ht]; exact hB) hS1 hl)
theorem jq_entry {y : MethodName} {ws2 : List Cond} {rm : Room} {n1 mc ms : Nat} {av : Nat → List Value} {wp : mm_T → mm_R → (mm_T → mm_R → Prop) → Prop} (hy : plainFor y = true) (ho : y.cls = own) (hyn : y.name = "<init>") (hw : ws = Cond.code y cc nL none :: ws2) (hln : ∀ z, (lg_sl (av z)).length ≤ nL)
    (body : ∀ (p : Program) (e : Env) (s : State) (m : MethodId) (args : Array Value) (below : List Frame) (meth : Method) (c : Code) (D : va_G) (cy : Nat → ClassId) (z : Nat) (μ : mm_T) (ρ : mm_R) (Po : mm_T → mm_R → Prop), gC p s m args c cc nL own ws → va_K D vwCl (mm_ty cy) s → z ≤ s.heap.size → mn_X s → meth.sig.returnType = none → meth.locks = false → meth.name = "<init>" → wp μ ρ Po → jG p l e rm s m args below meth c (mm_B z) (MQ below (va_Qv (fun u : mm_T × mm_R => Po u.1 u.2) (fun u t => mn_P D cy z n1 u.1 u.2 t.heap) (mm_B z)) args s mc ms (mm_B z)) nL 0 0 (mn_P D cy z n μ ρ) 0 (lv_args 0 (av z)) []) : mn_C l y ws rm n n1 mc ms av wp := by
  intro D cy z μ ρ Po hwp
  refine jm_ofW (cc := cc) (maxL := nL) (ret := none) hy hw ?_
  intro p e s m args below meth c s₁ B hml hv
  obtain ⟨ha, hP, hK, hX⟩ := hv
  have hl := lv_entry (av z) (n := nL) (hln z)
  have hC : gC p s m args c cc nL own ws := ⟨B.exec, B.bytes, hml, ho ▸ findClass_of_methodNamed B.named, atoms_spec (ws := ws) B.pre⟩
  have hb := body p e s m args below meth c D cy z μ ρ Po hC hK (by have := hP.2; omega) hX B.returns B.notSynchronized ((name_of_methodNamed B.named B.method).1.trans hyn) hwp
  have hfr : entryFrame m args nL = F0 m 0 ((lg_sl (av z) ++ List.replicate (nL - (lg_sl (av z)).length) Slot.unset).toArray) [] := by rw [ha]; exact lg_entry_eq m (av z) nL
  rw [hfr]
  exact hb s.heap [] _ hP va_S.rf hl
end JQ
