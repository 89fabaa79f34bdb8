/-! The judgement over the memory: 'from pc, with these locals and this stack and this memory, the machine comes to Q'; a row an instruction. -/
def mm_G (j : Nat) : Int32 := ([0, 31, 31, 99, 9999] : List Int32).getD j 0
/-- the one static row (nobody writes it), and the link by which the reader finds it -/
def mm_Sg (z : Nat) (U : State) : Prop := (∃ g : Nat, va_Z RX10 "GREATEST" "[I" (.ref g) (mm_A z) U U.heap ∧ va_T .int g 5 (fun j => .int (mm_G j)) (mm_A z) U U.heap) ∧ va_Nw (.fieldLinkNest RX8 59 RX10 "GREATEST" "[I" RX10) U
theorem mm_Sg.to {z : Nat} {s U : State} {H : Heap} {locs : List Loc} (h : mm_Sg z s) (hS : va_S (mm_A z) s.heap H locs) (hU : U.heap = H) (hW : s.WarmedH U.vm) : mm_Sg z U := by
  obtain ⟨⟨g, h1, h2⟩, h3⟩ := h
  refine ⟨⟨g, ?_, ?_⟩, va_Nw.warmF hW h3⟩
  · rw [hU]; exact (h1.kept (fun a ha hn => hS.2.1 a ha hn)).moved hW.alike
  · rw [hU]; exact (h2.kept (fun a ha hn => hS.2.1 a ha hn)).moved hW.alike
theorem mm_Sg.bl {z : Nat} {U : State} {g : JFrame} {mk : MethodId} {a : Array Value} (h : mm_Sg z U) : mm_Sg z (U.calling g mk a) := by
  obtain ⟨⟨g2, h1, h2⟩, h3⟩ := h
  exact ⟨⟨g2, h1.moved (U := U.calling g mk a) (Vm.Alike.refl U.vm), h2.moved (U := U.calling g mk a) (Vm.Alike.refl U.vm)⟩, va_Nw.same (U := U.calling g mk a) rfl rfl h3⟩
def mm_Pr (D : va_G) (cy : Nat → ClassId) (z : Nat) (μ : mm_T) (U : State) : Prop := va_P D vwCl (mm_ws cy z μ) U.heap ∧ va_K D vwCl (mm_ty cy) U ∧ mm_Sg z U
def mm_Po (D : va_G) (cy : Nat → ClassId) (z : Nat) (μ : mm_T) (t : State) : Prop := va_P D vwCl (mm_ws cy z μ) t.heap
theorem mm_bl (D : va_G) (cy : Nat → ClassId) (z : Nat) (μ : mm_T) (av : List Value) : FrameBlind (va_Pc av (mm_Pr D cy z μ)) := fun a U g mk h => ⟨h.1, h.2.1, va_K.moved (u := U) (U := U.calling g mk a) (Vm.Alike.refl U.vm) h.2.2.1, h.2.2.2.bl⟩
def jC (p : Program) (s : State) (m : MethodId) (args : Array Value) (c : Code) (cc : ByteArray) (nL : Nat) (own : String) (ws : List Cond) (D : va_G) (cy : Nat → ClassId) (z : Nat) : Prop := p.tables.exec = Jvm.exec ∧ c.code = cc ∧ c.maxLocals = nL ∧ s.vm.findClass own = some m.cls ∧ (∀ w ∈ ws, w.before args s = true) ∧ va_K D vwCl (mm_ty cy) s ∧ mm_Sg z s
def jJ (p : Program) (l : Launch) (e : Env) (R : Room) (s : State) (m : MethodId) (args : Array Value) (below : List Frame) (meth : Method) (c : Code) (D : va_G) (cy : Nat → ClassId) (z : Nat) (Q : State → Prop) (nL : Nat) (μ : mm_T) (pc : Nat) (lv : List (Nat × Value)) (st : List Value) : Prop :=
  ∀ (H : Heap) (locs : List Loc) (ls : Array Slot), va_P D vwCl (mm_ws cy z μ) H → va_S (mm_A z) s.heap H locs → lv_has ls nL lv → W p l e R s m args below meth c H locs 0 0 Q (F0 m pc ls st)
/-- the contracts of methods that answer an int (a boolean), a long, nothing, a cell of the family f -/
def mm_CI (l : Launch) (y : MethodName) (ws : List Cond) (rm : Room) (av : Nat → List Value) (wp : mm_T → (Int32 → mm_T → Prop) → Prop) : Prop := ∀ (D : va_G) (cy : Nat → ClassId) (z : Nat) (μ : mm_T) (Po : Int32 → mm_T → Prop), wp μ Po → Met l y ws rm (va_Pc (av z) (mm_Pr D cy z μ)) (va_Qi Po (mm_Po D cy z) (mm_A z)) 0 0 (mm_A z)
def mm_CL (l : Launch) (y : MethodName) (ws : List Cond) (rm : Room) (av : Nat → List Value) (wp : mm_T → (Int64 → mm_T → Prop) → Prop) : Prop := ∀ (D : va_G) (cy : Nat → ClassId) (z : Nat) (μ : mm_T) (Po : Int64 → mm_T → Prop), wp μ Po → Met l y ws rm (va_Pc (av z) (mm_Pr D cy z μ)) (va_Ql Po (mm_Po D cy z) (mm_A z)) 0 0 (mm_A z)
def mm_CV (l : Launch) (y : MethodName) (ws : List Cond) (rm : Room) (av : Nat → List Value) (wp : mm_T → (mm_T → Prop) → Prop) : Prop := ∀ (D : va_G) (cy : Nat → ClassId) (z : Nat) (μ : mm_T) (Po : mm_T → Prop), wp μ Po → Met l y ws rm (va_Pc (av z) (mm_Pr D cy z μ)) (va_Qv Po (mm_Po D cy z) (mm_A z)) 0 0 (mm_A z)
def mm_CR (f : Nat) (l : Launch) (y : MethodName) (ws : List Cond) (rm : Room) (av : Nat → List Value) (wp : mm_T → (Nat → mm_T → Prop) → Prop) : Prop := ∀ (D : va_G) (cy : Nat → ClassId) (z : Nat) (μ : mm_T) (Po : Nat → mm_T → Prop), wp μ Po → Met l y ws rm (va_Pc (av z) (mm_Pr D cy z μ)) (va_Qr (fun u : Nat × mm_T => Po u.1 u.2) (fun u a t => a = z + mm_ad f u.1 ∧ mm_Po D cy z u.2 t) (mm_A z)) 0 0 (mm_A z)
theorem jr_tt {x : Int32} {k : Nat → Prop} (h : k 0) : k 0 := h
theorem mm_nb {v : Int32} (h : v = 0 ∨ v = 1) : narrow .boolean (.int v) = .int v := by rcases h with rfl | rfl <;> rfl
theorem mm_fb {v : Int32} (h : v = 0 ∨ v = 1) : fits .boolean (.int v) = true := by rcases h with rfl | rfl <;> rfl
theorem mm_vb {v : Int32} (h : v = 0 ∨ v = 1) : vp_nar .boolean v = v := by rcases h with rfl | rfl <;> rfl

section JR
variable {p : Program} {l : Launch} {e : Env} {R : Room} {s : State} {m : MethodId} {args : Array Value} {below : List Frame} {meth : Method} {c : Code} {cc : ByteArray} {nL : Nat} {own : String} {ws : List Cond} {D : va_G} {cy : Nat → ClassId} {z : Nat} {Q : State → Prop} {μ : mm_T} {pc q : Nat} {lv : List (Nat × Value)} {st : List Value}
theorem jr_iconst (C : jC p s m args c cc nL own ws D cy z) {n : Int} {v : Int32} (hd : decode cc pc = .ok (.iconst n, 1)) (hv : Int32.ofInt n = v) (hq : pc + 1 = q) (kk : jJ p l e R s m args below meth c D cy z Q nL μ q lv (.int v :: st)) : jJ p l e R s m args below meth c D cy z Q nL μ pc lv (st) := by
  subst hq
  exact fun H locs ls hP hS hl => lv_iconst C.1 C.2.1 hd hv (kk H locs ls hP hS hl)
theorem jr_bipush (C : jC p s m args c cc nL own ws D cy z) {n : Int} {v : Int32} (hd : decode cc pc = .ok (.bipush n, 2)) (hv : (Int8.ofInt n).toInt32 = v) (hq : pc + 2 = q) (kk : jJ p l e R s m args below meth c D cy z Q nL μ q lv (.int v :: st)) : jJ p l e R s m args below meth c D cy z Q nL μ pc lv (st) := by
  subst hq
  exact fun H locs ls hP hS hl => lv_bipush C.1 C.2.1 hd hv (kk H locs ls hP hS hl)
theorem jr_sipush (C : jC p s m args c cc nL own ws D cy z) {n : Int} {v : Int32} (hd : decode cc pc = .ok (.sipush n, 3)) (hv : (Int16.ofInt n).toInt32 = v) (hq : pc + 3 = q) (kk : jJ p l e R s m args below meth c D cy z Q nL μ q lv (.int v :: st)) : jJ p l e R s m args below meth c D cy z Q nL μ pc lv (st) := by
  subst hq
  exact fun H locs ls hP hS hl => lv_sipush C.1 C.2.1 hd hv (kk H locs ls hP hS hl)
theorem jr_lconst (C : jC p s m args c cc nL own ws D cy z) {n : Fin 2} {v : Int64} (hd : decode cc pc = .ok (.lconst n, 1)) (hv : Int64.ofNat (n : Nat) = v) (hq : pc + 1 = q) (kk : jJ p l e R s m args below meth c D cy z Q nL μ q lv (.long v :: st)) : jJ p l e R s m args below meth c D cy z Q nL μ pc lv (st) := by
  subst hq
  exact fun H locs ls hP hS hl => lv_lconst C.1 C.2.1 hd hv (kk H locs ls hP hS hl)
theorem jr_ldc (C : jC p s m args c cc nL own ws D cy z) {i : Nat} {v : Int32} (hd : decode cc pc = .ok (.ldc i, 2)) (hv : Cond.constant own i v ∈ ws) (hq : pc + 2 = q) (kk : jJ p l e R s m args below meth c D cy z Q nL μ q lv (.int v :: st)) : jJ p l e R s m args below meth c D cy z Q nL μ pc lv (st) := by
  subst hq
  exact fun H locs ls hP hS hl => lv_ldc C.1 C.2.1 C.2.2.2.1 (C.2.2.2.2.1 _ hv) hd (kk H locs ls hP hS hl)
theorem jr_ldcw (C : jC p s m args c cc nL own ws D cy z) {i : Nat} {v : Int32} (hd : decode cc pc = .ok (.ldc_w i, 3)) (hv : Cond.constant own i v ∈ ws) (hq : pc + 3 = q) (kk : jJ p l e R s m args below meth c D cy z Q nL μ q lv (.int v :: st)) : jJ p l e R s m args below meth c D cy z Q nL μ pc lv (st) := by
  subst hq
  exact fun H locs ls hP hS hl => lv_ldcw C.1 C.2.1 C.2.2.2.1 (C.2.2.2.2.1 _ hv) hd (kk H locs ls hP hS hl)
theorem jr_ldc2 (C : jC p s m args c cc nL own ws D cy z) {i : Nat} {v : Int64} (hd : decode cc pc = .ok (.ldc2_w i, 3)) (hv : Cond.constantLong own i v ∈ ws) (hq : pc + 3 = q) (kk : jJ p l e R s m args below meth c D cy z Q nL μ q lv (.long v :: st)) : jJ p l e R s m args below meth c D cy z Q nL μ pc lv (st) := by
  subst hq
  exact fun H locs ls hP hS hl => lv_ldc2 C.1 C.2.1 C.2.2.2.1 (C.2.2.2.2.1 _ hv) hd (kk H locs ls hP hS hl)
theorem jr_iload_n (C : jC p s m args c cc nL own ws D cy z) {k : Fin 4} {i : Nat} {x : Int32} (n : Nat) (hd : decode cc pc = .ok (.iload_n k, 1)) (hi : (k : Nat) = i) (hn : lv[n]? = some (i, .int x)) (hq : pc + 1 = q) (kk : jJ p l e R s m args below meth c D cy z Q nL μ q lv (.int x :: st)) : jJ p l e R s m args below meth c D cy z Q nL μ pc lv (st) := by
  subst hq
  exact fun H locs ls hP hS hl => lv_iload_n C.1 C.2.1 hd hi (lv_at hl n hn) (kk H locs ls hP hS hl)
theorem jr_iload (C : jC p s m args c cc nL own ws D cy z) {i : Nat} {x : Int32} (n : Nat) (hd : decode cc pc = .ok (.iload i, 2)) (hn : lv[n]? = some (i, .int x)) (hq : pc + 2 = q) (kk : jJ p l e R s m args below meth c D cy z Q nL μ q lv (.int x :: st)) : jJ p l e R s m args below meth c D cy z Q nL μ pc lv (st) := by
  subst hq
  exact fun H locs ls hP hS hl => lv_iload C.1 C.2.1 hd (lv_at hl n hn) (kk H locs ls hP hS hl)
theorem jr_istore_n (C : jC p s m args c cc nL own ws D cy z) {k : Fin 4} {i : Nat} {x : Int32} {lv' : List (Nat × Value)} (hd : decode cc pc = .ok (.istore_n k, 1)) (hi : (k : Nat) = i) (hn : i < nL) (hl2 : (i, Value.int x) :: lv.filter (fun q => !(q.1 == i) && !(q.1 + 1 == i && q.2.category == 2)) = lv') (hq : pc + 1 = q) (kk : jJ p l e R s m args below meth c D cy z Q nL μ q lv' (st)) : jJ p l e R s m args below meth c D cy z Q nL μ pc lv (.int x :: st) := by
  subst hq
  exact fun H locs ls hP hS hl => lv_istore_n C.1 C.2.1 hd hi hl hn hl2 (fun ls' hl' => kk H locs ls' hP hS hl')
theorem jr_istore (C : jC p s m args c cc nL own ws D cy z) {i : Nat} {x : Int32} {lv' : List (Nat × Value)} (hd : decode cc pc = .ok (.istore i, 2)) (hn : i < nL) (hl2 : (i, Value.int x) :: lv.filter (fun q => !(q.1 == i) && !(q.1 + 1 == i && q.2.category == 2)) = lv') (hq : pc + 2 = q) (kk : jJ p l e R s m args below meth c D cy z Q nL μ q lv' (st)) : jJ p l e R s m args below meth c D cy z Q nL μ pc lv (.int x :: st) := by
  subst hq
  exact fun H locs ls hP hS hl => lv_istore C.1 C.2.1 hd hl hn hl2 (fun ls' hl' => kk H locs ls' hP hS hl')
theorem jr_lload_n (C : jC p s m args c cc nL own ws D cy z) {k : Fin 4} {i : Nat} {x : Int64} (n : Nat) (hd : decode cc pc = .ok (.lload_n k, 1)) (hi : (k : Nat) = i) (hn : lv[n]? = some (i, .long x)) (hq : pc + 1 = q) (kk : jJ p l e R s m args below meth c D cy z Q nL μ q lv (.long x :: st)) : jJ p l e R s m args below meth c D cy z Q nL μ pc lv (st) := by
  subst hq
  exact fun H locs ls hP hS hl => lv_lload_n C.1 C.2.1 hd hi (lv_at hl n hn) (kk H locs ls hP hS hl)
theorem jr_lload (C : jC p s m args c cc nL own ws D cy z) {i : Nat} {x : Int64} (n : Nat) (hd : decode cc pc = .ok (.lload i, 2)) (hn : lv[n]? = some (i, .long x)) (hq : pc + 2 = q) (kk : jJ p l e R s m args below meth c D cy z Q nL μ q lv (.long x :: st)) : jJ p l e R s m args below meth c D cy z Q nL μ pc lv (st) := by
  subst hq
  exact fun H locs ls hP hS hl => lv_lload C.1 C.2.1 hd (lv_at hl n hn) (kk H locs ls hP hS hl)
theorem jr_lstore_n (C : jC p s m args c cc nL own ws D cy z) {k : Fin 4} {i : Nat} {x : Int64} {lv' : List (Nat × Value)} (hd : decode cc pc = .ok (.lstore_n k, 1)) (hi : (k : Nat) = i) (hn : i + 1 < nL) (hl2 : (i, Value.long x) :: lv.filter (fun q => !(q.1 == i) && (!(q.1 == i + 1) && !(q.1 + 1 == i && q.2.category == 2))) = lv') (hq : pc + 1 = q) (kk : jJ p l e R s m args below meth c D cy z Q nL μ q lv' (st)) : jJ p l e R s m args below meth c D cy z Q nL μ pc lv (.long x :: st) := by
  subst hq
  exact fun H locs ls hP hS hl => lv_lstore_n C.1 C.2.1 hd hi hl hn hl2 (fun ls' hl' => kk H locs ls' hP hS hl')
theorem jr_lstore (C : jC p s m args c cc nL own ws D cy z) {i : Nat} {x : Int64} {lv' : List (Nat × Value)} (hd : decode cc pc = .ok (.lstore i, 2)) (hn : i + 1 < nL) (hl2 : (i, Value.long x) :: lv.filter (fun q => !(q.1 == i) && (!(q.1 == i + 1) && !(q.1 + 1 == i && q.2.category == 2))) = lv') (hq : pc + 2 = q) (kk : jJ p l e R s m args below meth c D cy z Q nL μ q lv' (st)) : jJ p l e R s m args below meth c D cy z Q nL μ pc lv (.long x :: st) := by
  subst hq
  exact fun H locs ls hP hS hl => lv_lstore C.1 C.2.1 hd hl hn hl2 (fun ls' hl' => kk H locs ls' hP hS hl')
theorem jr_aload_n (C : jC p s m args c cc nL own ws D cy z) {k : Fin 4} {i : Nat} {x : Nat} (n : Nat) (hd : decode cc pc = .ok (.aload_n k, 1)) (hi : (k : Nat) = i) (hn : lv[n]? = some (i, .ref x)) (hq : pc + 1 = q) (kk : jJ p l e R s m args below meth c D cy z Q nL μ q lv (.ref x :: st)) : jJ p l e R s m args below meth c D cy z Q nL μ pc lv (st) := by
  subst hq
  exact fun H locs ls hP hS hl => lv_aload_n C.1 C.2.1 hd hi (lv_at hl n hn) (kk H locs ls hP hS hl)
theorem jr_aload (C : jC p s m args c cc nL own ws D cy z) {i : Nat} {x : Nat} (n : Nat) (hd : decode cc pc = .ok (.aload i, 2)) (hn : lv[n]? = some (i, .ref x)) (hq : pc + 2 = q) (kk : jJ p l e R s m args below meth c D cy z Q nL μ q lv (.ref x :: st)) : jJ p l e R s m args below meth c D cy z Q nL μ pc lv (st) := by
  subst hq
  exact fun H locs ls hP hS hl => lv_aload C.1 C.2.1 hd (lv_at hl n hn) (kk H locs ls hP hS hl)
theorem jr_astore_n (C : jC p s m args c cc nL own ws D cy z) {k : Fin 4} {i : Nat} {x : Nat} {lv' : List (Nat × Value)} (hd : decode cc pc = .ok (.astore_n k, 1)) (hi : (k : Nat) = i) (hn : i < nL) (hl2 : (i, Value.ref x) :: lv.filter (fun q => !(q.1 == i) && !(q.1 + 1 == i && q.2.category == 2)) = lv') (hq : pc + 1 = q) (kk : jJ p l e R s m args below meth c D cy z Q nL μ q lv' (st)) : jJ p l e R s m args below meth c D cy z Q nL μ pc lv (.ref x :: st) := by
  subst hq
  exact fun H locs ls hP hS hl => lv_astore_n C.1 C.2.1 hd hi hl hn hl2 (fun ls' hl' => kk H locs ls' hP hS hl')
theorem jr_astore (C : jC p s m args c cc nL own ws D cy z) {i : Nat} {x : Nat} {lv' : List (Nat × Value)} (hd : decode cc pc = .ok (.astore i, 2)) (hn : i < nL) (hl2 : (i, Value.ref x) :: lv.filter (fun q => !(q.1 == i) && !(q.1 + 1 == i && q.2.category == 2)) = lv') (hq : pc + 2 = q) (kk : jJ p l e R s m args below meth c D cy z Q nL μ q lv' (st)) : jJ p l e R s m args below meth c D cy z Q nL μ pc lv (.ref x :: st) := by
  subst hq
  exact fun H locs ls hP hS hl => lv_astore C.1 C.2.1 hd hl hn hl2 (fun ls' hl' => kk H locs ls' hP hS hl')
theorem jr_iinc (C : jC p s m args c cc nL own ws D cy z) {i : Nat} {n : Int} {x v : Int32} {lv' : List (Nat × Value)} (k : Nat) (hd : decode cc pc = .ok (.iinc i n, 3)) (hk : lv[k]? = some (i, .int x)) (hv : x + Int32.ofInt n = v) (hn : i < nL) (hl2 : (i, Value.int v) :: lv.filter (fun q => !(q.1 == i) && !(q.1 + 1 == i && q.2.category == 2)) = lv') (hq : pc + 3 = q) (kk : jJ p l e R s m args below meth c D cy z Q nL μ q lv' (st)) : jJ p l e R s m args below meth c D cy z Q nL μ pc lv (st) := by
  subst hq
  exact fun H locs ls hP hS hl => lv_iinc C.1 C.2.1 hd hl hk hv hn hl2 (fun ls' hl' => kk H locs ls' hP hS hl')
theorem jr_iadd (C : jC p s m args c cc nL own ws D cy z) {x y : Int32} (hd : decode cc pc = .ok (.iadd, 1))  (hq : pc + 1 = q) (kk : jJ p l e R s m args below meth c D cy z Q nL μ q lv (.int (x + y) :: st)) : jJ p l e R s m args below meth c D cy z Q nL μ pc lv (.int y :: .int x :: st) := by
  subst hq
  exact fun H locs ls hP hS hl => lv_iadd C.1 C.2.1 hd (kk H locs ls hP hS hl)
theorem jr_isub (C : jC p s m args c cc nL own ws D cy z) {x y : Int32} (hd : decode cc pc = .ok (.isub, 1))  (hq : pc + 1 = q) (kk : jJ p l e R s m args below meth c D cy z Q nL μ q lv (.int (x - y) :: st)) : jJ p l e R s m args below meth c D cy z Q nL μ pc lv (.int y :: .int x :: st) := by
  subst hq
  exact fun H locs ls hP hS hl => lv_isub C.1 C.2.1 hd (kk H locs ls hP hS hl)
theorem jr_imul (C : jC p s m args c cc nL own ws D cy z) {x y : Int32} (hd : decode cc pc = .ok (.imul, 1))  (hq : pc + 1 = q) (kk : jJ p l e R s m args below meth c D cy z Q nL μ q lv (.int (x * y) :: st)) : jJ p l e R s m args below meth c D cy z Q nL μ pc lv (.int y :: .int x :: st) := by
  subst hq
  exact fun H locs ls hP hS hl => lv_imul C.1 C.2.1 hd (kk H locs ls hP hS hl)
theorem jr_iand (C : jC p s m args c cc nL own ws D cy z) {x y : Int32} (hd : decode cc pc = .ok (.iand, 1))  (hq : pc + 1 = q) (kk : jJ p l e R s m args below meth c D cy z Q nL μ q lv (.int (x &&& y) :: st)) : jJ p l e R s m args below meth c D cy z Q nL μ pc lv (.int y :: .int x :: st) := by
  subst hq
  exact fun H locs ls hP hS hl => lv_iand C.1 C.2.1 hd (kk H locs ls hP hS hl)
theorem jr_ior (C : jC p s m args c cc nL own ws D cy z) {x y : Int32} (hd : decode cc pc = .ok (.ior, 1))  (hq : pc + 1 = q) (kk : jJ p l e R s m args below meth c D cy z Q nL μ q lv (.int (x ||| y) :: st)) : jJ p l e R s m args below meth c D cy z Q nL μ pc lv (.int y :: .int x :: st) := by
  subst hq
  exact fun H locs ls hP hS hl => lv_ior C.1 C.2.1 hd (kk H locs ls hP hS hl)
theorem jr_ixor (C : jC p s m args c cc nL own ws D cy z) {x y : Int32} (hd : decode cc pc = .ok (.ixor, 1))  (hq : pc + 1 = q) (kk : jJ p l e R s m args below meth c D cy z Q nL μ q lv (.int (x ^^^ y) :: st)) : jJ p l e R s m args below meth c D cy z Q nL μ pc lv (.int y :: .int x :: st) := by
  subst hq
  exact fun H locs ls hP hS hl => lv_ixor C.1 C.2.1 hd (kk H locs ls hP hS hl)
theorem jr_ishl (C : jC p s m args c cc nL own ws D cy z) {x y : Int32} (hd : decode cc pc = .ok (.ishl, 1))  (hq : pc + 1 = q) (kk : jJ p l e R s m args below meth c D cy z Q nL μ q lv (.int (x <<< (y &&& 31)) :: st)) : jJ p l e R s m args below meth c D cy z Q nL μ pc lv (.int y :: .int x :: st) := by
  subst hq
  exact fun H locs ls hP hS hl => lv_ishl C.1 C.2.1 hd (kk H locs ls hP hS hl)
theorem jr_ishr (C : jC p s m args c cc nL own ws D cy z) {x y : Int32} (hd : decode cc pc = .ok (.ishr, 1))  (hq : pc + 1 = q) (kk : jJ p l e R s m args below meth c D cy z Q nL μ q lv (.int (x >>> (y &&& 31)) :: st)) : jJ p l e R s m args below meth c D cy z Q nL μ pc lv (.int y :: .int x :: st) := by
  subst hq
  exact fun H locs ls hP hS hl => lv_ishr C.1 C.2.1 hd (kk H locs ls hP hS hl)
theorem jr_idiv (C : jC p s m args c cc nL own ws D cy z) {x y : Int32} (hd : decode cc pc = .ok (.idiv, 1)) (hne : ¬ y = 0) (hq : pc + 1 = q) (kk : jJ p l e R s m args below meth c D cy z Q nL μ q lv (.int (x / y) :: st)) : jJ p l e R s m args below meth c D cy z Q nL μ pc lv (.int y :: .int x :: st) := by
  subst hq
  exact fun H locs ls hP hS hl => lv_idiv C.1 C.2.1 hd hne (kk H locs ls hP hS hl)
theorem jr_irem (C : jC p s m args c cc nL own ws D cy z) {x y : Int32} (hd : decode cc pc = .ok (.irem, 1)) (hne : ¬ y = 0) (hq : pc + 1 = q) (kk : jJ p l e R s m args below meth c D cy z Q nL μ q lv (.int (x - x / y * y) :: st)) : jJ p l e R s m args below meth c D cy z Q nL μ pc lv (.int y :: .int x :: st) := by
  subst hq
  exact fun H locs ls hP hS hl => lv_irem C.1 C.2.1 hd hne (kk H locs ls hP hS hl)
theorem jr_iushr (C : jC p s m args c cc nL own ws D cy z) {x y : Int32} (hd : decode cc pc = .ok (.iushr, 1))  (hq : pc + 1 = q) (kk : jJ p l e R s m args below meth c D cy z Q nL μ q lv (.int ((x.toUInt32 >>> (y.toUInt32 &&& Int32.toUInt32 31)).toInt32) :: st)) : jJ p l e R s m args below meth c D cy z Q nL μ pc lv (.int y :: .int x :: st) := by
  subst hq
  exact fun H locs ls hP hS hl => lv_iushr C.1 C.2.1 hd rfl (kk H locs ls hP hS hl)
theorem jr_ineg (C : jC p s m args c cc nL own ws D cy z) {x : Int32} (hd : decode cc pc = .ok (.ineg, 1))  (hq : pc + 1 = q) (kk : jJ p l e R s m args below meth c D cy z Q nL μ q lv (.int (-x) :: st)) : jJ p l e R s m args below meth c D cy z Q nL μ pc lv (.int x :: st) := by
  subst hq
  exact fun H locs ls hP hS hl => lv_ineg C.1 C.2.1 hd (kk H locs ls hP hS hl)
theorem jr_ladd (C : jC p s m args c cc nL own ws D cy z) {x y : Int64} (hd : decode cc pc = .ok (.ladd, 1))  (hq : pc + 1 = q) (kk : jJ p l e R s m args below meth c D cy z Q nL μ q lv (.long (x + y) :: st)) : jJ p l e R s m args below meth c D cy z Q nL μ pc lv (.long y :: .long x :: st) := by
  subst hq
  exact fun H locs ls hP hS hl => lv_ladd C.1 C.2.1 hd (kk H locs ls hP hS hl)
theorem jr_lsub (C : jC p s m args c cc nL own ws D cy z) {x y : Int64} (hd : decode cc pc = .ok (.lsub, 1))  (hq : pc + 1 = q) (kk : jJ p l e R s m args below meth c D cy z Q nL μ q lv (.long (x - y) :: st)) : jJ p l e R s m args below meth c D cy z Q nL μ pc lv (.long y :: .long x :: st) := by
  subst hq
  exact fun H locs ls hP hS hl => lv_lsub C.1 C.2.1 hd (kk H locs ls hP hS hl)
theorem jr_lmul (C : jC p s m args c cc nL own ws D cy z) {x y : Int64} (hd : decode cc pc = .ok (.lmul, 1))  (hq : pc + 1 = q) (kk : jJ p l e R s m args below meth c D cy z Q nL μ q lv (.long (x * y) :: st)) : jJ p l e R s m args below meth c D cy z Q nL μ pc lv (.long y :: .long x :: st) := by
  subst hq
  exact fun H locs ls hP hS hl => lv_lmul C.1 C.2.1 hd (kk H locs ls hP hS hl)
theorem jr_lxor (C : jC p s m args c cc nL own ws D cy z) {x y : Int64} (hd : decode cc pc = .ok (.lxor, 1))  (hq : pc + 1 = q) (kk : jJ p l e R s m args below meth c D cy z Q nL μ q lv (.long (x ^^^ y) :: st)) : jJ p l e R s m args below meth c D cy z Q nL μ pc lv (.long y :: .long x :: st) := by
  subst hq
  exact fun H locs ls hP hS hl => lv_lxor C.1 C.2.1 hd (kk H locs ls hP hS hl)
theorem jr_ldiv (C : jC p s m args c cc nL own ws D cy z) {x y : Int64} (hd : decode cc pc = .ok (.ldiv, 1)) (hne : ¬ y = 0) (hq : pc + 1 = q) (kk : jJ p l e R s m args below meth c D cy z Q nL μ q lv (.long (x / y) :: st)) : jJ p l e R s m args below meth c D cy z Q nL μ pc lv (.long y :: .long x :: st) := by
  subst hq
  exact fun H locs ls hP hS hl => lv_ldiv C.1 C.2.1 hd hne (kk H locs ls hP hS hl)
theorem jr_lrem (C : jC p s m args c cc nL own ws D cy z) {x y : Int64} (hd : decode cc pc = .ok (.lrem, 1)) (hne : ¬ y = 0) (hq : pc + 1 = q) (kk : jJ p l e R s m args below meth c D cy z Q nL μ q lv (.long (x - x / y * y) :: st)) : jJ p l e R s m args below meth c D cy z Q nL μ pc lv (.long y :: .long x :: st) := by
  subst hq
  exact fun H locs ls hP hS hl => lv_lrem C.1 C.2.1 hd hne (kk H locs ls hP hS hl)
theorem jr_lcmp (C : jC p s m args c cc nL own ws D cy z) {x y : Int64} (hd : decode cc pc = .ok (.lcmp, 1))  (hq : pc + 1 = q) (kk : jJ p l e R s m args below meth c D cy z Q nL μ q lv (.int (lg_cmp x y) :: st)) : jJ p l e R s m args below meth c D cy z Q nL μ pc lv (.long y :: .long x :: st) := by
  subst hq
  exact fun H locs ls hP hS hl => W.lcmp C.1 C.2.1 hd (kk H locs ls hP hS hl)
theorem jr_i2l (C : jC p s m args c cc nL own ws D cy z) {x : Int32} (hd : decode cc pc = .ok (.i2l, 1))  (hq : pc + 1 = q) (kk : jJ p l e R s m args below meth c D cy z Q nL μ q lv (.long x.toInt64 :: st)) : jJ p l e R s m args below meth c D cy z Q nL μ pc lv (.int x :: st) := by
  subst hq
  exact fun H locs ls hP hS hl => lv_i2l C.1 C.2.1 hd rfl (kk H locs ls hP hS hl)
theorem jr_l2i (C : jC p s m args c cc nL own ws D cy z) {x : Int64} (hd : decode cc pc = .ok (.l2i, 1))  (hq : pc + 1 = q) (kk : jJ p l e R s m args below meth c D cy z Q nL μ q lv (.int x.toInt32 :: st)) : jJ p l e R s m args below meth c D cy z Q nL μ pc lv (.long x :: st) := by
  subst hq
  exact fun H locs ls hP hS hl => lv_l2i C.1 C.2.1 hd rfl (kk H locs ls hP hS hl)
theorem jr_dup (C : jC p s m args c cc nL own ws D cy z) {v : Value} (hd : decode cc pc = .ok (.dup, 1)) (hv : v.category = 1) (hq : pc + 1 = q) (kk : jJ p l e R s m args below meth c D cy z Q nL μ q lv (v :: v :: st)) : jJ p l e R s m args below meth c D cy z Q nL μ pc lv (v :: st) := by
  subst hq
  exact fun H locs ls hP hS hl => lv_dup C.1 C.2.1 hd hv (kk H locs ls hP hS hl)
theorem jr_pop (C : jC p s m args c cc nL own ws D cy z) {v : Value} (hd : decode cc pc = .ok (.pop, 1)) (hv : v.category = 1) (hq : pc + 1 = q) (kk : jJ p l e R s m args below meth c D cy z Q nL μ q lv (st)) : jJ p l e R s m args below meth c D cy z Q nL μ pc lv (v :: st) := by
  subst hq
  exact fun H locs ls hP hS hl => lv_pop C.1 C.2.1 hd hv (kk H locs ls hP hS hl)
theorem jr_dup2 (C : jC p s m args c cc nL own ws D cy z) {v u : Value} (hd : decode cc pc = .ok (.dup2, 1)) (hv : v.category = 1) (hu : u.category = 1) (hq : pc + 1 = q) (kk : jJ p l e R s m args below meth c D cy z Q nL μ q lv (v :: u :: v :: u :: st)) : jJ p l e R s m args below meth c D cy z Q nL μ pc lv (v :: u :: st) := by
  subst hq
  exact fun H locs ls hP hS hl => lv_dup2_11 C.1 C.2.1 hd hv hu (kk H locs ls hP hS hl)
theorem jr_if_eq (C : jC p s m args c cc nL own ws D cy z) {x : Int32} {off : Int} {tgt : Nat} (hd : decode cc pc = .ok (.ifCond .eq off, 3)) (ht : (pc : Int) + off = (tgt : Int)) (hq : pc + 3 = q) (kt : x = 0 → jJ p l e R s m args below meth c D cy z Q nL μ tgt lv (st)) (kf : ¬ (x = 0) → jJ p l e R s m args below meth c D cy z Q nL μ q lv (st)) : jJ p l e R s m args below meth c D cy z Q nL μ pc lv (.int x :: st) := by
  subst hq
  exact fun H locs ls hP hS hl => lv_if_eq C.1 C.2.1 hd ht (fun h => kt h H locs ls hP hS hl) (fun h => kf h H locs ls hP hS hl)
theorem jr_if_ne (C : jC p s m args c cc nL own ws D cy z) {x : Int32} {off : Int} {tgt : Nat} (hd : decode cc pc = .ok (.ifCond .ne off, 3)) (ht : (pc : Int) + off = (tgt : Int)) (hq : pc + 3 = q) (kt : ¬ x = 0 → jJ p l e R s m args below meth c D cy z Q nL μ tgt lv (st)) (kf : x = 0 → jJ p l e R s m args below meth c D cy z Q nL μ q lv (st)) : jJ p l e R s m args below meth c D cy z Q nL μ pc lv (.int x :: st) := by
  subst hq
  exact fun H locs ls hP hS hl => lv_if_ne C.1 C.2.1 hd ht (fun h => kt h H locs ls hP hS hl) (fun h => kf h H locs ls hP hS hl)
theorem jr_if_lt (C : jC p s m args c cc nL own ws D cy z) {x : Int32} {off : Int} {tgt : Nat} (hd : decode cc pc = .ok (.ifCond .lt off, 3)) (ht : (pc : Int) + off = (tgt : Int)) (hq : pc + 3 = q) (kt : x < 0 → jJ p l e R s m args below meth c D cy z Q nL μ tgt lv (st)) (kf : ¬ (x < 0) → jJ p l e R s m args below meth c D cy z Q nL μ q lv (st)) : jJ p l e R s m args below meth c D cy z Q nL μ pc lv (.int x :: st) := by
  subst hq
  exact fun H locs ls hP hS hl => lv_if_lt C.1 C.2.1 hd ht (fun h => kt h H locs ls hP hS hl) (fun h => kf h H locs ls hP hS hl)
theorem jr_if_ge (C : jC p s m args c cc nL own ws D cy z) {x : Int32} {off : Int} {tgt : Nat} (hd : decode cc pc = .ok (.ifCond .ge off, 3)) (ht : (pc : Int) + off = (tgt : Int)) (hq : pc + 3 = q) (kt : 0 ≤ x → jJ p l e R s m args below meth c D cy z Q nL μ tgt lv (st)) (kf : ¬ (0 ≤ x) → jJ p l e R s m args below meth c D cy z Q nL μ q lv (st)) : jJ p l e R s m args below meth c D cy z Q nL μ pc lv (.int x :: st) := by
  subst hq
  exact fun H locs ls hP hS hl => lv_if_ge C.1 C.2.1 hd ht (fun h => kt h H locs ls hP hS hl) (fun h => kf h H locs ls hP hS hl)
theorem jr_if_gt (C : jC p s m args c cc nL own ws D cy z) {x : Int32} {off : Int} {tgt : Nat} (hd : decode cc pc = .ok (.ifCond .gt off, 3)) (ht : (pc : Int) + off = (tgt : Int)) (hq : pc + 3 = q) (kt : 0 < x → jJ p l e R s m args below meth c D cy z Q nL μ tgt lv (st)) (kf : ¬ (0 < x) → jJ p l e R s m args below meth c D cy z Q nL μ q lv (st)) : jJ p l e R s m args below meth c D cy z Q nL μ pc lv (.int x :: st) := by
  subst hq
  exact fun H locs ls hP hS hl => lv_if_gt C.1 C.2.1 hd ht (fun h => kt h H locs ls hP hS hl) (fun h => kf h H locs ls hP hS hl)
theorem jr_if_le (C : jC p s m args c cc nL own ws D cy z) {x : Int32} {off : Int} {tgt : Nat} (hd : decode cc pc = .ok (.ifCond .le off, 3)) (ht : (pc : Int) + off = (tgt : Int)) (hq : pc + 3 = q) (kt : x ≤ 0 → jJ p l e R s m args below meth c D cy z Q nL μ tgt lv (st)) (kf : ¬ (x ≤ 0) → jJ p l e R s m args below meth c D cy z Q nL μ q lv (st)) : jJ p l e R s m args below meth c D cy z Q nL μ pc lv (.int x :: st) := by
  subst hq
  exact fun H locs ls hP hS hl => lv_if_le C.1 C.2.1 hd ht (fun h => kt h H locs ls hP hS hl) (fun h => kf h H locs ls hP hS hl)
theorem jr_icmp_eq (C : jC p s m args c cc nL own ws D cy z) {x y : Int32} {off : Int} {tgt : Nat} (hd : decode cc pc = .ok (.if_icmp .eq off, 3)) (ht : (pc : Int) + off = (tgt : Int)) (hq : pc + 3 = q) (kt : x = y → jJ p l e R s m args below meth c D cy z Q nL μ tgt lv (st)) (kf : ¬ (x = y) → jJ p l e R s m args below meth c D cy z Q nL μ q lv (st)) : jJ p l e R s m args below meth c D cy z Q nL μ pc lv (.int y :: .int x :: st) := by
  subst hq
  exact fun H locs ls hP hS hl => lv_icmp_eq C.1 C.2.1 hd ht (fun h => kt h H locs ls hP hS hl) (fun h => kf h H locs ls hP hS hl)
theorem jr_icmp_ne (C : jC p s m args c cc nL own ws D cy z) {x y : Int32} {off : Int} {tgt : Nat} (hd : decode cc pc = .ok (.if_icmp .ne off, 3)) (ht : (pc : Int) + off = (tgt : Int)) (hq : pc + 3 = q) (kt : ¬ x = y → jJ p l e R s m args below meth c D cy z Q nL μ tgt lv (st)) (kf : x = y → jJ p l e R s m args below meth c D cy z Q nL μ q lv (st)) : jJ p l e R s m args below meth c D cy z Q nL μ pc lv (.int y :: .int x :: st) := by
  subst hq
  exact fun H locs ls hP hS hl => lv_icmp_ne C.1 C.2.1 hd ht (fun h => kt h H locs ls hP hS hl) (fun h => kf h H locs ls hP hS hl)
theorem jr_icmp_lt (C : jC p s m args c cc nL own ws D cy z) {x y : Int32} {off : Int} {tgt : Nat} (hd : decode cc pc = .ok (.if_icmp .lt off, 3)) (ht : (pc : Int) + off = (tgt : Int)) (hq : pc + 3 = q) (kt : x < y → jJ p l e R s m args below meth c D cy z Q nL μ tgt lv (st)) (kf : ¬ (x < y) → jJ p l e R s m args below meth c D cy z Q nL μ q lv (st)) : jJ p l e R s m args below meth c D cy z Q nL μ pc lv (.int y :: .int x :: st) := by
  subst hq
  exact fun H locs ls hP hS hl => lv_icmp_lt C.1 C.2.1 hd ht (fun h => kt h H locs ls hP hS hl) (fun h => kf h H locs ls hP hS hl)
theorem jr_icmp_ge (C : jC p s m args c cc nL own ws D cy z) {x y : Int32} {off : Int} {tgt : Nat} (hd : decode cc pc = .ok (.if_icmp .ge off, 3)) (ht : (pc : Int) + off = (tgt : Int)) (hq : pc + 3 = q) (kt : y ≤ x → jJ p l e R s m args below meth c D cy z Q nL μ tgt lv (st)) (kf : ¬ (y ≤ x) → jJ p l e R s m args below meth c D cy z Q nL μ q lv (st)) : jJ p l e R s m args below meth c D cy z Q nL μ pc lv (.int y :: .int x :: st) := by
  subst hq
  exact fun H locs ls hP hS hl => lv_icmp_ge C.1 C.2.1 hd ht (fun h => kt h H locs ls hP hS hl) (fun h => kf h H locs ls hP hS hl)
theorem jr_icmp_gt (C : jC p s m args c cc nL own ws D cy z) {x y : Int32} {off : Int} {tgt : Nat} (hd : decode cc pc = .ok (.if_icmp .gt off, 3)) (ht : (pc : Int) + off = (tgt : Int)) (hq : pc + 3 = q) (kt : y < x → jJ p l e R s m args below meth c D cy z Q nL μ tgt lv (st)) (kf : ¬ (y < x) → jJ p l e R s m args below meth c D cy z Q nL μ q lv (st)) : jJ p l e R s m args below meth c D cy z Q nL μ pc lv (.int y :: .int x :: st) := by
  subst hq
  exact fun H locs ls hP hS hl => lv_icmp_gt C.1 C.2.1 hd ht (fun h => kt h H locs ls hP hS hl) (fun h => kf h H locs ls hP hS hl)
theorem jr_icmp_le (C : jC p s m args c cc nL own ws D cy z) {x y : Int32} {off : Int} {tgt : Nat} (hd : decode cc pc = .ok (.if_icmp .le off, 3)) (ht : (pc : Int) + off = (tgt : Int)) (hq : pc + 3 = q) (kt : x ≤ y → jJ p l e R s m args below meth c D cy z Q nL μ tgt lv (st)) (kf : ¬ (x ≤ y) → jJ p l e R s m args below meth c D cy z Q nL μ q lv (st)) : jJ p l e R s m args below meth c D cy z Q nL μ pc lv (.int y :: .int x :: st) := by
  subst hq
  exact fun H locs ls hP hS hl => lv_icmp_le C.1 C.2.1 hd ht (fun h => kt h H locs ls hP hS hl) (fun h => kf h H locs ls hP hS hl)
theorem jr_goto (C : jC p s m args c cc nL own ws D cy z) {off : Int} {tgt : Nat} (hd : decode cc pc = .ok (.goto off, 3)) (ht : (pc : Int) + off = (tgt : Int)) (kk : jJ p l e R s m args below meth c D cy z Q nL μ tgt lv (st)) : jJ p l e R s m args below meth c D cy z Q nL μ pc lv (st) := fun H locs ls hP hS hl => lv_goto C.1 C.2.1 hd ht (kk H locs ls hP hS hl)
theorem jr_tabO (C : jC p s m args c cc nL own ws D cy z) {dflt lo hi : Int} {offs : Array Int} {len : Nat} {x : Int32} {tgt : Nat} (hd : decode cc pc = .ok (.tableswitch dflt lo hi offs, len)) (h : x.toInt < lo ∨ hi < x.toInt) (ht : (pc : Int) + dflt = (tgt : Int)) (kk : jJ p l e R s m args below meth c D cy z Q nL μ tgt lv (st)) : jJ p l e R s m args below meth c D cy z Q nL μ pc lv (.int x :: st) := fun H locs ls hP hS hl => lv_tableOut C.1 C.2.1 hd h ht (kk H locs ls hP hS hl)
theorem jr_tabI (C : jC p s m args c cc nL own ws D cy z) {dflt lo hi : Int} {offs : Array Int} {len : Nat} {x : Int32} {off : Int} {tgt : Nat} (v : Int32) (hx : x = v) (hd : decode cc pc = .ok (.tableswitch dflt lo hi offs, len)) (h1 : ¬ v.toInt < lo) (h2 : ¬ hi < v.toInt) (ho : offs[(v.toInt - lo).toNat]? = some off) (ht : (pc : Int) + off = (tgt : Int)) (kk : jJ p l e R s m args below meth c D cy z Q nL μ tgt lv (st)) : jJ p l e R s m args below meth c D cy z Q nL μ pc lv (.int x :: st) := by
  subst hx
  exact fun H locs ls hP hS hl => lv_tableIn C.1 C.2.1 hd h1 h2 ho ht (kk H locs ls hP hS hl)
theorem jr_getI (C : jC p s m args c cc nL own ws D cy z) {Cn : String} {T : u_T} {N ci j i f index : Nat} (hi : i < mm_cn f) (hk : mm_kd f = (0, ci)) (hc : vwCl[ci]? = some (Cn, T, N)) (hj : j < N) (hn : mm_ns ci = N) (hs : mm_st ci j = 0) (hw : ∀ w ∈ u_ws Cn T N, w ∈ ws) (hl0 : Cond.fieldLink own index Cn (T j).2.1 (T j).2.2.1 ∈ ws) (hd : decode cc pc = .ok (.getfield index, 3)) (ho : (T j).1 = Cn) (hq : pc + 3 = q) (kk : jJ p l e R s m args below meth c D cy z Q nL μ q lv (.int (μ.1 f i j) :: st)) : jJ p l e R s m args below meth c D cy z Q nL μ pc lv (.ref (z + mm_ad f i) :: st) := by
  subst hq
  intro H locs ls hP hS hl
  refine va_get (D := D) (cl := vwCl) (tys := mm_ty cy) (ci := ci) (C := Cn) (T := T) (N := N) (v := .int (μ.1 f i j)) C.1 C.2.1 C.2.2.2.2.1 hw C.2.2.2.1 C.2.2.2.2.2.1 hP (mm_ad f i) ((mm_wsat cy z μ hi).trans (congrArg (fun e => some (z + mm_ad f i, e)) (mm_ceO hk i))) hc j hj (C.2.2.2.2.1 _ hl0) (by rw [ho]; exact fun _ h => h) ?_ hd (kk H locs ls hP hS hl)
  rw [mm_at2 _ _ _ (by rw [hn]; exact hj), hs]
  rfl
theorem jr_getL (C : jC p s m args c cc nL own ws D cy z) {Cn : String} {T : u_T} {N ci j i f index : Nat} (hi : i < mm_cn f) (hk : mm_kd f = (0, ci)) (hc : vwCl[ci]? = some (Cn, T, N)) (hj : j < N) (hn : mm_ns ci = N) (hs : mm_st ci j = 1) (hw : ∀ w ∈ u_ws Cn T N, w ∈ ws) (hl0 : Cond.fieldLink own index Cn (T j).2.1 (T j).2.2.1 ∈ ws) (hd : decode cc pc = .ok (.getfield index, 3)) (ho : (T j).1 = Cn) (hq : pc + 3 = q) (kk : jJ p l e R s m args below meth c D cy z Q nL μ q lv (.long (μ.2 f i j) :: st)) : jJ p l e R s m args below meth c D cy z Q nL μ pc lv (.ref (z + mm_ad f i) :: st) := by
  subst hq
  intro H locs ls hP hS hl
  refine va_get (D := D) (cl := vwCl) (tys := mm_ty cy) (ci := ci) (C := Cn) (T := T) (N := N) (v := .long (μ.2 f i j)) C.1 C.2.1 C.2.2.2.2.1 hw C.2.2.2.1 C.2.2.2.2.2.1 hP (mm_ad f i) ((mm_wsat cy z μ hi).trans (congrArg (fun e => some (z + mm_ad f i, e)) (mm_ceO hk i))) hc j hj (C.2.2.2.2.1 _ hl0) (by rw [ho]; exact fun _ h => h) ?_ hd (kk H locs ls hP hS hl)
  rw [mm_at2 _ _ _ (by rw [hn]; exact hj), hs]
  rfl
theorem jr_getR (C : jC p s m args c cc nL own ws D cy z) {Cn : String} {T : u_T} {N ci j i f index : Nat} (hi : i < mm_cn f) (hk : mm_kd f = (0, ci)) (hc : vwCl[ci]? = some (Cn, T, N)) (hj : j < N) (hn : mm_ns ci = N) (F I : Nat) (hF : mm_rf f j = F) (hI : mm_ri f i j = I) (hs : mm_st ci j = 2) (hw : ∀ w ∈ u_ws Cn T N, w ∈ ws) (hl0 : Cond.fieldLink own index Cn (T j).2.1 (T j).2.2.1 ∈ ws) (hd : decode cc pc = .ok (.getfield index, 3)) (ho : (T j).1 = Cn) (hq : pc + 3 = q) (kk : jJ p l e R s m args below meth c D cy z Q nL μ q lv (.ref (z + mm_ad F I) :: st)) : jJ p l e R s m args below meth c D cy z Q nL μ pc lv (.ref (z + mm_ad f i) :: st) := by
  subst hq
  intro H locs ls hP hS hl
  refine va_get (D := D) (cl := vwCl) (tys := mm_ty cy) (ci := ci) (C := Cn) (T := T) (N := N) (v := .ref (z + mm_ad F I)) C.1 C.2.1 C.2.2.2.2.1 hw C.2.2.2.1 C.2.2.2.2.2.1 hP (mm_ad f i) ((mm_wsat cy z μ hi).trans (congrArg (fun e => some (z + mm_ad f i, e)) (mm_ceO hk i))) hc j hj (C.2.2.2.2.1 _ hl0) (by rw [ho]; exact fun _ h => h) ?_ hd (kk H locs ls hP hS hl)
  rw [mm_at2 _ _ _ (by rw [hn]; exact hj), hs, ← hF, ← hI]
  rfl
theorem jr_putI (C : jC p s m args c cc nL own ws D cy z) {Cn : String} {T : u_T} {N ci j i f index : Nat} (hi : i < mm_cn f) (hk : mm_kd f = (0, ci)) (hc : vwCl[ci]? = some (Cn, T, N)) (hj : j < N) (hn : mm_ns ci = N) {v : Int32}  (hs : mm_st ci j = 0) (ty0 : Nat → FieldType) (hty : ∀ k, k < N → parseFieldDescriptor (T k).2.2.1 = some (ty0 k)) (hnm : ∀ a, a < N → ∀ b, b < N → a ≠ b → (T a).2.1 ≠ (T b).2.1) (hfin : (T j).2.2.2 = false) (hd0 : parseFieldDescriptor (T j).2.2.1 = some .int) (hw : ∀ w ∈ u_ws Cn T N, w ∈ ws) (hl0 : Cond.fieldLink own index Cn (T j).2.1 (T j).2.2.1 ∈ ws) (hd : decode cc pc = .ok (.putfield index, 3)) (ho : (T j).1 = Cn) (hq : pc + 3 = q) (kk : jJ p l e R s m args below meth c D cy z Q nL (mm_I μ f i j v) q lv (st)) : jJ p l e R s m args below meth c D cy z Q nL μ pc lv (.int v :: .ref (z + mm_ad f i) :: st) := by
  subst hq
  intro H locs ls hP hS hl
  have hat := (mm_wsat cy z μ hi).trans (congrArg (fun e => some (z + mm_ad f i, e)) (mm_ceO hk i))
  have hset : ((List.range (mm_ns ci)).map (fun j => mm_sl z μ f i j (mm_st ci j))).set j (.int v) = (List.range (mm_ns ci)).map (fun k => mm_sl z (mm_I μ f i j v) f i k (mm_st ci k)) := by
    refine mm_ls _ _ _ _ _ (by rw [hn]; exact hj) ?_ (fun k hkj => ?_)
    · show mm_sl z (mm_I μ f i j v) f i j (mm_st ci j) = .int v
      rw [hs]
      show Value.int ((mm_I μ f i j v).1 f i j) = Value.int v
      rw [mm_Is]
      simp [upd]
    · show mm_sl z (mm_I μ f i j v) f i k (mm_st ci k) = mm_sl z μ f i k (mm_st ci k)
      have h1 : (mm_I μ f i j v).1 f i k = μ.1 f i k := by
        rw [mm_Is]
        simp [upd, hkj]
      unfold mm_sl
      rw [h1]
      rfl
  have hw2 : (mm_ws cy z μ).set (mm_ad f i) (z + mm_ad f i, .inr (ci, ((List.range (mm_ns ci)).map (fun j => mm_sl z μ f i j (mm_st ci j))).set j (.int v))) = mm_ws cy z (mm_I μ f i j v) := by
    rw [hset, ← mm_ceO (cy := cy) hk i]
    exact mm_set hi (mm_Io μ f i j v)
  refine va_put (D := D) (cl := vwCl) (tys := mm_ty cy) (A := mm_A z) (ci := ci) (C := Cn) (T := T) (N := N) (v := .int v) (ty := .int) C.1 C.2.1 C.2.2.2.2.1 hw ty0 hty hnm C.2.2.2.1 C.2.2.2.2.2.1 hP (mm_D cy z μ) hS (mm_ad f i) hat hc j hj (C.2.2.2.2.1 _ hl0) (by rw [ho]; exact fun _ h => h) hfin hd0 rfl rfl (by simp; rw [hn]; exact hj) hd (fun H1 locs1 hP1 hD1 hS1 => ?_)
  rw [hw2] at hP1
  exact kk H1 locs1 ls hP1 hS1 hl
theorem jr_putZ (C : jC p s m args c cc nL own ws D cy z) {Cn : String} {T : u_T} {N ci j i f index : Nat} (hi : i < mm_cn f) (hk : mm_kd f = (0, ci)) (hc : vwCl[ci]? = some (Cn, T, N)) (hj : j < N) (hn : mm_ns ci = N) {v : Int32} (hb : v = 0 ∨ v = 1) (hs : mm_st ci j = 0) (ty0 : Nat → FieldType) (hty : ∀ k, k < N → parseFieldDescriptor (T k).2.2.1 = some (ty0 k)) (hnm : ∀ a, a < N → ∀ b, b < N → a ≠ b → (T a).2.1 ≠ (T b).2.1) (hfin : (T j).2.2.2 = false) (hd0 : parseFieldDescriptor (T j).2.2.1 = some .boolean) (hw : ∀ w ∈ u_ws Cn T N, w ∈ ws) (hl0 : Cond.fieldLink own index Cn (T j).2.1 (T j).2.2.1 ∈ ws) (hd : decode cc pc = .ok (.putfield index, 3)) (ho : (T j).1 = Cn) (hq : pc + 3 = q) (kk : jJ p l e R s m args below meth c D cy z Q nL (mm_I μ f i j v) q lv (st)) : jJ p l e R s m args below meth c D cy z Q nL μ pc lv (.int v :: .ref (z + mm_ad f i) :: st) := by
  subst hq
  intro H locs ls hP hS hl
  have hat := (mm_wsat cy z μ hi).trans (congrArg (fun e => some (z + mm_ad f i, e)) (mm_ceO hk i))
  have hset : ((List.range (mm_ns ci)).map (fun j => mm_sl z μ f i j (mm_st ci j))).set j (.int v) = (List.range (mm_ns ci)).map (fun k => mm_sl z (mm_I μ f i j v) f i k (mm_st ci k)) := by
    refine mm_ls _ _ _ _ _ (by rw [hn]; exact hj) ?_ (fun k hkj => ?_)
    · show mm_sl z (mm_I μ f i j v) f i j (mm_st ci j) = .int v
      rw [hs]
      show Value.int ((mm_I μ f i j v).1 f i j) = Value.int v
      rw [mm_Is]
      simp [upd]
    · show mm_sl z (mm_I μ f i j v) f i k (mm_st ci k) = mm_sl z μ f i k (mm_st ci k)
      have h1 : (mm_I μ f i j v).1 f i k = μ.1 f i k := by
        rw [mm_Is]
        simp [upd, hkj]
      unfold mm_sl
      rw [h1]
      rfl
  have hw2 : (mm_ws cy z μ).set (mm_ad f i) (z + mm_ad f i, .inr (ci, ((List.range (mm_ns ci)).map (fun j => mm_sl z μ f i j (mm_st ci j))).set j (.int v))) = mm_ws cy z (mm_I μ f i j v) := by
    rw [hset, ← mm_ceO (cy := cy) hk i]
    exact mm_set hi (mm_Io μ f i j v)
  refine va_put (D := D) (cl := vwCl) (tys := mm_ty cy) (A := mm_A z) (ci := ci) (C := Cn) (T := T) (N := N) (v := .int v) (ty := .boolean) C.1 C.2.1 C.2.2.2.2.1 hw ty0 hty hnm C.2.2.2.1 C.2.2.2.2.2.1 hP (mm_D cy z μ) hS (mm_ad f i) hat hc j hj (C.2.2.2.2.1 _ hl0) (by rw [ho]; exact fun _ h => h) hfin hd0 (mm_nb hb) (mm_fb hb) (by simp; rw [hn]; exact hj) hd (fun H1 locs1 hP1 hD1 hS1 => ?_)
  rw [hw2] at hP1
  exact kk H1 locs1 ls hP1 hS1 hl
theorem jr_putL (C : jC p s m args c cc nL own ws D cy z) {Cn : String} {T : u_T} {N ci j i f index : Nat} (hi : i < mm_cn f) (hk : mm_kd f = (0, ci)) (hc : vwCl[ci]? = some (Cn, T, N)) (hj : j < N) (hn : mm_ns ci = N) {v : Int64}  (hs : mm_st ci j = 1) (ty0 : Nat → FieldType) (hty : ∀ k, k < N → parseFieldDescriptor (T k).2.2.1 = some (ty0 k)) (hnm : ∀ a, a < N → ∀ b, b < N → a ≠ b → (T a).2.1 ≠ (T b).2.1) (hfin : (T j).2.2.2 = false) (hd0 : parseFieldDescriptor (T j).2.2.1 = some .long) (hw : ∀ w ∈ u_ws Cn T N, w ∈ ws) (hl0 : Cond.fieldLink own index Cn (T j).2.1 (T j).2.2.1 ∈ ws) (hd : decode cc pc = .ok (.putfield index, 3)) (ho : (T j).1 = Cn) (hq : pc + 3 = q) (kk : jJ p l e R s m args below meth c D cy z Q nL (mm_L μ f i j v) q lv (st)) : jJ p l e R s m args below meth c D cy z Q nL μ pc lv (.long v :: .ref (z + mm_ad f i) :: st) := by
  subst hq
  intro H locs ls hP hS hl
  have hat := (mm_wsat cy z μ hi).trans (congrArg (fun e => some (z + mm_ad f i, e)) (mm_ceO hk i))
  have hset : ((List.range (mm_ns ci)).map (fun j => mm_sl z μ f i j (mm_st ci j))).set j (.long v) = (List.range (mm_ns ci)).map (fun k => mm_sl z (mm_L μ f i j v) f i k (mm_st ci k)) := by
    refine mm_ls _ _ _ _ _ (by rw [hn]; exact hj) ?_ (fun k hkj => ?_)
    · show mm_sl z (mm_L μ f i j v) f i j (mm_st ci j) = .long v
      rw [hs]
      show Value.long ((mm_L μ f i j v).2 f i j) = Value.long v
      rw [mm_Ls]
      simp [vp_updL]
    · show mm_sl z (mm_L μ f i j v) f i k (mm_st ci k) = mm_sl z μ f i k (mm_st ci k)
      have h1 : (mm_L μ f i j v).2 f i k = μ.2 f i k := by
        rw [mm_Ls]
        simp [vp_updL, hkj]
      unfold mm_sl
      rw [h1]
      rfl
  have hw2 : (mm_ws cy z μ).set (mm_ad f i) (z + mm_ad f i, .inr (ci, ((List.range (mm_ns ci)).map (fun j => mm_sl z μ f i j (mm_st ci j))).set j (.long v))) = mm_ws cy z (mm_L μ f i j v) := by
    rw [hset, ← mm_ceO (cy := cy) hk i]
    exact mm_set hi (mm_Lo μ f i j v)
  refine va_put (D := D) (cl := vwCl) (tys := mm_ty cy) (A := mm_A z) (ci := ci) (C := Cn) (T := T) (N := N) (v := .long v) (ty := .long) C.1 C.2.1 C.2.2.2.2.1 hw ty0 hty hnm C.2.2.2.1 C.2.2.2.2.2.1 hP (mm_D cy z μ) hS (mm_ad f i) hat hc j hj (C.2.2.2.2.1 _ hl0) (by rw [ho]; exact fun _ h => h) hfin hd0 rfl rfl (by simp; rw [hn]; exact hj) hd (fun H1 locs1 hP1 hD1 hS1 => ?_)
  rw [hw2] at hP1
  exact kk H1 locs1 ls hP1 hS1 hl
theorem jr_iald (C : jC p s m args c cc nL own ws D cy z) {f i n : Nat} {x : Int32} (hi : i < mm_cn f) (hk : mm_kd f = (1, n)) (hx : vp_in x n) (hd : decode cc pc = .ok (.iaload, 1)) (hq : pc + 1 = q) (kk : jJ p l e R s m args below meth c D cy z Q nL μ q lv (.int (μ.1 f i x.toNatClampNeg) :: st)) : jJ p l e R s m args below meth c D cy z Q nL μ pc lv (.int x :: .ref (z + mm_ad f i) :: st) := by
  subst hq
  exact fun H locs ls hP hS hl => va_iald (tys := mm_ty cy) C.1 C.2.1 C.2.2.2.2.2.1 hP (mm_ad f i) 0 ((mm_wsat cy z μ hi).trans (congrArg (fun e => some (z + mm_ad f i, e)) (mm_ceI hk i))) rfl hx hd (kk H locs ls hP hS hl)
theorem jr_lald (C : jC p s m args c cc nL own ws D cy z) {f i n : Nat} {x : Int32} (hi : i < mm_cn f) (hk : mm_kd f = (2, n)) (hx : vp_in x n) (hd : decode cc pc = .ok (.laload, 1)) (hq : pc + 1 = q) (kk : jJ p l e R s m args below meth c D cy z Q nL μ q lv (.long (μ.2 f i x.toNatClampNeg) :: st)) : jJ p l e R s m args below meth c D cy z Q nL μ pc lv (.int x :: .ref (z + mm_ad f i) :: st) := by
  subst hq
  exact fun H locs ls hP hS hl => va_lald (tys := mm_ty cy) C.1 C.2.1 C.2.2.2.2.2.1 hP (mm_ad f i) 1 ((mm_wsat cy z μ hi).trans (congrArg (fun e => some (z + mm_ad f i, e)) (mm_ceJ hk i))) rfl hx hd (kk H locs ls hP hS hl)
theorem jr_zald (C : jC p s m args c cc nL own ws D cy z) {f i n : Nat} {x : Int32} (hi : i < mm_cn f) (hk : mm_kd f = (3, n)) (hx : vp_in x n) (hd : decode cc pc = .ok (.baload, 1)) (hq : pc + 1 = q) (kk : jJ p l e R s m args below meth c D cy z Q nL μ q lv (.int (μ.1 f i x.toNatClampNeg) :: st)) : jJ p l e R s m args below meth c D cy z Q nL μ pc lv (.int x :: .ref (z + mm_ad f i) :: st) := by
  subst hq
  exact fun H locs ls hP hS hl => va_zald (tys := mm_ty cy) C.1 C.2.1 C.2.2.2.2.2.1 hP (mm_ad f i) 2 ((mm_wsat cy z μ hi).trans (congrArg (fun e => some (z + mm_ad f i, e)) (mm_ceZ hk i))) rfl hx hd (kk H locs ls hP hS hl)
theorem jr_iast (C : jC p s m args c cc nL own ws D cy z) {f i n : Nat} {x : Int32} (hi : i < mm_cn f) {v : Int32}  (hk : mm_kd f = (1, n)) (hx : vp_in x n) (hd : decode cc pc = .ok (.iastore, 1)) (hq : pc + 1 = q) (kk : jJ p l e R s m args below meth c D cy z Q nL (mm_I μ f i x.toNatClampNeg v) q lv (st)) : jJ p l e R s m args below meth c D cy z Q nL μ pc lv (.int v :: .int x :: .ref (z + mm_ad f i) :: st) := by
  subst hq
  intro H locs ls hP hS hl
  have hw2 : (mm_ws cy z μ).set (mm_ad f i) (z + mm_ad f i, .inl (cy 0, n, .inl (upd (μ.1 f i) x.toNatClampNeg v))) = mm_ws cy z (mm_I μ f i x.toNatClampNeg v) := by
    rw [← mm_set (cy := cy) (z := z) hi (mm_Io μ f i x.toNatClampNeg v), mm_ceI hk i, mm_Is]
  refine va_iast (tys := mm_ty cy) (A := mm_A z) C.1 C.2.1 C.2.2.2.2.2.1 hP (mm_D cy z μ) hS (mm_ad f i) 0 ((mm_wsat cy z μ hi).trans (congrArg (fun e => some (z + mm_ad f i, e)) (mm_ceI hk i))) rfl hx hd (fun H1 locs1 hP1 hD1 hS1 => ?_)
  rw [hw2] at hP1
  exact kk H1 locs1 ls hP1 hS1 hl
theorem jr_last (C : jC p s m args c cc nL own ws D cy z) {f i n : Nat} {x : Int32} (hi : i < mm_cn f) {v : Int64}  (hk : mm_kd f = (2, n)) (hx : vp_in x n) (hd : decode cc pc = .ok (.lastore, 1)) (hq : pc + 1 = q) (kk : jJ p l e R s m args below meth c D cy z Q nL (mm_L μ f i x.toNatClampNeg v) q lv (st)) : jJ p l e R s m args below meth c D cy z Q nL μ pc lv (.long v :: .int x :: .ref (z + mm_ad f i) :: st) := by
  subst hq
  intro H locs ls hP hS hl
  have hw2 : (mm_ws cy z μ).set (mm_ad f i) (z + mm_ad f i, .inl (cy 1, n, .inr (.inl (vp_updL (μ.2 f i) x.toNatClampNeg v)))) = mm_ws cy z (mm_L μ f i x.toNatClampNeg v) := by
    rw [← mm_set (cy := cy) (z := z) hi (mm_Lo μ f i x.toNatClampNeg v), mm_ceJ hk i, mm_Ls]
  refine va_last (tys := mm_ty cy) (A := mm_A z) C.1 C.2.1 C.2.2.2.2.2.1 hP (mm_D cy z μ) hS (mm_ad f i) 1 ((mm_wsat cy z μ hi).trans (congrArg (fun e => some (z + mm_ad f i, e)) (mm_ceJ hk i))) rfl hx hd (fun H1 locs1 hP1 hD1 hS1 => ?_)
  rw [hw2] at hP1
  exact kk H1 locs1 ls hP1 hS1 hl
theorem jr_zast (C : jC p s m args c cc nL own ws D cy z) {f i n : Nat} {x : Int32} (hi : i < mm_cn f) {v : Int32} (hb : v = 0 ∨ v = 1) (hk : mm_kd f = (3, n)) (hx : vp_in x n) (hd : decode cc pc = .ok (.bastore, 1)) (hq : pc + 1 = q) (kk : jJ p l e R s m args below meth c D cy z Q nL (mm_I μ f i x.toNatClampNeg v) q lv (st)) : jJ p l e R s m args below meth c D cy z Q nL μ pc lv (.int v :: .int x :: .ref (z + mm_ad f i) :: st) := by
  subst hq
  intro H locs ls hP hS hl
  have hw2 : (mm_ws cy z μ).set (mm_ad f i) (z + mm_ad f i, .inl (cy 2, n, .inl (upd (μ.1 f i) x.toNatClampNeg (vp_nar .boolean v)))) = mm_ws cy z (mm_I μ f i x.toNatClampNeg v) := by
    rw [← mm_set (cy := cy) (z := z) hi (mm_Io μ f i x.toNatClampNeg v), mm_ceZ hk i, mm_Is]
    rw [mm_vb hb]
  refine va_zast (tys := mm_ty cy) (A := mm_A z) C.1 C.2.1 C.2.2.2.2.2.1 hP (mm_D cy z μ) hS (mm_ad f i) 2 ((mm_wsat cy z μ hi).trans (congrArg (fun e => some (z + mm_ad f i, e)) (mm_ceZ hk i))) rfl hx hd (fun H1 locs1 hP1 hD1 hS1 => ?_)
  rw [hw2] at hP1
  exact kk H1 locs1 ls hP1 hS1 hl
theorem jr_aald (C : jC p s m args c cc nL own ws D cy z) {f i n : Nat} {x : Int32} (hi : i < mm_cn f) {t : Nat} (F : Nat) (hF : ∀ j, mm_rf f j = F) (hI : ∀ i j, mm_ri f i j = j) (hk : mm_kd f = (t + 4, n)) (ht : t < 4) (hx : vp_in x n) (hd : decode cc pc = .ok (.aaload, 1)) (hq : pc + 1 = q) (kk : jJ p l e R s m args below meth c D cy z Q nL μ q lv (.ref (z + mm_ad F x.toNatClampNeg) :: st)) : jJ p l e R s m args below meth c D cy z Q nL μ pc lv (.int x :: .ref (z + mm_ad f i) :: st) := by
  subst hq
  intro H locs ls hP hS hl
  have hlt : x.toNatClampNeg < n := Nat.not_le.mp fun q => hx (Or.inr q)
  have hcell := hP (mm_ad f i) _ ((mm_wsat cy z μ hi).trans (congrArg (fun e => some (z + mm_ad f i, e)) (mm_ceR hk i)))
  have hty : ∃ ty : FieldType, (mm_ty cy)[t + 3]? = some (cy (t + 3), ty) ∧ ty.isReference = true := by
    rcases (show t = 0 ∨ t = 1 ∨ t = 2 ∨ t = 3 by omega) with rfl | rfl | rfl | rfl <;> exact ⟨_, rfl, rfl⟩
  obtain ⟨ty, hty1, hty2⟩ := hty
  have hv : mm_rt f i x.toNatClampNeg = mm_ad F x.toNatClampNeg := by unfold mm_rt; rw [hF, hI]
  refine W.aald (v := .ref (z + mm_ad F x.toNatClampNeg)) (ty := ty) C.1 C.2.1 hcell ((C.2.2.2.2.2.1.2 (t + 3) _ hty1).1 n (fun j => va_rf (some (z + mm_rt f i j)))) hty2 (fun q => by cases q) (by show ¬ (x < 0 ∨ (arrV _ _ _).slots.size ≤ _); rw [arrV_size]; exact hx) (by show (arrV _ _ _).slots[_]? = _; rw [arrV_read _ _ hlt, ← hv]; rfl) rfl rfl hd (kk H locs ls hP hS hl)
theorem jr_alen (C : jC p s m args c cc nL own ws D cy z) {f i n k t : Nat} {v : Int32} (hi : i < mm_cn f) (hk : mm_kd f = (k, n)) (ht : (if k = 1 then 0 else if k = 2 then 1 else if k = 3 then 2 else k - 1) = t) (hk0 : ¬ k = 0 ∧ k < 8) (hv : Int32.ofNat n = v) (hd : decode cc pc = .ok (.arraylength, 1)) (hq : pc + 1 = q) (kk : jJ p l e R s m args below meth c D cy z Q nL μ q lv (.int v :: st)) : jJ p l e R s m args below meth c D cy z Q nL μ pc lv (.ref (z + mm_ad f i) :: st) := by
  subst hq
  intro H locs ls hP hS hl
  have hce : ∃ x : vp_A, mm_ce cy z μ f i = .inl (cy t, x) ∧ x.1 = n := by
    unfold mm_ce mm_ek
    rw [hk]
    rcases (show k = 1 ∨ k = 2 ∨ k = 3 ∨ k = 4 ∨ k = 5 ∨ k = 6 ∨ k = 7 by omega) with rfl | rfl | rfl | rfl | rfl | rfl | rfl <;> subst ht <;> exact ⟨_, rfl, rfl⟩
  obtain ⟨x, hx1, hx2⟩ := hce
  have hty : ∃ ty : FieldType, (mm_ty cy)[t]? = some (cy t, ty) := by
    rcases (show k = 1 ∨ k = 2 ∨ k = 3 ∨ k = 4 ∨ k = 5 ∨ k = 6 ∨ k = 7 by omega) with rfl | rfl | rfl | rfl | rfl | rfl | rfl <;> subst ht <;> exact ⟨_, rfl⟩
  obtain ⟨ty, hty⟩ := hty
  exact va_alen (tys := mm_ty cy) C.1 C.2.1 C.2.2.2.2.2.1 hP (mm_ad f i) t ((mm_wsat cy z μ hi).trans (congrArg (fun e => some (z + mm_ad f i, e)) hx1)) hty (by rw [hx2]; exact hv) hd (kk H locs ls hP hS hl)
/-- GREATEST[x] -/
theorem jr_great (C : jC p s m args c cc nL own ws D cy z) (hown : own = RX8) (hd : decode cc pc = .ok (.getstatic 59, 3)) (hq : pc + 3 = q) (kk : ∀ g : Nat, va_T .int g 5 (fun j => .int (mm_G j)) (mm_A z) s s.heap → jJ p l e R s m args below meth c D cy z Q nL μ q lv (.ref g :: st)) : jJ p l e R s m args below meth c D cy z Q nL μ pc lv (st) := by
  subst hq
  subst hown
  intro H locs ls hP hS hl
  obtain ⟨⟨g, h1, h2⟩, h3⟩ := C.2.2.2.2.2.2
  exact va_getsN C.1 C.2.1 h1 hS C.2.2.2.1 (va_Nw.use rfl h3) (fun _ h => h) hd (kk g h2 H locs ls hP hS hl)
theorem jr_gald (C : jC p s m args c cc nL own ws D cy z) {g : Nat} {x : Int32} (hT : va_T .int g 5 (fun j => .int (mm_G j)) (mm_A z) s s.heap) (hx : vp_in x 5) (hd : decode cc pc = .ok (.iaload, 1)) (hq : pc + 1 = q) (kk : jJ p l e R s m args below meth c D cy z Q nL μ q lv (.int (mm_G x.toNatClampNeg) :: st)) : jJ p l e R s m args below meth c D cy z Q nL μ pc lv (.int x :: .ref g :: st) := by
  subst hq
  exact fun H locs ls hP hS hl => va_ti C.1 C.2.1 hT hS hx rfl hd (kk H locs ls hP hS hl)
theorem jr_iret (C : jC p s m args c cc nL own ws D cy z) {v : Int32} {Po : Int32 → mm_T → Prop} (hr : meth.sig.returnType = some .int) (hk : meth.locks = false) (hd : decode cc pc = .ok (.ireturn, 1)) (h : Po v μ) : jJ p l e R s m args below meth c D cy z (MQ below (va_Qi Po (mm_Po D cy z) (mm_A z)) args s 0 0 (mm_A z)) nL μ pc lv [.int v] :=
  fun H locs ls hP hS hl => W.iret C.1 C.2.1 hr (fun t ht hW => ⟨⟨v, μ, rfl, h, by unfold mm_Po; rw [ht]; exact hP⟩, hS.F ht⟩) hS.2.2 hd hk
theorem jr_lret (C : jC p s m args c cc nL own ws D cy z) {v : Int64} {Po : Int64 → mm_T → Prop} (hr : meth.sig.returnType = some .long) (hk : meth.locks = false) (hd : decode cc pc = .ok (.lreturn, 1)) (h : Po v μ) : jJ p l e R s m args below meth c D cy z (MQ below (va_Ql Po (mm_Po D cy z) (mm_A z)) args s 0 0 (mm_A z)) nL μ pc lv [.long v] :=
  fun H locs ls hP hS hl => W.lret C.1 C.2.1 hr (fun t ht hW => ⟨⟨v, μ, rfl, h, by unfold mm_Po; rw [ht]; exact hP⟩, hS.F ht⟩) hS.2.2 hd hk
theorem jr_zret (C : jC p s m args c cc nL own ws D cy z) {v : Int32} {Po : Int32 → mm_T → Prop} (hr : meth.sig.returnType = some .boolean) (hk : meth.locks = false) (hd : decode cc pc = .ok (.ireturn, 1)) (hv : v = 0 ∨ v = 1) (h : Po v μ) : jJ p l e R s m args below meth c D cy z (MQ below (va_Qi Po (mm_Po D cy z) (mm_A z)) args s 0 0 (mm_A z)) nL μ pc lv [.int v] :=
  fun H locs ls hP hS hl => W.zret C.1 C.2.1 hr (mm_nb hv) (fun t ht hW => ⟨⟨v, μ, rfl, h, by unfold mm_Po; rw [ht]; exact hP⟩, hS.F ht⟩) hS.2.2 hd hk
theorem jr_vret (C : jC p s m args c cc nL own ws D cy z) {Po : mm_T → Prop} (hr : meth.sig.returnType = none) (hk : meth.locks = false) (hd : decode cc pc = .ok (.return_, 1)) (h : Po μ) : jJ p l e R s m args below meth c D cy z (MQ below (va_Qv Po (mm_Po D cy z) (mm_A z)) args s 0 0 (mm_A z)) nL μ pc lv [] :=
  fun H locs ls hP hS hl => W.vret C.1 C.2.1 hr (fun t ht hW => ⟨⟨μ, rfl, h, by unfold mm_Po; rw [ht]; exact hP⟩, hS.F ht⟩) hS.2.2 hd hk
theorem jr_aret (C : jC p s m args c cc nL own ws D cy z) {f i : Nat} {Cr : String} {Po : Nat → mm_T → Prop} (hr : meth.sig.returnType = some (.object Cr)) (hk : meth.locks = false) (hd : decode cc pc = .ok (.areturn, 1)) (h : Po i μ) : jJ p l e R s m args below meth c D cy z (MQ below (va_Qr (fun u : Nat × mm_T => Po u.1 u.2) (fun u a t => a = z + mm_ad f u.1 ∧ mm_Po D cy z u.2 t) (mm_A z)) args s 0 0 (mm_A z)) nL μ pc lv [.ref (z + mm_ad f i)] :=
  fun H locs ls hP hS hl => W.aret C.1 C.2.1 hr (Or.inl ⟨_, rfl⟩) (Or.inr ⟨_, rfl⟩) (fun t ht hW => ⟨⟨(i, μ), _, rfl, h, rfl, by unfold mm_Po; rw [ht]; exact hP⟩, hS.F ht⟩) hS.2.2 hd hk
theorem jr_cvI (C : jC p s m args c cc nL own ws D cy z)  {y : MethodName} {ws1 ws2 : List Cond} {rm : Room} {av : Nat → List Value} {bytes : ByteArray} {maxL n index : Nat} {ret : Option FieldType} {As rest : List Value} {f i ci : Nat} {vq : vw_C} (hi : i < mm_cn f) (hk : mm_kd f = (0, ci)) (hvq : vwCl[ci]? = some vq) (hyc : y.cls = vq.1) {wp : mm_T → (Int32 → mm_T → Prop) → Prop} {Ko : Int32 → mm_T → Prop} (ct : mm_CI l y ws1 rm av wp) (hav : av z = .ref (z + mm_ad f i) :: As) (hG : GoodIn ws (wsV own index vq.1 y ws1)) (hw : ws1 = Cond.code y bytes maxL ret :: ws2) (hd0 : y.cls ≠ "java/lang/invoke/MethodHandle" ∧ y.cls ≠ "java/lang/invoke/VarHandle" ∧ (parseMethodDescriptor y.desc).map (fun d => d.parameters.length) = some n) (hrm : rm.cells = 0 ∧ rm.slots = 0) (hR : rm.frames + 1 ≤ R.frames ∧ 8 + (maxL + 11) + rm.locals ≤ R.locals) (hn : As.length = n) (hst : st = As.reverse ++ .ref (z + mm_ad f i) :: rest) (hW8 : (rest.map fun v => v.category).sum ≤ 8) (hd : decode cc pc = .ok (.invokevirtual index, 3)) (hq : pc + 3 = q) (h : wp μ Ko) (kk : ∀ (r : Int32) (u : mm_T), Ko r u → jJ p l e R s m args below meth c D cy z Q nL u q lv (.int r :: rest)) : jJ p l e R s m args below meth c D cy z Q nL μ pc lv (st) := by
  subst hq
  subst hst
  intro H locs ls hP hS hl
  exact va_calli (va_runV (As := As) (rest := rest) ⟨C.1, C.2.1, C.2.2.1, C.2.2.2.1, C.2.2.2.2.1⟩ (ct D cy z μ Ko h) (cwV (C := vq.1) n C.2.2.2.2.1 hG hw hrm.1 hrm.2 ⟨hyc, hd0⟩ hR) ⟨mm_bl D cy z μ _, va_recv C.2.2.2.2.2.1 hP hvq ((mm_wsat cy z μ hi).trans (congrArg (fun e => some (z + mm_ad f i, e)) (mm_ceO hk i))), fun U hU hW => ⟨by rw [hav], by rw [hU]; exact hP, va_K.moved hW.alike C.2.2.2.2.2.1, C.2.2.2.2.2.2.to hS hU hW⟩⟩ rfl hn hl.1 rfl (lv_room hW8) hd ⟨Nat.zero_le _, Nat.zero_le _⟩) hS (fun q _ h => h) (fun q h => h) (fun r u t H1 locs1 ht hvm hw2 hB hz1 hk1 hS1 => kk r u hw2 H1 locs1 ls (by rw [← ht]; exact hB) hS1 hl)
theorem jr_csI (C : jC p s m args c cc nL own ws D cy z)  {y : MethodName} {ws1 ws2 : List Cond} {rm : Room} {av : Nat → List Value} {bytes : ByteArray} {maxL n index : Nat} {ret : Option FieldType} {As rest : List Value}  {wp : mm_T → (Int32 → mm_T → Prop) → Prop} {Ko : Int32 → mm_T → Prop} (ct : mm_CI l y ws1 rm av wp) (hav : av z = As) (hG : GoodIn ws (va_wsS own index y ws1)) (hw : ws1 = Cond.code y bytes maxL ret :: ws2) (hd0 : y.cls ≠ "java/lang/invoke/MethodHandle" ∧ y.cls ≠ "java/lang/invoke/VarHandle" ∧ (parseMethodDescriptor y.desc).map (fun d => d.parameters.length) = some n) (hrm : rm.cells = 0 ∧ rm.slots = 0) (hR : rm.frames + 1 ≤ R.frames ∧ 8 + (maxL + 11) + rm.locals ≤ R.locals) (hn : As.length = n) (hst : st = As.reverse ++ rest) (hW8 : (rest.map fun v => v.category).sum ≤ 8) (hd : decode cc pc = .ok (.invokestatic index, 3)) (hq : pc + 3 = q) (h : wp μ Ko) (kk : ∀ (r : Int32) (u : mm_T), Ko r u → jJ p l e R s m args below meth c D cy z Q nL u q lv (.int r :: rest)) : jJ p l e R s m args below meth c D cy z Q nL μ pc lv (st) := by
  subst hq
  subst hst
  intro H locs ls hP hS hl
  exact va_calli (va_runS (As := As) (rest := rest) ⟨C.1, C.2.1, C.2.2.1, C.2.2.2.1, C.2.2.2.2.1⟩ (ct D cy z μ Ko h) (va_cwS n C.2.2.2.2.1 hG hw hrm.1 hrm.2 hd0 hR) ⟨mm_bl D cy z μ _, fun U hU hW => ⟨by rw [hav], by rw [hU]; exact hP, va_K.moved hW.alike C.2.2.2.2.2.1, C.2.2.2.2.2.2.to hS hU hW⟩⟩ rfl hn hl.1 rfl (lv_room hW8) hd ⟨Nat.zero_le _, Nat.zero_le _⟩) hS (fun q _ h => h) (fun q h => h) (fun r u t H1 locs1 ht hvm hw2 hB hz1 hk1 hS1 => kk r u hw2 H1 locs1 ls (by rw [← ht]; exact hB) hS1 hl)
theorem jr_cvL (C : jC p s m args c cc nL own ws D cy z)  {y : MethodName} {ws1 ws2 : List Cond} {rm : Room} {av : Nat → List Value} {bytes : ByteArray} {maxL n index : Nat} {ret : Option FieldType} {As rest : List Value} {f i ci : Nat} {vq : vw_C} (hi : i < mm_cn f) (hk : mm_kd f = (0, ci)) (hvq : vwCl[ci]? = some vq) (hyc : y.cls = vq.1) {wp : mm_T → (Int64 → mm_T → Prop) → Prop} {Ko : Int64 → mm_T → Prop} (ct : mm_CL l y ws1 rm av wp) (hav : av z = .ref (z + mm_ad f i) :: As) (hG : GoodIn ws (wsV own index vq.1 y ws1)) (hw : ws1 = Cond.code y bytes maxL ret :: ws2) (hd0 : y.cls ≠ "java/lang/invoke/MethodHandle" ∧ y.cls ≠ "java/lang/invoke/VarHandle" ∧ (parseMethodDescriptor y.desc).map (fun d => d.parameters.length) = some n) (hrm : rm.cells = 0 ∧ rm.slots = 0) (hR : rm.frames + 1 ≤ R.frames ∧ 8 + (maxL + 11) + rm.locals ≤ R.locals) (hn : As.length = n) (hst : st = As.reverse ++ .ref (z + mm_ad f i) :: rest) (hW8 : (rest.map fun v => v.category).sum ≤ 8) (hd : decode cc pc = .ok (.invokevirtual index, 3)) (hq : pc + 3 = q) (h : wp μ Ko) (kk : ∀ (r : Int64) (u : mm_T), Ko r u → jJ p l e R s m args below meth c D cy z Q nL u q lv (.long r :: rest)) : jJ p l e R s m args below meth c D cy z Q nL μ pc lv (st) := by
  subst hq
  subst hst
  intro H locs ls hP hS hl
  exact va_calll (va_runV (As := As) (rest := rest) ⟨C.1, C.2.1, C.2.2.1, C.2.2.2.1, C.2.2.2.2.1⟩ (ct D cy z μ Ko h) (cwV (C := vq.1) n C.2.2.2.2.1 hG hw hrm.1 hrm.2 ⟨hyc, hd0⟩ hR) ⟨mm_bl D cy z μ _, va_recv C.2.2.2.2.2.1 hP hvq ((mm_wsat cy z μ hi).trans (congrArg (fun e => some (z + mm_ad f i, e)) (mm_ceO hk i))), fun U hU hW => ⟨by rw [hav], by rw [hU]; exact hP, va_K.moved hW.alike C.2.2.2.2.2.1, C.2.2.2.2.2.2.to hS hU hW⟩⟩ rfl hn hl.1 rfl (lv_room hW8) hd ⟨Nat.zero_le _, Nat.zero_le _⟩) hS (fun q _ h => h) (fun q h => h) (fun r u t H1 locs1 ht hvm hw2 hB hz1 hk1 hS1 => kk r u hw2 H1 locs1 ls (by rw [← ht]; exact hB) hS1 hl)
theorem jr_csL (C : jC p s m args c cc nL own ws D cy z)  {y : MethodName} {ws1 ws2 : List Cond} {rm : Room} {av : Nat → List Value} {bytes : ByteArray} {maxL n index : Nat} {ret : Option FieldType} {As rest : List Value}  {wp : mm_T → (Int64 → mm_T → Prop) → Prop} {Ko : Int64 → mm_T → Prop} (ct : mm_CL l y ws1 rm av wp) (hav : av z = As) (hG : GoodIn ws (va_wsS own index y ws1)) (hw : ws1 = Cond.code y bytes maxL ret :: ws2) (hd0 : y.cls ≠ "java/lang/invoke/MethodHandle" ∧ y.cls ≠ "java/lang/invoke/VarHandle" ∧ (parseMethodDescriptor y.desc).map (fun d => d.parameters.length) = some n) (hrm : rm.cells = 0 ∧ rm.slots = 0) (hR : rm.frames + 1 ≤ R.frames ∧ 8 + (maxL + 11) + rm.locals ≤ R.locals) (hn : As.length = n) (hst : st = As.reverse ++ rest) (hW8 : (rest.map fun v => v.category).sum ≤ 8) (hd : decode cc pc = .ok (.invokestatic index, 3)) (hq : pc + 3 = q) (h : wp μ Ko) (kk : ∀ (r : Int64) (u : mm_T), Ko r u → jJ p l e R s m args below meth c D cy z Q nL u q lv (.long r :: rest)) : jJ p l e R s m args below meth c D cy z Q nL μ pc lv (st) := by
  subst hq
  subst hst
  intro H locs ls hP hS hl
  exact va_calll (va_runS (As := As) (rest := rest) ⟨C.1, C.2.1, C.2.2.1, C.2.2.2.1, C.2.2.2.2.1⟩ (ct D cy z μ Ko h) (va_cwS n C.2.2.2.2.1 hG hw hrm.1 hrm.2 hd0 hR) ⟨mm_bl D cy z μ _, fun U hU hW => ⟨by rw [hav], by rw [hU]; exact hP, va_K.moved hW.alike C.2.2.2.2.2.1, C.2.2.2.2.2.2.to hS hU hW⟩⟩ rfl hn hl.1 rfl (lv_room hW8) hd ⟨Nat.zero_le _, Nat.zero_le _⟩) hS (fun q _ h => h) (fun q h => h) (fun r u t H1 locs1 ht hvm hw2 hB hz1 hk1 hS1 => kk r u hw2 H1 locs1 ls (by rw [← ht]; exact hB) hS1 hl)
theorem jr_cvV (C : jC p s m args c cc nL own ws D cy z)  {y : MethodName} {ws1 ws2 : List Cond} {rm : Room} {av : Nat → List Value} {bytes : ByteArray} {maxL n index : Nat} {ret : Option FieldType} {As rest : List Value} {f i ci : Nat} {vq : vw_C} (hi : i < mm_cn f) (hk : mm_kd f = (0, ci)) (hvq : vwCl[ci]? = some vq) (hyc : y.cls = vq.1) {wp : mm_T → (mm_T → Prop) → Prop} {Ko : mm_T → Prop} (ct : mm_CV l y ws1 rm av wp) (hav : av z = .ref (z + mm_ad f i) :: As) (hG : GoodIn ws (wsV own index vq.1 y ws1)) (hw : ws1 = Cond.code y bytes maxL ret :: ws2) (hd0 : y.cls ≠ "java/lang/invoke/MethodHandle" ∧ y.cls ≠ "java/lang/invoke/VarHandle" ∧ (parseMethodDescriptor y.desc).map (fun d => d.parameters.length) = some n) (hrm : rm.cells = 0 ∧ rm.slots = 0) (hR : rm.frames + 1 ≤ R.frames ∧ 8 + (maxL + 11) + rm.locals ≤ R.locals) (hn : As.length = n) (hst : st = As.reverse ++ .ref (z + mm_ad f i) :: rest) (hW8 : (rest.map fun v => v.category).sum ≤ 8) (hd : decode cc pc = .ok (.invokevirtual index, 3)) (hq : pc + 3 = q) (h : wp μ Ko) (kk : ∀ (u : mm_T), Ko u → jJ p l e R s m args below meth c D cy z Q nL u q lv (rest)) : jJ p l e R s m args below meth c D cy z Q nL μ pc lv (st) := by
  subst hq
  subst hst
  intro H locs ls hP hS hl
  exact va_callv (va_runV (As := As) (rest := rest) ⟨C.1, C.2.1, C.2.2.1, C.2.2.2.1, C.2.2.2.2.1⟩ (ct D cy z μ Ko h) (cwV (C := vq.1) n C.2.2.2.2.1 hG hw hrm.1 hrm.2 ⟨hyc, hd0⟩ hR) ⟨mm_bl D cy z μ _, va_recv C.2.2.2.2.2.1 hP hvq ((mm_wsat cy z μ hi).trans (congrArg (fun e => some (z + mm_ad f i, e)) (mm_ceO hk i))), fun U hU hW => ⟨by rw [hav], by rw [hU]; exact hP, va_K.moved hW.alike C.2.2.2.2.2.1, C.2.2.2.2.2.2.to hS hU hW⟩⟩ rfl hn hl.1 rfl (lv_room hW8) hd ⟨Nat.zero_le _, Nat.zero_le _⟩) hS (fun q _ h => h) (fun q h => h) (fun u t H1 locs1 ht hvm hw2 hB hz1 hk1 hS1 => kk u hw2 H1 locs1 ls (by rw [← ht]; exact hB) hS1 hl)
theorem jr_csV (C : jC p s m args c cc nL own ws D cy z)  {y : MethodName} {ws1 ws2 : List Cond} {rm : Room} {av : Nat → List Value} {bytes : ByteArray} {maxL n index : Nat} {ret : Option FieldType} {As rest : List Value}  {wp : mm_T → (mm_T → Prop) → Prop} {Ko : mm_T → Prop} (ct : mm_CV l y ws1 rm av wp) (hav : av z = As) (hG : GoodIn ws (va_wsS own index y ws1)) (hw : ws1 = Cond.code y bytes maxL ret :: ws2) (hd0 : y.cls ≠ "java/lang/invoke/MethodHandle" ∧ y.cls ≠ "java/lang/invoke/VarHandle" ∧ (parseMethodDescriptor y.desc).map (fun d => d.parameters.length) = some n) (hrm : rm.cells = 0 ∧ rm.slots = 0) (hR : rm.frames + 1 ≤ R.frames ∧ 8 + (maxL + 11) + rm.locals ≤ R.locals) (hn : As.length = n) (hst : st = As.reverse ++ rest) (hW8 : (rest.map fun v => v.category).sum ≤ 8) (hd : decode cc pc = .ok (.invokestatic index, 3)) (hq : pc + 3 = q) (h : wp μ Ko) (kk : ∀ (u : mm_T), Ko u → jJ p l e R s m args below meth c D cy z Q nL u q lv (rest)) : jJ p l e R s m args below meth c D cy z Q nL μ pc lv (st) := by
  subst hq
  subst hst
  intro H locs ls hP hS hl
  exact va_callv (va_runS (As := As) (rest := rest) ⟨C.1, C.2.1, C.2.2.1, C.2.2.2.1, C.2.2.2.2.1⟩ (ct D cy z μ Ko h) (va_cwS n C.2.2.2.2.1 hG hw hrm.1 hrm.2 hd0 hR) ⟨mm_bl D cy z μ _, fun U hU hW => ⟨by rw [hav], by rw [hU]; exact hP, va_K.moved hW.alike C.2.2.2.2.2.1, C.2.2.2.2.2.2.to hS hU hW⟩⟩ rfl hn hl.1 rfl (lv_room hW8) hd ⟨Nat.zero_le _, Nat.zero_le _⟩) hS (fun q _ h => h) (fun q h => h) (fun u t H1 locs1 ht hvm hw2 hB hz1 hk1 hS1 => kk u hw2 H1 locs1 ls (by rw [← ht]; exact hB) hS1 hl)
theorem jr_cvR (C : jC p s m args c cc nL own ws D cy z) {f0 : Nat} {y : MethodName} {ws1 ws2 : List Cond} {rm : Room} {av : Nat → List Value} {bytes : ByteArray} {maxL n index : Nat} {ret : Option FieldType} {As rest : List Value} {f i ci : Nat} {vq : vw_C} (hi : i < mm_cn f) (hk : mm_kd f = (0, ci)) (hvq : vwCl[ci]? = some vq) (hyc : y.cls = vq.1) {wp : mm_T → (Nat → mm_T → Prop) → Prop} {Ko : Nat → mm_T → Prop} (ct : mm_CR f0 l y ws1 rm av wp) (hav : av z = .ref (z + mm_ad f i) :: As) (hG : GoodIn ws (wsV own index vq.1 y ws1)) (hw : ws1 = Cond.code y bytes maxL ret :: ws2) (hd0 : y.cls ≠ "java/lang/invoke/MethodHandle" ∧ y.cls ≠ "java/lang/invoke/VarHandle" ∧ (parseMethodDescriptor y.desc).map (fun d => d.parameters.length) = some n) (hrm : rm.cells = 0 ∧ rm.slots = 0) (hR : rm.frames + 1 ≤ R.frames ∧ 8 + (maxL + 11) + rm.locals ≤ R.locals) (hn : As.length = n) (hst : st = As.reverse ++ .ref (z + mm_ad f i) :: rest) (hW8 : (rest.map fun v => v.category).sum ≤ 8) (hd : decode cc pc = .ok (.invokevirtual index, 3)) (hq : pc + 3 = q) (h : wp μ Ko) (kk : ∀ (r : Nat) (u : mm_T), Ko r u → jJ p l e R s m args below meth c D cy z Q nL u q lv (.ref (z + mm_ad f0 r) :: rest)) : jJ p l e R s m args below meth c D cy z Q nL μ pc lv (st) := by
  subst hq
  subst hst
  intro H locs ls hP hS hl
  exact va_callr (va_runV (As := As) (rest := rest) ⟨C.1, C.2.1, C.2.2.1, C.2.2.2.1, C.2.2.2.2.1⟩ (ct D cy z μ Ko h) (cwV (C := vq.1) n C.2.2.2.2.1 hG hw hrm.1 hrm.2 ⟨hyc, hd0⟩ hR) ⟨mm_bl D cy z μ _, va_recv C.2.2.2.2.2.1 hP hvq ((mm_wsat cy z μ hi).trans (congrArg (fun e => some (z + mm_ad f i, e)) (mm_ceO hk i))), fun U hU hW => ⟨by rw [hav], by rw [hU]; exact hP, va_K.moved hW.alike C.2.2.2.2.2.1, C.2.2.2.2.2.2.to hS hU hW⟩⟩ rfl hn hl.1 rfl (lv_room hW8) hd ⟨Nat.zero_le _, Nat.zero_le _⟩) hS (fun q _ h => h) (fun q h => h) (fun u ra t H1 locs1 ht hvm hw2 hB hz1 hk1 hS1 => by obtain ⟨he, hB⟩ := hB; subst he; exact kk u.1 u.2 hw2 H1 locs1 ls (by rw [← ht]; exact hB) hS1 hl)
theorem jr_csR (C : jC p s m args c cc nL own ws D cy z) {f0 : Nat} {y : MethodName} {ws1 ws2 : List Cond} {rm : Room} {av : Nat → List Value} {bytes : ByteArray} {maxL n index : Nat} {ret : Option FieldType} {As rest : List Value}  {wp : mm_T → (Nat → mm_T → Prop) → Prop} {Ko : Nat → mm_T → Prop} (ct : mm_CR f0 l y ws1 rm av wp) (hav : av z = As) (hG : GoodIn ws (va_wsS own index y ws1)) (hw : ws1 = Cond.code y bytes maxL ret :: ws2) (hd0 : y.cls ≠ "java/lang/invoke/MethodHandle" ∧ y.cls ≠ "java/lang/invoke/VarHandle" ∧ (parseMethodDescriptor y.desc).map (fun d => d.parameters.length) = some n) (hrm : rm.cells = 0 ∧ rm.slots = 0) (hR : rm.frames + 1 ≤ R.frames ∧ 8 + (maxL + 11) + rm.locals ≤ R.locals) (hn : As.length = n) (hst : st = As.reverse ++ rest) (hW8 : (rest.map fun v => v.category).sum ≤ 8) (hd : decode cc pc = .ok (.invokestatic index, 3)) (hq : pc + 3 = q) (h : wp μ Ko) (kk : ∀ (r : Nat) (u : mm_T), Ko r u → jJ p l e R s m args below meth c D cy z Q nL u q lv (.ref (z + mm_ad f0 r) :: rest)) : jJ p l e R s m args below meth c D cy z Q nL μ pc lv (st) := by
  subst hq
  subst hst
  intro H locs ls hP hS hl
  exact va_callr (va_runS (As := As) (rest := rest) ⟨C.1, C.2.1, C.2.2.1, C.2.2.2.1, C.2.2.2.2.1⟩ (ct D cy z μ Ko h) (va_cwS n C.2.2.2.2.1 hG hw hrm.1 hrm.2 hd0 hR) ⟨mm_bl D cy z μ _, fun U hU hW => ⟨by rw [hav], by rw [hU]; exact hP, va_K.moved hW.alike C.2.2.2.2.2.1, C.2.2.2.2.2.2.to hS hU hW⟩⟩ rfl hn hl.1 rfl (lv_room hW8) hd ⟨Nat.zero_le _, Nat.zero_le _⟩) hS (fun q _ h => h) (fun q h => h) (fun u ra t H1 locs1 ht hvm hw2 hB hz1 hk1 hS1 => by obtain ⟨he, hB⟩ := hB; subst he; exact kk u.1 u.2 hw2 H1 locs1 ls (by rw [← ht]; exact hB) hS1 hl)
theorem jr_max (C : jC p s m args c cc nL own ws D cy z) {x y : Int32} {index : Nat} (h1 : Cond.methodLink own index Lib.Math.max.name ∈ ws) (h2 : Cond.static Lib.Math.max.name ∈ ws) (h3 : Cond.initialized "java/lang/Math" ∈ ws) (h4 : Cond.code Lib.Math.max.name Lib.Math.max.code 2 (some .int) ∈ ws) (hf : 1 ≤ R.frames) (hlo : (st.map fun v => v.category).sum + 13 ≤ R.locals) (hd : decode cc pc = .ok (.invokestatic index, 3)) (hq : pc + 3 = q) (kk : jJ p l e R s m args below meth c D cy z Q nL μ q lv (.int (if x < y then y else x) :: st)) : jJ p l e R s m args below meth c D cy z Q nL μ pc lv (.int y :: .int x :: st) := by
  subst hq
  exact fun H locs ls hP hS hl => va_mmax C.1 C.2.1 (C.2.2.1.trans hl.1.symm) C.2.2.2.1 (C.2.2.2.2.1 _ h1) (C.2.2.2.2.1 _ h2) (C.2.2.2.2.1 _ h3) (C.2.2.2.2.1 _ h4) hf hlo (Nat.zero_le _) (Nat.zero_le _) hd (kk H locs ls hP hS hl)
theorem jr_maxl (C : jC p s m args c cc nL own ws D cy z) {x y : Int64} {index : Nat} (h1 : Cond.methodLink own index Lib.MathLoose.max_long.x ∈ ws) (h2 : Cond.static Lib.MathLoose.max_long.x ∈ ws) (h3 : Cond.initialized "java/lang/Math" ∈ ws) (h4 : Cond.code Lib.MathLoose.max_long.x Lib.MathLoose.max_long.code 4 (some .long) ∈ ws) (hf : 1 ≤ R.frames) (hlo : (st.map fun v => v.category).sum + 15 ≤ R.locals) (hd : decode cc pc = .ok (.invokestatic index, 3)) (hq : pc + 3 = q) (kk : jJ p l e R s m args below meth c D cy z Q nL μ q lv (.long (if y < x then x else y) :: st)) : jJ p l e R s m args below meth c D cy z Q nL μ pc lv (.long y :: .long x :: st) := by
  subst hq
  exact fun H locs ls hP hS hl => va_mmax_long C.1 C.2.1 (C.2.2.1.trans hl.1.symm) C.2.2.2.1 (C.2.2.2.2.1 _ h1) (C.2.2.2.2.1 _ h2) (C.2.2.2.2.1 _ h3) (C.2.2.2.2.1 _ h4) hf hlo (Nat.zero_le _) (Nat.zero_le _) hd (kk H locs ls hP hS hl)
theorem jr_sub {lv2 : List (Nat × Value)} (ks : List Nat) (h : lv_pick lv ks = lv2) (kk : jJ p l e R s m args below meth c D cy z Q nL μ pc lv2 (st)) : jJ p l e R s m args below meth c D cy z Q nL μ pc lv (st) := fun H locs ls hP hS hl => kk H locs ls hP hS (lv_sub hl ks h)
theorem jn_mem (kk : ∀ u : mm_T, u = μ → jJ p l e R s m args below meth c D cy z Q nL u pc lv (st)) : jJ p l e R s m args below meth c D cy z Q nL μ pc lv (st) := kk μ rfl
theorem jn_int {x : Int32} (kk : ∀ u : Int32, u = x → jJ p l e R s m args below meth c D cy z Q nL μ pc lv (.int u :: st)) : jJ p l e R s m args below meth c D cy z Q nL μ pc lv (.int x :: st) := kk x rfl
theorem jn_lng {x : Int64} (kk : ∀ u : Int64, u = x → jJ p l e R s m args below meth c D cy z Q nL μ pc lv (.long u :: st)) : jJ p l e R s m args below meth c D cy z Q nL μ pc lv (.long x :: st) := kk x rfl
end JR
/-- a loop over a state: B says what one turn asks, K stands for 'again' -/
def lp_N {σ : Type} (B : (σ → Prop) → σ → Prop) : Nat → σ → Prop
  | 0, _ => False
  | n + 1, t => B (lp_N B n) t
def lp_ {σ : Type} (B : (σ → Prop) → σ → Prop) (t : σ) : Prop := ∃ n, lp_N B n t
theorem lp_go {σ : Type} {B : (σ → Prop) → σ → Prop} {P : σ → Prop} (hB : ∀ (K : σ → Prop) (t : σ), (∀ t2, K t2 → P t2) → B K t → P t) (t : σ) (h : lp_ B t) : P t := by
  obtain ⟨n, h⟩ := h
  induction n generalizing t with
  | zero => exact h.elim
  | succ n ih => exact hB (lp_N B n) t (fun t2 h2 => ih t2 h2) h
theorem lp_in {σ : Type} {B : (σ → Prop) → σ → Prop} (I : σ → Prop) (d : σ → Nat) (hs : ∀ t, I t → ∀ K : σ → Prop, (∀ t2, I t2 → d t2 < d t → K t2) → B K t) (t : σ) (h : I t) : lp_ B t := by
  have key : ∀ n t, I t → d t < n → lp_N B n t := by
    intro n
    induction n with
    | zero => intro t _ h2; exact absurd h2 (Nat.not_lt_zero _)
    | succ n ih => exact fun t h1 h2 => hs t h1 (lp_N B n) (fun t2 h3 h4 => ih t2 h3 (Nat.lt_of_lt_of_le h4 (Nat.le_of_lt_succ h2)))
  exact ⟨d t + 1, key _ t h (Nat.lt_succ_self _)⟩
theorem jm_ofW {l : Launch} {y : MethodName} {ws ws2 : List Cond} {rm : Room} {Pc : Array Value → State → Prop} {Qc : Array Value → State → Outcome → State → Prop} {mc ms : Nat} {free : Addr → Prop} {cc : ByteArray} {maxL : Nat} {ret : Option FieldType} (hy : plainFor y = true) (hw : ws = Cond.code y cc maxL ret :: ws2)
    (body : ∀ p e s m args below meth c s₁, BodyLoose p l y (headSpec ws rm) cc maxL ret e s m args below meth c s₁ → c.maxLocals = maxL → Pc args s → W p l e (headSpec ws rm).room s m args below meth c s.heap [] 0 0 (MQ below Qc args s mc ms free) (entryFrame m args maxL)) : Met l y ws rm Pc Qc mc ms free := by
  refine MetFree.of_bodySF (code := cc) (maxLocals := maxL) (ret := ret) hy ?_ ?_
  · intro args s m h hn
    obtain ⟨meth, c, h1, h2, h3, h4, h5, h6, -, -⟩ := Cond.code_spec hn (atoms_spec (ws := ws) h _ (by rw [hw]; exact List.mem_cons_self))
    exact ⟨meth, c, h1, h2, h3, h4, h5, h6⟩
  · intro p e s m args below meth c s₁ B hml hP _
    have hh0 : s₁.heap = s.heap := by rw [B.state]; rfl
    obtain ⟨t, a1, o, b1, b2, b3⟩ := body p e s m args below meth c s₁ B hml hP s₁ hh0 (Stand.of_body B)
    exact ⟨t, o, a1, b1, b2, ⟨b3.1, b3.2⟩⟩
section JE
variable {l : Launch} {y : MethodName} {ws ws2 : List Cond} {rm : Room} {cc : ByteArray} {nL : Nat} {own : String}
theorem je_I  {av : Nat → List Value} {wp : mm_T → (Int32 → mm_T → Prop) → Prop} (hy : plainFor y = true) (ho : y.cls = own) (hw : ws = Cond.code y cc nL (some .int) :: ws2) (hln : ∀ z, (lg_sl (av z)).length ≤ nL)
    (body : ∀ (p : Program) (e : Env) (s : State) (m : MethodId) (args : Array Value) (below : List Frame) (meth : Method) (c : Code) (D : va_G) (cy : Nat → ClassId) (z : Nat) (μ : mm_T) (Po : Int32 → mm_T → Prop), jC p s m args c cc nL own ws D cy z → meth.sig.returnType = some .int → meth.locks = false → wp μ Po → jJ p l e rm s m args below meth c D cy z (MQ below (va_Qi Po (mm_Po D cy z) (mm_A z)) args s 0 0 (mm_A z)) nL μ 0 (lv_args 0 (av z)) []) : mm_CI l y ws rm av wp := by
  intro D cy z μ Po hwp
  refine jm_ofW (cc := cc) (maxL := nL) (ret := some .int) hy hw ?_
  intro p e s m args below meth c s₁ B hml hv
  obtain ⟨ha, hP, hK, hG⟩ := hv
  have hl := lv_entry (av z) (n := nL) (hln z)
  have hC : jC p s m args c cc nL own ws D cy z := ⟨B.exec, B.bytes, hml, ho ▸ findClass_of_methodNamed B.named, atoms_spec (ws := ws) B.pre, hK, hG⟩
  have hb := body p e s m args below meth c D cy z μ Po hC B.returns B.notSynchronized hwp
  have hfr : entryFrame m args nL = F0 m 0 ((lg_sl (av z) ++ List.replicate (nL - (lg_sl (av z)).length) Slot.unset).toArray) [] := by rw [ha]; exact lg_entry_eq m (av z) nL
  rw [hfr]
  exact hb s.heap [] _ hP va_S.rf hl
theorem je_Z  {av : Nat → List Value} {wp : mm_T → (Int32 → mm_T → Prop) → Prop} (hy : plainFor y = true) (ho : y.cls = own) (hw : ws = Cond.code y cc nL (some .boolean) :: ws2) (hln : ∀ z, (lg_sl (av z)).length ≤ nL)
    (body : ∀ (p : Program) (e : Env) (s : State) (m : MethodId) (args : Array Value) (below : List Frame) (meth : Method) (c : Code) (D : va_G) (cy : Nat → ClassId) (z : Nat) (μ : mm_T) (Po : Int32 → mm_T → Prop), jC p s m args c cc nL own ws D cy z → meth.sig.returnType = some .boolean → meth.locks = false → wp μ Po → jJ p l e rm s m args below meth c D cy z (MQ below (va_Qi Po (mm_Po D cy z) (mm_A z)) args s 0 0 (mm_A z)) nL μ 0 (lv_args 0 (av z)) []) : mm_CI l y ws rm av wp := by
  intro D cy z μ Po hwp
  refine jm_ofW (cc := cc) (maxL := nL) (ret := some .boolean) hy hw ?_
  intro p e s m args below meth c s₁ B hml hv
  obtain ⟨ha, hP, hK, hG⟩ := hv
  have hl := lv_entry (av z) (n := nL) (hln z)
  have hC : jC p s m args c cc nL own ws D cy z := ⟨B.exec, B.bytes, hml, ho ▸ findClass_of_methodNamed B.named, atoms_spec (ws := ws) B.pre, hK, hG⟩
  have hb := body p e s m args below meth c D cy z μ Po hC B.returns B.notSynchronized hwp
  have hfr : entryFrame m args nL = F0 m 0 ((lg_sl (av z) ++ List.replicate (nL - (lg_sl (av z)).length) Slot.unset).toArray) [] := by rw [ha]; exact lg_entry_eq m (av z) nL
  rw [hfr]
  exact hb s.heap [] _ hP va_S.rf hl
theorem je_L  {av : Nat → List Value} {wp : mm_T → (Int64 → mm_T → Prop) → Prop} (hy : plainFor y = true) (ho : y.cls = own) (hw : ws = Cond.code y cc nL (some .long) :: ws2) (hln : ∀ z, (lg_sl (av z)).length ≤ nL)
    (body : ∀ (p : Program) (e : Env) (s : State) (m : MethodId) (args : Array Value) (below : List Frame) (meth : Method) (c : Code) (D : va_G) (cy : Nat → ClassId) (z : Nat) (μ : mm_T) (Po : Int64 → mm_T → Prop), jC p s m args c cc nL own ws D cy z → meth.sig.returnType = some .long → meth.locks = false → wp μ Po → jJ p l e rm s m args below meth c D cy z (MQ below (va_Ql Po (mm_Po D cy z) (mm_A z)) args s 0 0 (mm_A z)) nL μ 0 (lv_args 0 (av z)) []) : mm_CL l y ws rm av wp := by
  intro D cy z μ Po hwp
  refine jm_ofW (cc := cc) (maxL := nL) (ret := some .long) hy hw ?_
  intro p e s m args below meth c s₁ B hml hv
  obtain ⟨ha, hP, hK, hG⟩ := hv
  have hl := lv_entry (av z) (n := nL) (hln z)
  have hC : jC p s m args c cc nL own ws D cy z := ⟨B.exec, B.bytes, hml, ho ▸ findClass_of_methodNamed B.named, atoms_spec (ws := ws) B.pre, hK, hG⟩
  have hb := body p e s m args below meth c D cy z μ Po hC B.returns B.notSynchronized hwp
  have hfr : entryFrame m args nL = F0 m 0 ((lg_sl (av z) ++ List.replicate (nL - (lg_sl (av z)).length) Slot.unset).toArray) [] := by rw [ha]; exact lg_entry_eq m (av z) nL
  rw [hfr]
  exact hb s.heap [] _ hP va_S.rf hl
theorem je_V  {av : Nat → List Value} {wp : mm_T → (mm_T → Prop) → Prop} (hy : plainFor y = true) (ho : y.cls = own) (hw : ws = Cond.code y cc nL (none) :: ws2) (hln : ∀ z, (lg_sl (av z)).length ≤ nL)
    (body : ∀ (p : Program) (e : Env) (s : State) (m : MethodId) (args : Array Value) (below : List Frame) (meth : Method) (c : Code) (D : va_G) (cy : Nat → ClassId) (z : Nat) (μ : mm_T) (Po : mm_T → Prop), jC p s m args c cc nL own ws D cy z → meth.sig.returnType = none → meth.locks = false → wp μ Po → jJ p l e rm s m args below meth c D cy z (MQ below (va_Qv Po (mm_Po D cy z) (mm_A z)) args s 0 0 (mm_A z)) nL μ 0 (lv_args 0 (av z)) []) : mm_CV l y ws rm av wp := by
  intro D cy z μ Po hwp
  refine jm_ofW (cc := cc) (maxL := nL) (ret := none) hy hw ?_
  intro p e s m args below meth c s₁ B hml hv
  obtain ⟨ha, hP, hK, hG⟩ := hv
  have hl := lv_entry (av z) (n := nL) (hln z)
  have hC : jC p s m args c cc nL own ws D cy z := ⟨B.exec, B.bytes, hml, ho ▸ findClass_of_methodNamed B.named, atoms_spec (ws := ws) B.pre, hK, hG⟩
  have hb := body p e s m args below meth c D cy z μ Po hC B.returns B.notSynchronized hwp
  have hfr : entryFrame m args nL = F0 m 0 ((lg_sl (av z) ++ List.replicate (nL - (lg_sl (av z)).length) Slot.unset).toArray) [] := by rw [ha]; exact lg_entry_eq m (av z) nL
  rw [hfr]
  exact hb s.heap [] _ hP va_S.rf hl
theorem je_R {f0 : Nat} {Cr : String} {av : Nat → List Value} {wp : mm_T → (Nat → mm_T → Prop) → Prop} (hy : plainFor y = true) (ho : y.cls = own) (hw : ws = Cond.code y cc nL (some (.object Cr)) :: ws2) (hln : ∀ z, (lg_sl (av z)).length ≤ nL)
    (body : ∀ (p : Program) (e : Env) (s : State) (m : MethodId) (args : Array Value) (below : List Frame) (meth : Method) (c : Code) (D : va_G) (cy : Nat → ClassId) (z : Nat) (μ : mm_T) (Po : Nat → mm_T → Prop), jC p s m args c cc nL own ws D cy z → meth.sig.returnType = some (.object Cr) → meth.locks = false → wp μ Po → jJ p l e rm s m args below meth c D cy z (MQ below (va_Qr (fun u : Nat × mm_T => Po u.1 u.2) (fun u a t => a = z + mm_ad f0 u.1 ∧ mm_Po D cy z u.2 t) (mm_A z)) args s 0 0 (mm_A z)) nL μ 0 (lv_args 0 (av z)) []) : mm_CR f0 l y ws rm av wp := by
  intro D cy z μ Po hwp
  refine jm_ofW (cc := cc) (maxL := nL) (ret := some (.object Cr)) hy hw ?_
  intro p e s m args below meth c s₁ B hml hv
  obtain ⟨ha, hP, hK, hG⟩ := hv
  have hl := lv_entry (av z) (n := nL) (hln z)
  have hC : jC p s m args c cc nL own ws D cy z := ⟨B.exec, B.bytes, hml, ho ▸ findClass_of_methodNamed B.named, atoms_spec (ws := ws) B.pre, hK, hG⟩
  have hb := body p e s m args below meth c D cy z μ Po hC B.returns B.notSynchronized hwp
  have hfr : entryFrame m args nL = F0 m 0 ((lg_sl (av z) ++ List.replicate (nL - (lg_sl (av z)).length) Slot.unset).toArray) [] := by rw [ha]; exact lg_entry_eq m (av z) nL
  rw [hfr]
  exact hb s.heap [] _ hP va_S.rf hl
end JE
