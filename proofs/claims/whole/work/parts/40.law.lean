/-! THE CLAIM OUT OF ONE WALK OF THE LAW'S BODY. Your part is whole_start (and what it stands on); all else here is the same for every law, but numbers. -/
def R_law : String := "SlipRangesLaw"
def lw_P (b : Addr) (xs : List Int32) (args : Array Value) (s : State) : Prop := args = #[.ref b] ∧ s.IntsAt b xs ∧ xs.length ≤ 2560 ∧ (Jvm.Cond.and given_1 narrow_1).before args s = true
def lw_Q (_ : Array Value) (s : State) (o : Outcome) (t : State) : Prop := o = .returned (some (.int 1)) ∧ Framed s o t [] 600000 7302250
def lw_Z (below : List Frame) (a : Array Value) (s : State) : State → Prop := fun t => ∃ o, t.status = .running ∧ Ended t below o ∧ lw_Q a s o t
/-- the law's own end, with 1 on the stack, nothing written that was there before, its room as the claim has it -/
theorem lw_ret {p : Program} {l : Launch} {e : Env} {s : State} {m : MethodId} {below : List Frame} {meth : Method} {c : Code} {b : Nat} (hx : p.tables.exec = Jvm.exec) (hb : c.code = code) (hr : meth.sig.returnType = ret) (hlocks : meth.locks = false) {pc : Nat} {H : Heap} {ls : Array Slot} (hdg : decode code pc = .ok (.ireturn, 1)) : W p l e room_1 s m #[Value.ref b] below meth c H [] 600000 7302250 (lw_Z below #[Value.ref b] s) (F0 m pc ls [.int 1]) := by
  intro T hT X
  obtain ⟨fs, hret, hrun, hended, hW, hframe⟩ := X.leave (v := some (.int 1)) (hlocks := hlocks) (fun h => by rw [hr] at h; cases h)
  have hmeth' : T.vm.method? m = some meth := X.method'
  refine ⟨T.setFrames fs, ?_, .returned (some (.int 1)), hrun, hended, rfl, ⟨_, rfl⟩, hW, hframe⟩
  jvm_step X.here [X.here.top, hx, hb, hdg, hmeth', hr, ret, narrow_b1]
  (try refine ⟨rfl, ?_⟩); (try refine ⟨rfl, ?_⟩)
  first | (intro acts; rw [hret _ acts rfl rfl rfl]) | rw [hret _ _ rfl rfl rfl]
  exact Steps.refl _
/-- what holds at the law's entry: the machine, the code, the tables' words (any of lw_tbl by 'hts w (by decide +kernel)'), the script of L ints xs at the cell b, what the Statement gives of the start (any of its parts by flat_of_before) -/
def lw_At (p : Program) (s : State) (m : MethodId) (meth : Method) (c : Code) (b L : Nat) (xs : Nat → Int32) : Prop :=
  p.tables.exec = Jvm.exec ∧ c.code = code ∧ meth.sig.returnType = ret ∧ c.maxLocals = 4 ∧ s.vm.findClass R_law = some m.cls ∧ (∀ w ∈ lw_tbl, w.before #[Value.ref b] s = true) ∧ va_X b L xs s s.heap ∧ b < s.heap.size ∧ meth.locks = false ∧ (Jvm.Cond.and given_1 narrow_1).before #[Value.ref b] s = true
section JL
variable {p : Program} {l : Launch} {e : Env} {R : Room} {s : State} {m : MethodId} {args : Array Value} {below : List Frame} {meth : Method} {c : Code} {cc : ByteArray} {nL : Nat} {own : String} {ws : List Cond} {Q : State → Prop} {cells slots : Nat} {D : va_G} {cy : Nat → ClassId} {z : Nat} {μ : mm_T} {pc q : Nat} {lv : List (Nat × Value)} {st : List Value}
theorem mm_Sg.to2 {z : Nat} {s U : State} {H : Heap} (h : mm_Sg z s) (hz : z = s.heap.size) (hS : ∀ q : Nat, q < s.heap.size → ¬ mm_B z q → H[q]? = s.heap[q]?) (hU : U.heap = H) (hW : s.WarmedH U.vm) : mm_Sg z U := by
  obtain ⟨⟨g, h1, h2⟩, h3⟩ := h
  have hk : ∀ a : Nat, a < s.heap.size → ¬ mm_A z a → H[a]? = s.heap[a]? := fun a ha _ => hS a ha (by unfold mm_B; omega)
  refine ⟨⟨g, ?_, ?_⟩, va_Nw.warmF hW h3⟩
  · rw [hU]; exact (h1.kept hk).moved hW.alike
  · rw [hU]; exact (h2.kept hk).moved hW.alike
theorem jl_cI (C : gC p s m args c cc nL own ws) (hK : va_K D vwCl (mm_ty cy) s) (hG0 : mm_Sg z s) (hz : z = s.heap.size) {y : MethodName} {ws1 ws2 : List Cond} {rm : Room} {av : Nat → List Value} {bytes : ByteArray} {maxL n index : Nat} {ret : Option FieldType} {As rest : List Value} {f i ci : Nat} {vq : vw_C} (hi : i < mm_cn f) (hk : mm_kd f = (0, ci)) (hvq : vwCl[ci]? = some vq) (hyc : y.cls = vq.1) {wp : mm_T → (Int32 → mm_T → Prop) → Prop} {Ko : Int32 → mm_T → Prop} (ct : mm_CI l y ws1 rm av wp) (hav : av z = .ref (z + mm_ad f i) :: As) (hG : GoodIn ws (wsV own index vq.1 y ws1)) (hw : ws1 = Cond.code y bytes maxL ret :: ws2) (hd0 : y.cls ≠ "java/lang/invoke/MethodHandle" ∧ y.cls ≠ "java/lang/invoke/VarHandle" ∧ (parseMethodDescriptor y.desc).map (fun d => d.parameters.length) = some n) (hrm : rm.cells = 0 ∧ rm.slots = 0) (hR : rm.frames + 1 ≤ R.frames ∧ 8 + (maxL + 11) + rm.locals ≤ R.locals) (hn : As.length = n) (hst : st = As.reverse ++ .ref (z + mm_ad f i) :: rest) (hW8 : (rest.map fun v => v.category).sum ≤ 8) (hd : decode cc pc = .ok (.invokevirtual index, 3)) (hq : pc + 3 = q) (hf : cells ≤ R.cells ∧ slots ≤ R.slots) (h : wp μ Ko) (kk : ∀ (r : Int32) (u : mm_T), Ko r u → jG p l e R s m args below meth c (mm_B z) Q nL cells slots (va_P D vwCl (mm_ws cy z u)) q lv (.int r :: rest)) : jG p l e R s m args below meth c (mm_B z) Q nL cells slots (va_P D vwCl (mm_ws cy z μ)) pc lv (st) := by
  subst hq
  subst hst
  intro H locs ls hP hS hl
  have hA : ∀ q, mm_A z q → mm_B z q := fun q h => h.1
  exact va_calli (va_runV (As := As) (rest := rest) C (ct D cy z μ Ko h) (cwV (C := vq.1) n C.2.2.2.2 hG hw hrm.1 hrm.2 ⟨hyc, hd0⟩ hR) ⟨mm_bl D cy z μ _, va_recv hK hP hvq ((mm_wsat cy z μ hi).trans (congrArg (fun e => some (z + mm_ad f i, e)) (mm_ceO hk i))), fun U hU hW => ⟨by rw [hav], by rw [hU]; exact hP, va_K.moved hW.alike hK, hG0.to2 hz hS.2.1 hU hW⟩⟩ rfl hn hl.1 rfl (lv_room hW8) hd hf) hS (fun q _ h => hA q h) hA (fun r u t H1 locs1 ht hvm hw2 hB hz1 hk1 hS1 => kk r u hw2 H1 locs1 ls (by rw [← ht]; exact hB) hS1 hl)
theorem jl_cL (C : gC p s m args c cc nL own ws) (hK : va_K D vwCl (mm_ty cy) s) (hG0 : mm_Sg z s) (hz : z = s.heap.size) {y : MethodName} {ws1 ws2 : List Cond} {rm : Room} {av : Nat → List Value} {bytes : ByteArray} {maxL n index : Nat} {ret : Option FieldType} {As rest : List Value} {f i ci : Nat} {vq : vw_C} (hi : i < mm_cn f) (hk : mm_kd f = (0, ci)) (hvq : vwCl[ci]? = some vq) (hyc : y.cls = vq.1) {wp : mm_T → (Int64 → mm_T → Prop) → Prop} {Ko : Int64 → mm_T → Prop} (ct : mm_CL l y ws1 rm av wp) (hav : av z = .ref (z + mm_ad f i) :: As) (hG : GoodIn ws (wsV own index vq.1 y ws1)) (hw : ws1 = Cond.code y bytes maxL ret :: ws2) (hd0 : y.cls ≠ "java/lang/invoke/MethodHandle" ∧ y.cls ≠ "java/lang/invoke/VarHandle" ∧ (parseMethodDescriptor y.desc).map (fun d => d.parameters.length) = some n) (hrm : rm.cells = 0 ∧ rm.slots = 0) (hR : rm.frames + 1 ≤ R.frames ∧ 8 + (maxL + 11) + rm.locals ≤ R.locals) (hn : As.length = n) (hst : st = As.reverse ++ .ref (z + mm_ad f i) :: rest) (hW8 : (rest.map fun v => v.category).sum ≤ 8) (hd : decode cc pc = .ok (.invokevirtual index, 3)) (hq : pc + 3 = q) (hf : cells ≤ R.cells ∧ slots ≤ R.slots) (h : wp μ Ko) (kk : ∀ (r : Int64) (u : mm_T), Ko r u → jG p l e R s m args below meth c (mm_B z) Q nL cells slots (va_P D vwCl (mm_ws cy z u)) q lv (.long r :: rest)) : jG p l e R s m args below meth c (mm_B z) Q nL cells slots (va_P D vwCl (mm_ws cy z μ)) pc lv (st) := by
  subst hq
  subst hst
  intro H locs ls hP hS hl
  have hA : ∀ q, mm_A z q → mm_B z q := fun q h => h.1
  exact va_calll (va_runV (As := As) (rest := rest) C (ct D cy z μ Ko h) (cwV (C := vq.1) n C.2.2.2.2 hG hw hrm.1 hrm.2 ⟨hyc, hd0⟩ hR) ⟨mm_bl D cy z μ _, va_recv hK hP hvq ((mm_wsat cy z μ hi).trans (congrArg (fun e => some (z + mm_ad f i, e)) (mm_ceO hk i))), fun U hU hW => ⟨by rw [hav], by rw [hU]; exact hP, va_K.moved hW.alike hK, hG0.to2 hz hS.2.1 hU hW⟩⟩ rfl hn hl.1 rfl (lv_room hW8) hd hf) hS (fun q _ h => hA q h) hA (fun r u t H1 locs1 ht hvm hw2 hB hz1 hk1 hS1 => kk r u hw2 H1 locs1 ls (by rw [← ht]; exact hB) hS1 hl)
/-- one int of the script: script[i + j] -/
theorem jl_ld (C : gC p s m args c cc nL own ws) {b L k j a0 a1 : Nat} {xs : Nat → Int32} {vj : Int} (hX : va_X b L xs s s.heap) (hbl : b < s.heap.size) (hz : z = s.heap.size) (h0 : lv[a0]? = some (0, .ref b)) (h3 : lv[a1]? = some (3, .int (nI k))) (hj : k + j < L) (hL : L < 2 ^ 31) (hv : Int32.ofInt vj = nI j) (d0 : decode cc pc = .ok (.aload_n 0, 1)) (d1 : decode cc (pc + 1) = .ok (.iload_n 3, 1)) (d2 : decode cc (pc + 2) = .ok (.iconst vj, 1)) (d3 : decode cc (pc + 3) = .ok (.iadd, 1)) (d4 : decode cc (pc + 4) = .ok (.iaload, 1)) (hq : pc + 5 = q) (kk : jG p l e R s m args below meth c (mm_B z) Q nL cells slots (va_P D vwCl (mm_ws cy z μ)) q lv (.int (xs (k + j)) :: st)) : jG p l e R s m args below meth c (mm_B z) Q nL cells slots (va_P D vwCl (mm_ws cy z μ)) pc lv (st) := by
  subst hq
  refine jg_aload_n (q := pc + 1) C a0 d0 rfl h0 rfl ?_
  refine jg_iload_n (q := pc + 2) C a1 d1 rfl h3 rfl ?_
  refine jg_iconst (q := pc + 3) (v := nI j) C d2 hv rfl ?_
  refine jg_iadd (q := pc + 4) C d3 rfl ?_
  rw [nI_add]
  intro H locs ls hP hS hl
  have hin : vp_in (nI (k + j)) L := vp_in_nI hj hL
  have hbA : ¬ mm_B z b := by unfold mm_B; omega
  have hkk := kk H locs ls hP hS hl
  have hcl : (nI (k + j)).toNatClampNeg = k + j := nI_clamp (by omega)
  refine va_sld C.1 C.2.1 hX hbl hbA hS hin d4 ?_
  rw [hcl]
  exact hkk
theorem jl_ld0 (C : gC p s m args c cc nL own ws) {b L k a0 a1 : Nat} {xs : Nat → Int32} (hX : va_X b L xs s s.heap) (hbl : b < s.heap.size) (hz : z = s.heap.size) (h0 : lv[a0]? = some (0, .ref b)) (h3 : lv[a1]? = some (3, .int (nI k))) (hj : k < L) (hL : L < 2 ^ 31) (d0 : decode cc pc = .ok (.aload_n 0, 1)) (d1 : decode cc (pc + 1) = .ok (.iload_n 3, 1)) (d4 : decode cc (pc + 2) = .ok (.iaload, 1)) (hq : pc + 3 = q) (kk : jG p l e R s m args below meth c (mm_B z) Q nL cells slots (va_P D vwCl (mm_ws cy z μ)) q lv (.int (xs k) :: st)) : jG p l e R s m args below meth c (mm_B z) Q nL cells slots (va_P D vwCl (mm_ws cy z μ)) pc lv (st) := by
  subst hq
  refine jg_aload_n (q := pc + 1) C a0 d0 rfl h0 rfl ?_
  refine jg_iload_n (q := pc + 2) C a1 d1 rfl h3 rfl ?_
  intro H locs ls hP hS hl
  have hin : vp_in (nI k) L := vp_in_nI hj hL
  have hbA : ¬ mm_B z b := by unfold mm_B; omega
  have hkk := kk H locs ls hP hS hl
  have hcl : (nI k).toNatClampNeg = k := nI_clamp (by omega)
  refine va_sld C.1 C.2.1 hX hbl hbA hS hin d4 ?_
  rw [hcl]
  exact hkk
theorem jl_len (C : gC p s m args c cc nL own ws) {b L : Nat} {xs : Nat → Int32} (hX : va_X b L xs s s.heap) (hbl : b < s.heap.size) (hz : z = s.heap.size) (hd : decode cc pc = .ok (.arraylength, 1)) (hq : pc + 1 = q) (kk : jG p l e R s m args below meth c (mm_B z) Q nL cells slots (va_P D vwCl (mm_ws cy z μ)) q lv (.int (nI L) :: st)) : jG p l e R s m args below meth c (mm_B z) Q nL cells slots (va_P D vwCl (mm_ws cy z μ)) pc lv (.ref b :: st) := by
  subst hq
  intro H locs ls hP hS hl
  exact va_slen C.1 C.2.1 hX hbl (by unfold mm_B; omega) hS hd (kk H locs ls hP hS hl)
end JL
/-- letter: both answer alike, and J holds behind -/
def so_letter (J : mm_T → Prop) (μ : mm_T) (a1 : Int32) : Prop := pX10_letter (fun r μ1 => pX11_letter (fun r2 μ2 => r = r2 ∧ J μ2) μ1 a1) μ a1
/-- blank: both answer alike, and J holds behind -/
def so_blank (J : mm_T → Prop) (μ : mm_T) : Prop := pX10_blank (fun r μ1 => pX11_blank (fun r2 μ2 => r = r2 ∧ J μ2) μ1) μ
/-- fault: both answer alike, and J holds behind -/
def so_fault (J : mm_T → Prop) (μ : mm_T) : Prop := pX10_fault (fun r μ1 => pX11_fault (fun r2 μ2 => r = r2 ∧ J μ2) μ1) μ
/-- field: both answer alike, and J holds behind -/
def so_field (J : mm_T → Prop) (μ : mm_T) : Prop := pX10_field (fun r μ1 => pX11_field (fun r2 μ2 => r = r2 ∧ J μ2) μ1) μ
/-- node: both answer alike, and J holds behind -/
def so_node (J : mm_T → Prop) (μ : mm_T) (a1 : Int32) (a2 : Int32) : Prop := pX10_node (fun r μ1 => pX11_node (fun r2 μ2 => r = r2 ∧ J μ2) μ1 a1 a2) μ a1 a2
/-- flight: both answer alike, and J holds behind -/
def so_flight (J : mm_T → Prop) (μ : mm_T) (a1 : Int32) (a2 : Int32) : Prop := pX10_flight (fun r μ1 => pX11_flight (fun r2 μ2 => r = r2 ∧ J μ2) μ1 a1 a2) μ a1 a2
/-- clock: both answer alike, and J holds behind -/
def so_clock (J : mm_T → Prop) (μ : mm_T) (a1 : Int32) (a2 : Int32) : Prop := pX10_clock (fun r μ1 => pX11_clock (fun r2 μ2 => r = r2 ∧ J μ2) μ1 a1 a2) μ a1 a2
/-- delay: both answer alike, and J holds behind -/
def so_delay (J : mm_T → Prop) (μ : mm_T) (a1 : Int32) (a2 : Int32) : Prop := pX10_delay (fun r μ1 => pX11_delay (fun r2 μ2 => r = r2 ∧ J μ2) μ1 a1 a2) μ a1 a2
/-- path: both answer alike, and J holds behind -/
def so_path (J : mm_T → Prop) (μ : mm_T) (a1 : Int32) (a2 : Int32) (a3 : Int32) (a4 : Int32) : Prop := pX10_path (fun r μ1 => pX11_path (fun r2 μ2 => r = r2 ∧ J μ2) μ1 a1 a2 a3 a4) μ a1 a2 a3 a4
/-- block: both answer alike, and J holds behind -/
def so_block (J : mm_T → Prop) (μ : mm_T) (a1 : Int32) (a2 : Int32) : Prop := pX10_block (fun r μ1 => pX11_block (fun r2 μ2 => r = r2 ∧ J μ2) μ1 a1 a2) μ a1 a2
/-- firstPath: both answer alike, and J holds behind -/
def so_firstPath (J : mm_T → Prop) (μ : mm_T) (a1 : Int32) (a2 : Int32) : Prop := pX10_firstPath (fun r μ1 => pX11_firstPath (fun r2 μ2 => r = r2 ∧ J μ2) μ1 a1 a2) μ a1 a2
/-- level: both answer alike, and J holds behind -/
def so_level (J : mm_T → Prop) (μ : mm_T) (a1 : Int32) : Prop := pX10_level (fun r μ1 => pX11_level (fun r2 μ2 => r = r2 ∧ J μ2) μ1 a1) μ a1
/-- exchange: both answer alike, and J holds behind -/
def so_exchange (J : mm_T → Prop) (μ : mm_T) (a1 : Int32) (a2 : Int32) : Prop := pX10_exchange (fun r μ1 => pX11_exchange (fun r2 μ2 => r = r2 ∧ J μ2) μ1 a1 a2) μ a1 a2
/-- idle: both answer alike, and J holds behind -/
def so_idle (J : mm_T → Prop) (μ : mm_T) (a1 : Int32) : Prop := pX10_idle (fun r μ1 => pX11_idle (fun r2 μ2 => r = r2 ∧ J μ2) μ1 a1) μ a1
/-- last: both answer alike, and J holds behind -/
def so_last (J : mm_T → Prop) (μ : mm_T) (a1 : Int32) : Prop := pX10_last (fun r μ1 => pX11_last (fun r2 μ2 => r = r2 ∧ J μ2) μ1 a1) μ a1
/-- heard: both answer alike, and J holds behind -/
def so_heard (J : mm_T → Prop) (μ : mm_T) (a1 : Int32) : Prop := pX10_heard (fun r μ1 => pX11_heard (fun r2 μ2 => r = r2 ∧ J μ2) μ1 a1) μ a1
/-- range: both answer alike, and J holds behind -/
def so_range (J : mm_T → Prop) (μ : mm_T) (a1 : Int32) (a2 : Int32) : Prop := pX10_range (fun r μ1 => pX11_range (fun r2 μ2 => r = r2 ∧ J μ2) μ1 a1 a2) μ a1 a2
/-- misfit: both answer alike, and J holds behind -/
def so_misfit (J : mm_T → Prop) (μ : mm_T) (a1 : Int32) (a2 : Int32) (a3 : Int32) : Prop := pX10_misfit (fun r μ1 => pX11_misfit (fun r2 μ2 => r = r2 ∧ J μ2) μ1 a1 a2 a3) μ a1 a2 a3
/-- placed: both answer alike, and J holds behind -/
def so_placed (J : mm_T → Prop) (μ : mm_T) (a1 : Int32) (a2 : Int32) : Prop := pX10_placed (fun r μ1 => pX11_placed (fun r2 μ2 => r = r2 ∧ J μ2) μ1 a1 a2) μ a1 a2
/-- limit: both answer alike, and J holds behind -/
def so_limit (J : mm_T → Prop) (μ : mm_T) (a1 : Int32) : Prop := pX10_limit (fun r μ1 => pX11_limit (fun r2 μ2 => r = r2 ∧ J μ2) μ1 a1) μ a1
/-- want: both answer alike, and J holds behind -/
def so_want (J : mm_T → Prop) (μ : mm_T) (a1 : Int32) (a2 : Int32) : Prop := pX10_want (fun r μ1 => pX11_want (fun r2 μ2 => r = r2 ∧ J μ2) μ1 a1 a2) μ a1 a2
/-- deal: both answer alike, and J holds behind -/
def so_deal (J : mm_T → Prop) (μ : mm_T) : Prop := pX10_deal (fun r μ1 => pX11_deal (fun r2 μ2 => r = r2 ∧ J μ2) μ1) μ
/-- slot: both answer alike, and J holds behind -/
def so_slot (J : mm_T → Prop) (μ : mm_T) (a1 : Int32) : Prop := pX10_slot (fun r μ1 => pX11_slot (fun r2 μ2 => r = r2 ∧ J μ2) μ1 a1) μ a1
/-- frame: both answer alike, and J holds behind -/
def so_frame (J : mm_T → Prop) (μ : mm_T) : Prop := pX10_frame (fun r μ1 => pX11_frame (fun r2 μ2 => r = r2 ∧ J μ2) μ1) μ
/-- about: both answer alike, and J holds behind -/
def so_about (J : mm_T → Prop) (μ : mm_T) (a1 : Int32) : Prop := pX10_about (fun r μ1 => pX11_about (fun r2 μ2 => r = r2 ∧ J μ2) μ1 a1) μ a1
/-- count: both answer alike, and J holds behind -/
def so_count (J : mm_T → Prop) (μ : mm_T) (a1 : Int32) : Prop := pX10_count (fun r μ1 => pX11_count (fun r2 μ2 => r = r2 ∧ J μ2) μ1 a1) μ a1
/-- digest: both answer alike, and J holds behind -/
def so_digest (J : mm_T → Prop) (μ : mm_T) : Prop := pX10_digest (fun r μ1 => pX11_digest (fun r2 μ2 => r = r2 ∧ J μ2) μ1) μ
def so_all (J : mm_T → Prop) (μ : mm_T) : Prop := (∀ a1 : Int32, so_letter J μ a1) ∧ so_blank J μ ∧ so_fault J μ ∧ so_field J μ ∧ (∀ a1 a2 : Int32, so_node J μ a1 a2) ∧ (∀ a1 a2 : Int32, so_flight J μ a1 a2) ∧ (∀ a1 a2 : Int32, so_clock J μ a1 a2) ∧ (∀ a1 a2 : Int32, so_delay J μ a1 a2) ∧ (∀ a1 a2 a3 a4 : Int32, so_path J μ a1 a2 a3 a4) ∧ (∀ a1 a2 : Int32, so_block J μ a1 a2) ∧ (∀ a1 a2 : Int32, so_firstPath J μ a1 a2) ∧ (∀ a1 : Int32, so_level J μ a1) ∧ (∀ a1 a2 : Int32, so_exchange J μ a1 a2) ∧ (∀ a1 : Int32, so_idle J μ a1) ∧ (∀ a1 : Int32, so_last J μ a1) ∧ (∀ a1 : Int32, so_heard J μ a1) ∧ (∀ a1 a2 : Int32, so_range J μ a1 a2) ∧ (∀ a1 a2 a3 : Int32, so_misfit J μ a1 a2 a3) ∧ (∀ a1 a2 : Int32, so_placed J μ a1 a2) ∧ (∀ a1 : Int32, so_limit J μ a1) ∧ (∀ a1 a2 : Int32, so_want J μ a1 a2) ∧ so_deal J μ ∧ (∀ a1 : Int32, so_slot J μ a1) ∧ so_frame J μ ∧ (∀ a1 : Int32, so_about J μ a1) ∧ (∀ a1 : Int32, so_count J μ a1) ∧ so_digest J μ
set_option maxHeartbeats 4000000 in
set_option maxRecDepth 100000 in
theorem law_turns (Inv : Nat → mm_T → Prop) (hstep : ∀ k μ, k < 512 → Inv k μ → so_all (Inv (k + 1)) μ) (hskip : ∀ k μ, k < 512 → Inv k μ → Inv (k + 1) μ) {p : Program} {e : Env} {s : State} {m : MethodId} {below : List Frame} {meth : Method} {c : Code} (l : Launch) {b L : Nat} {xs : Nat → Int32} (hL : L ≤ 2560) (hr : meth.sig.returnType = ret) (hlk : meth.locks = false) {D : va_G} {cy : Nat → ClassId} {z : Nat} (hz : z = s.heap.size) (C : gC p s m #[Value.ref b] c cL_law 4 RL wsL_law) (hK : va_K D vwCl (mm_ty cy) s) (hSg : mm_Sg z s) (hX : va_X b L xs s s.heap) (hbl : b < s.heap.size) : ∀ (dd k : Nat) (μ : mm_T), dd = L + 1 - 5 * k → 5 * k ≤ L → Inv k μ → jG p l e room_1 s m #[Value.ref b] below meth c (mm_B z) (lw_Z below #[Value.ref b] s) 4 600000 7302250 (va_P D vwCl (mm_ws cy z μ)) 18 [(0, .ref b), (1, .ref (z + mm_ad 0 0)), (2, .ref (z + mm_ad 26 0)), (3, .int (nI (5 * k)))] [] := by
  intro dd
  induction dd using Nat.strongRecOn with
  | _ dd ih =>
  intro k μ hdd hk hI
  have hL31 : L < 2 ^ 31 := by omega
  have hend : jG p l e room_1 s m #[Value.ref b] below meth c (mm_B z) (lw_Z below #[Value.ref b] s) 4 600000 7302250 (va_P D vwCl (mm_ws cy z μ)) 874 [(0, .ref b), (1, .ref (z + mm_ad 0 0)), (2, .ref (z + mm_ad 26 0)), (3, .int (nI (5 * k)))] [] := by
    refine jg_iconst (q := 875) (v := (1 : Int32)) C dL_law_874 (by decide) rfl ?_
    intro H locs ls hP hS hl
    refine va_forget (fun q hq => ?_) ?_
    · have := hS.2.2 q hq
      unfold mm_B at this
      omega
    · exact lw_ret C.1 C.2.1 hr hlk dL_law_875
  refine jg_iload_n (q := 19) C 3 dL_law_18 rfl rfl rfl ?_
  refine jg_aload_n (q := 20) C 0 dL_law_19 rfl rfl rfl ?_
  refine jl_len (q := 21) C hX hbl hz dL_law_20 rfl ?_
  refine jg_iconst (q := 22) (v := nI 5) C dL_law_21 (by decide) rfl ?_
  refine jg_isub (q := 23) C dL_law_22 rfl ?_
  refine jg_icmp_gt (q := 26) (tgt := 874) C dL_law_23 (by decide) rfl (fun c1 => hend) (fun c1 => ?_)
  have hk5 : 5 * k + 5 ≤ L := by
    rw [Int32.lt_iff_toInt_lt, pk_sub_toInt (by omega) (by omega), nI_toInt (by omega)] at c1
    omega
  have hk512 : k < 512 := by omega
  have hgo : ∀ μ2, Inv (k + 1) μ2 → jG p l e room_1 s m #[Value.ref b] below meth c (mm_B z) (lw_Z below #[Value.ref b] s) 4 600000 7302250 (va_P D vwCl (mm_ws cy z μ2)) 868 [(0, .ref b), (1, .ref (z + mm_ad 0 0)), (2, .ref (z + mm_ad 26 0)), (3, .int (nI (5 * k)))] [] := by
    intro μ2 hI2
    refine jg_iinc (q := 871) (v := nI (5 * (k + 1))) (lv' := [(3, .int (nI (5 * (k + 1)))), (0, .ref b), (1, .ref (z + mm_ad 0 0)), (2, .ref (z + mm_ad 26 0))]) C 3 dL_law_868 rfl (show nI (5 * k) + nI 5 = nI (5 * (k + 1)) by rw [nI_add]; rfl) (by decide) rfl rfl ?_
    refine jg_goto (tgt := 18) C dL_law_871 (by decide) ?_
    refine jg_sub [1, 2, 3, 0] rfl ?_
    exact ih (L + 1 - 5 * (k + 1)) (by omega) (k + 1) μ2 rfl (by omega) hI2
  have hall := hstep k μ hk512 hI
  obtain ⟨o0, o1, o2, o3, o4, o5, o6, o7, o8, o9, o10, o11, o12, o13, o14, o15, o16, o17, o18, o19, o20, o21, o22, o23, o24, o25, o26⟩ := hall
  refine jl_ld0 (q := 29) C hX hbl hz (a0 := 0) (a1 := 3) rfl rfl (by omega) hL31 dL_law_26 dL_law_27 dL_law_28 rfl ?_
  refine jg_bipush (q := 31) (v := (31 : Int32)) C dL_law_29 (by decide) rfl ?_
  refine jg_iand (q := 32) C dL_law_31 rfl ?_
  generalize xs (5 * k) &&& 31 = w
  by_cases w0 : w = (0 : Int32)
  · replace o0 : so_letter (Inv (k + 1)) μ (xs (5 * k + 1)) := o0 (xs (5 * k + 1))
    unfold so_letter at o0
    refine jg_tabI (tgt := 156) C (0 : Int32) w0 dL_law_32 (by decide) (by decide) rfl (by decide) ?_
    refine jg_aload_n (q := 157) C 1 dL_law_156 rfl rfl rfl ?_
    refine jl_ld (q := 162) (j := 1) C hX hbl hz (a0 := 0) (a1 := 3) rfl rfl (by omega) hL31 (by decide) dL_law_157 dL_law_158 dL_law_159 dL_law_160 dL_law_161 rfl ?_
    refine jl_cI (q := 165) (As := [.int (xs (5 * k + 1))]) (rest := []) C hK hSg hz (f := 0) (i := 0) (ci := 10) mf_0 rfl rfl rfl (kX10_letter l (xs (5 * k + 1))) rfl gL_law_X10_letter rfl dsc_X10_letter ⟨rfl, rfl⟩ ⟨by decide, by decide⟩ rfl rfl (Nat.le_of_ble_eq_true rfl) dL_law_162 rfl ⟨by decide, by decide⟩ o0 (fun r1 μ1 o0 => ?_)
    refine jg_aload_n (q := 166) C 2 dL_law_165 rfl rfl rfl ?_
    refine jl_ld (q := 171) (j := 1) C hX hbl hz (a0 := 0) (a1 := 3) rfl rfl (by omega) hL31 (by decide) dL_law_166 dL_law_167 dL_law_168 dL_law_169 dL_law_170 rfl ?_
    refine jl_cI (q := 174) (As := [.int (xs (5 * k + 1))]) (rest := [.int r1]) C hK hSg hz (f := 26) (i := 0) (ci := 11) mf_26 rfl rfl rfl (kX11_letter l (xs (5 * k + 1))) rfl gL_law_X11_letter rfl dsc_X11_letter ⟨rfl, rfl⟩ ⟨by decide, by decide⟩ rfl rfl (Nat.le_of_ble_eq_true rfl) dL_law_171 rfl ⟨by decide, by decide⟩ o0 (fun r2 μ2 o0 => ?_)
    exact jg_icmp_eq (q := 177) (tgt := 868) C dL_law_174 (by decide) rfl (fun c2 => hgo μ2 o0.2) (fun c2 => absurd o0.1 c2)
  by_cases w1 : w = (1 : Int32)
  · replace o1 : so_blank (Inv (k + 1)) μ := o1
    unfold so_blank at o1
    refine jg_tabI (tgt := 179) C (1 : Int32) w1 dL_law_32 (by decide) (by decide) rfl (by decide) ?_
    refine jg_aload_n (q := 180) C 1 dL_law_179 rfl rfl rfl ?_
    refine jl_cI (q := 183) (As := []) (rest := []) C hK hSg hz (f := 0) (i := 0) (ci := 10) mf_0 rfl rfl rfl (kX10_blank l ) rfl gL_law_X10_blank rfl dsc_X10_blank ⟨rfl, rfl⟩ ⟨by decide, by decide⟩ rfl rfl (Nat.le_of_ble_eq_true rfl) dL_law_180 rfl ⟨by decide, by decide⟩ o1 (fun r1 μ1 o1 => ?_)
    refine jg_aload_n (q := 184) C 2 dL_law_183 rfl rfl rfl ?_
    refine jl_cI (q := 187) (As := []) (rest := [.int r1]) C hK hSg hz (f := 26) (i := 0) (ci := 11) mf_26 rfl rfl rfl (kX11_blank l ) rfl gL_law_X11_blank rfl dsc_X11_blank ⟨rfl, rfl⟩ ⟨by decide, by decide⟩ rfl rfl (Nat.le_of_ble_eq_true rfl) dL_law_184 rfl ⟨by decide, by decide⟩ o1 (fun r2 μ2 o1 => ?_)
    exact jg_icmp_eq (q := 190) (tgt := 868) C dL_law_187 (by decide) rfl (fun c2 => hgo μ2 o1.2) (fun c2 => absurd o1.1 c2)
  by_cases w2 : w = (2 : Int32)
  · replace o2 : so_fault (Inv (k + 1)) μ := o2
    unfold so_fault at o2
    refine jg_tabI (tgt := 192) C (2 : Int32) w2 dL_law_32 (by decide) (by decide) rfl (by decide) ?_
    refine jg_aload_n (q := 193) C 1 dL_law_192 rfl rfl rfl ?_
    refine jl_cI (q := 196) (As := []) (rest := []) C hK hSg hz (f := 0) (i := 0) (ci := 10) mf_0 rfl rfl rfl (kX10_fault l ) rfl gL_law_X10_fault rfl dsc_X10_fault ⟨rfl, rfl⟩ ⟨by decide, by decide⟩ rfl rfl (Nat.le_of_ble_eq_true rfl) dL_law_193 rfl ⟨by decide, by decide⟩ o2 (fun r1 μ1 o2 => ?_)
    refine jg_aload_n (q := 197) C 2 dL_law_196 rfl rfl rfl ?_
    refine jl_cI (q := 200) (As := []) (rest := [.int r1]) C hK hSg hz (f := 26) (i := 0) (ci := 11) mf_26 rfl rfl rfl (kX11_fault l ) rfl gL_law_X11_fault rfl dsc_X11_fault ⟨rfl, rfl⟩ ⟨by decide, by decide⟩ rfl rfl (Nat.le_of_ble_eq_true rfl) dL_law_197 rfl ⟨by decide, by decide⟩ o2 (fun r2 μ2 o2 => ?_)
    exact jg_icmp_eq (q := 203) (tgt := 868) C dL_law_200 (by decide) rfl (fun c2 => hgo μ2 o2.2) (fun c2 => absurd o2.1 c2)
  by_cases w3 : w = (3 : Int32)
  · replace o3 : so_field (Inv (k + 1)) μ := o3
    unfold so_field at o3
    refine jg_tabI (tgt := 205) C (3 : Int32) w3 dL_law_32 (by decide) (by decide) rfl (by decide) ?_
    refine jg_aload_n (q := 206) C 1 dL_law_205 rfl rfl rfl ?_
    refine jl_cI (q := 209) (As := []) (rest := []) C hK hSg hz (f := 0) (i := 0) (ci := 10) mf_0 rfl rfl rfl (kX10_field l ) rfl gL_law_X10_field rfl dsc_X10_field ⟨rfl, rfl⟩ ⟨by decide, by decide⟩ rfl rfl (Nat.le_of_ble_eq_true rfl) dL_law_206 rfl ⟨by decide, by decide⟩ o3 (fun r1 μ1 o3 => ?_)
    refine jg_aload_n (q := 210) C 2 dL_law_209 rfl rfl rfl ?_
    refine jl_cI (q := 213) (As := []) (rest := [.int r1]) C hK hSg hz (f := 26) (i := 0) (ci := 11) mf_26 rfl rfl rfl (kX11_field l ) rfl gL_law_X11_field rfl dsc_X11_field ⟨rfl, rfl⟩ ⟨by decide, by decide⟩ rfl rfl (Nat.le_of_ble_eq_true rfl) dL_law_210 rfl ⟨by decide, by decide⟩ o3 (fun r2 μ2 o3 => ?_)
    exact jg_icmp_eq (q := 216) (tgt := 868) C dL_law_213 (by decide) rfl (fun c2 => hgo μ2 o3.2) (fun c2 => absurd o3.1 c2)
  by_cases w4 : w = (4 : Int32)
  · replace o4 : so_node (Inv (k + 1)) μ (xs (5 * k + 1)) (xs (5 * k + 2)) := o4 (xs (5 * k + 1)) (xs (5 * k + 2))
    unfold so_node at o4
    refine jg_tabI (tgt := 218) C (4 : Int32) w4 dL_law_32 (by decide) (by decide) rfl (by decide) ?_
    refine jg_aload_n (q := 219) C 1 dL_law_218 rfl rfl rfl ?_
    refine jl_ld (q := 224) (j := 1) C hX hbl hz (a0 := 0) (a1 := 3) rfl rfl (by omega) hL31 (by decide) dL_law_219 dL_law_220 dL_law_221 dL_law_222 dL_law_223 rfl ?_
    refine jl_ld (q := 229) (j := 2) C hX hbl hz (a0 := 0) (a1 := 3) rfl rfl (by omega) hL31 (by decide) dL_law_224 dL_law_225 dL_law_226 dL_law_227 dL_law_228 rfl ?_
    refine jl_cI (q := 232) (As := [.int (xs (5 * k + 1)), .int (xs (5 * k + 2))]) (rest := []) C hK hSg hz (f := 0) (i := 0) (ci := 10) mf_0 rfl rfl rfl (kX10_node l (xs (5 * k + 1)) (xs (5 * k + 2))) rfl gL_law_X10_node rfl dsc_X10_node ⟨rfl, rfl⟩ ⟨by decide, by decide⟩ rfl rfl (Nat.le_of_ble_eq_true rfl) dL_law_229 rfl ⟨by decide, by decide⟩ o4 (fun r1 μ1 o4 => ?_)
    refine jg_aload_n (q := 233) C 2 dL_law_232 rfl rfl rfl ?_
    refine jl_ld (q := 238) (j := 1) C hX hbl hz (a0 := 0) (a1 := 3) rfl rfl (by omega) hL31 (by decide) dL_law_233 dL_law_234 dL_law_235 dL_law_236 dL_law_237 rfl ?_
    refine jl_ld (q := 243) (j := 2) C hX hbl hz (a0 := 0) (a1 := 3) rfl rfl (by omega) hL31 (by decide) dL_law_238 dL_law_239 dL_law_240 dL_law_241 dL_law_242 rfl ?_
    refine jl_cI (q := 246) (As := [.int (xs (5 * k + 1)), .int (xs (5 * k + 2))]) (rest := [.int r1]) C hK hSg hz (f := 26) (i := 0) (ci := 11) mf_26 rfl rfl rfl (kX11_node l (xs (5 * k + 1)) (xs (5 * k + 2))) rfl gL_law_X11_node rfl dsc_X11_node ⟨rfl, rfl⟩ ⟨by decide, by decide⟩ rfl rfl (Nat.le_of_ble_eq_true rfl) dL_law_243 rfl ⟨by decide, by decide⟩ o4 (fun r2 μ2 o4 => ?_)
    exact jg_icmp_eq (q := 249) (tgt := 868) C dL_law_246 (by decide) rfl (fun c2 => hgo μ2 o4.2) (fun c2 => absurd o4.1 c2)
  by_cases w5 : w = (5 : Int32)
  · replace o5 : so_flight (Inv (k + 1)) μ (xs (5 * k + 1)) (xs (5 * k + 2)) := o5 (xs (5 * k + 1)) (xs (5 * k + 2))
    unfold so_flight at o5
    refine jg_tabI (tgt := 251) C (5 : Int32) w5 dL_law_32 (by decide) (by decide) rfl (by decide) ?_
    refine jg_aload_n (q := 252) C 1 dL_law_251 rfl rfl rfl ?_
    refine jl_ld (q := 257) (j := 1) C hX hbl hz (a0 := 0) (a1 := 3) rfl rfl (by omega) hL31 (by decide) dL_law_252 dL_law_253 dL_law_254 dL_law_255 dL_law_256 rfl ?_
    refine jl_ld (q := 262) (j := 2) C hX hbl hz (a0 := 0) (a1 := 3) rfl rfl (by omega) hL31 (by decide) dL_law_257 dL_law_258 dL_law_259 dL_law_260 dL_law_261 rfl ?_
    refine jl_cI (q := 265) (As := [.int (xs (5 * k + 1)), .int (xs (5 * k + 2))]) (rest := []) C hK hSg hz (f := 0) (i := 0) (ci := 10) mf_0 rfl rfl rfl (kX10_flight l (xs (5 * k + 1)) (xs (5 * k + 2))) rfl gL_law_X10_flight rfl dsc_X10_flight ⟨rfl, rfl⟩ ⟨by decide, by decide⟩ rfl rfl (Nat.le_of_ble_eq_true rfl) dL_law_262 rfl ⟨by decide, by decide⟩ o5 (fun r1 μ1 o5 => ?_)
    refine jg_aload_n (q := 266) C 2 dL_law_265 rfl rfl rfl ?_
    refine jl_ld (q := 271) (j := 1) C hX hbl hz (a0 := 0) (a1 := 3) rfl rfl (by omega) hL31 (by decide) dL_law_266 dL_law_267 dL_law_268 dL_law_269 dL_law_270 rfl ?_
    refine jl_ld (q := 276) (j := 2) C hX hbl hz (a0 := 0) (a1 := 3) rfl rfl (by omega) hL31 (by decide) dL_law_271 dL_law_272 dL_law_273 dL_law_274 dL_law_275 rfl ?_
    refine jl_cI (q := 279) (As := [.int (xs (5 * k + 1)), .int (xs (5 * k + 2))]) (rest := [.int r1]) C hK hSg hz (f := 26) (i := 0) (ci := 11) mf_26 rfl rfl rfl (kX11_flight l (xs (5 * k + 1)) (xs (5 * k + 2))) rfl gL_law_X11_flight rfl dsc_X11_flight ⟨rfl, rfl⟩ ⟨by decide, by decide⟩ rfl rfl (Nat.le_of_ble_eq_true rfl) dL_law_276 rfl ⟨by decide, by decide⟩ o5 (fun r2 μ2 o5 => ?_)
    exact jg_icmp_eq (q := 282) (tgt := 868) C dL_law_279 (by decide) rfl (fun c2 => hgo μ2 o5.2) (fun c2 => absurd o5.1 c2)
  by_cases w6 : w = (6 : Int32)
  · replace o6 : so_clock (Inv (k + 1)) μ (xs (5 * k + 1)) (xs (5 * k + 2)) := o6 (xs (5 * k + 1)) (xs (5 * k + 2))
    unfold so_clock at o6
    refine jg_tabI (tgt := 284) C (6 : Int32) w6 dL_law_32 (by decide) (by decide) rfl (by decide) ?_
    refine jg_aload_n (q := 285) C 1 dL_law_284 rfl rfl rfl ?_
    refine jl_ld (q := 290) (j := 1) C hX hbl hz (a0 := 0) (a1 := 3) rfl rfl (by omega) hL31 (by decide) dL_law_285 dL_law_286 dL_law_287 dL_law_288 dL_law_289 rfl ?_
    refine jl_ld (q := 295) (j := 2) C hX hbl hz (a0 := 0) (a1 := 3) rfl rfl (by omega) hL31 (by decide) dL_law_290 dL_law_291 dL_law_292 dL_law_293 dL_law_294 rfl ?_
    refine jl_cI (q := 298) (As := [.int (xs (5 * k + 1)), .int (xs (5 * k + 2))]) (rest := []) C hK hSg hz (f := 0) (i := 0) (ci := 10) mf_0 rfl rfl rfl (kX10_clock l (xs (5 * k + 1)) (xs (5 * k + 2))) rfl gL_law_X10_clock rfl dsc_X10_clock ⟨rfl, rfl⟩ ⟨by decide, by decide⟩ rfl rfl (Nat.le_of_ble_eq_true rfl) dL_law_295 rfl ⟨by decide, by decide⟩ o6 (fun r1 μ1 o6 => ?_)
    refine jg_aload_n (q := 299) C 2 dL_law_298 rfl rfl rfl ?_
    refine jl_ld (q := 304) (j := 1) C hX hbl hz (a0 := 0) (a1 := 3) rfl rfl (by omega) hL31 (by decide) dL_law_299 dL_law_300 dL_law_301 dL_law_302 dL_law_303 rfl ?_
    refine jl_ld (q := 309) (j := 2) C hX hbl hz (a0 := 0) (a1 := 3) rfl rfl (by omega) hL31 (by decide) dL_law_304 dL_law_305 dL_law_306 dL_law_307 dL_law_308 rfl ?_
    refine jl_cI (q := 312) (As := [.int (xs (5 * k + 1)), .int (xs (5 * k + 2))]) (rest := [.int r1]) C hK hSg hz (f := 26) (i := 0) (ci := 11) mf_26 rfl rfl rfl (kX11_clock l (xs (5 * k + 1)) (xs (5 * k + 2))) rfl gL_law_X11_clock rfl dsc_X11_clock ⟨rfl, rfl⟩ ⟨by decide, by decide⟩ rfl rfl (Nat.le_of_ble_eq_true rfl) dL_law_309 rfl ⟨by decide, by decide⟩ o6 (fun r2 μ2 o6 => ?_)
    exact jg_icmp_eq (q := 315) (tgt := 868) C dL_law_312 (by decide) rfl (fun c2 => hgo μ2 o6.2) (fun c2 => absurd o6.1 c2)
  by_cases w7 : w = (7 : Int32)
  · replace o7 : so_delay (Inv (k + 1)) μ (xs (5 * k + 1)) (xs (5 * k + 2)) := o7 (xs (5 * k + 1)) (xs (5 * k + 2))
    unfold so_delay at o7
    refine jg_tabI (tgt := 317) C (7 : Int32) w7 dL_law_32 (by decide) (by decide) rfl (by decide) ?_
    refine jg_aload_n (q := 318) C 1 dL_law_317 rfl rfl rfl ?_
    refine jl_ld (q := 323) (j := 1) C hX hbl hz (a0 := 0) (a1 := 3) rfl rfl (by omega) hL31 (by decide) dL_law_318 dL_law_319 dL_law_320 dL_law_321 dL_law_322 rfl ?_
    refine jl_ld (q := 328) (j := 2) C hX hbl hz (a0 := 0) (a1 := 3) rfl rfl (by omega) hL31 (by decide) dL_law_323 dL_law_324 dL_law_325 dL_law_326 dL_law_327 rfl ?_
    refine jl_cI (q := 331) (As := [.int (xs (5 * k + 1)), .int (xs (5 * k + 2))]) (rest := []) C hK hSg hz (f := 0) (i := 0) (ci := 10) mf_0 rfl rfl rfl (kX10_delay l (xs (5 * k + 1)) (xs (5 * k + 2))) rfl gL_law_X10_delay rfl dsc_X10_delay ⟨rfl, rfl⟩ ⟨by decide, by decide⟩ rfl rfl (Nat.le_of_ble_eq_true rfl) dL_law_328 rfl ⟨by decide, by decide⟩ o7 (fun r1 μ1 o7 => ?_)
    refine jg_aload_n (q := 332) C 2 dL_law_331 rfl rfl rfl ?_
    refine jl_ld (q := 337) (j := 1) C hX hbl hz (a0 := 0) (a1 := 3) rfl rfl (by omega) hL31 (by decide) dL_law_332 dL_law_333 dL_law_334 dL_law_335 dL_law_336 rfl ?_
    refine jl_ld (q := 342) (j := 2) C hX hbl hz (a0 := 0) (a1 := 3) rfl rfl (by omega) hL31 (by decide) dL_law_337 dL_law_338 dL_law_339 dL_law_340 dL_law_341 rfl ?_
    refine jl_cI (q := 345) (As := [.int (xs (5 * k + 1)), .int (xs (5 * k + 2))]) (rest := [.int r1]) C hK hSg hz (f := 26) (i := 0) (ci := 11) mf_26 rfl rfl rfl (kX11_delay l (xs (5 * k + 1)) (xs (5 * k + 2))) rfl gL_law_X11_delay rfl dsc_X11_delay ⟨rfl, rfl⟩ ⟨by decide, by decide⟩ rfl rfl (Nat.le_of_ble_eq_true rfl) dL_law_342 rfl ⟨by decide, by decide⟩ o7 (fun r2 μ2 o7 => ?_)
    exact jg_icmp_eq (q := 348) (tgt := 868) C dL_law_345 (by decide) rfl (fun c2 => hgo μ2 o7.2) (fun c2 => absurd o7.1 c2)
  by_cases w8 : w = (8 : Int32)
  · replace o8 : so_path (Inv (k + 1)) μ (xs (5 * k + 1)) (xs (5 * k + 2)) (xs (5 * k + 3)) (xs (5 * k + 4)) := o8 (xs (5 * k + 1)) (xs (5 * k + 2)) (xs (5 * k + 3)) (xs (5 * k + 4))
    unfold so_path at o8
    refine jg_tabI (tgt := 350) C (8 : Int32) w8 dL_law_32 (by decide) (by decide) rfl (by decide) ?_
    refine jg_aload_n (q := 351) C 1 dL_law_350 rfl rfl rfl ?_
    refine jl_ld (q := 356) (j := 1) C hX hbl hz (a0 := 0) (a1 := 3) rfl rfl (by omega) hL31 (by decide) dL_law_351 dL_law_352 dL_law_353 dL_law_354 dL_law_355 rfl ?_
    refine jl_ld (q := 361) (j := 2) C hX hbl hz (a0 := 0) (a1 := 3) rfl rfl (by omega) hL31 (by decide) dL_law_356 dL_law_357 dL_law_358 dL_law_359 dL_law_360 rfl ?_
    refine jl_ld (q := 366) (j := 3) C hX hbl hz (a0 := 0) (a1 := 3) rfl rfl (by omega) hL31 (by decide) dL_law_361 dL_law_362 dL_law_363 dL_law_364 dL_law_365 rfl ?_
    refine jl_ld (q := 371) (j := 4) C hX hbl hz (a0 := 0) (a1 := 3) rfl rfl (by omega) hL31 (by decide) dL_law_366 dL_law_367 dL_law_368 dL_law_369 dL_law_370 rfl ?_
    refine jl_cI (q := 374) (As := [.int (xs (5 * k + 1)), .int (xs (5 * k + 2)), .int (xs (5 * k + 3)), .int (xs (5 * k + 4))]) (rest := []) C hK hSg hz (f := 0) (i := 0) (ci := 10) mf_0 rfl rfl rfl (kX10_path l (xs (5 * k + 1)) (xs (5 * k + 2)) (xs (5 * k + 3)) (xs (5 * k + 4))) rfl gL_law_X10_path rfl dsc_X10_path ⟨rfl, rfl⟩ ⟨by decide, by decide⟩ rfl rfl (Nat.le_of_ble_eq_true rfl) dL_law_371 rfl ⟨by decide, by decide⟩ o8 (fun r1 μ1 o8 => ?_)
    refine jg_aload_n (q := 375) C 2 dL_law_374 rfl rfl rfl ?_
    refine jl_ld (q := 380) (j := 1) C hX hbl hz (a0 := 0) (a1 := 3) rfl rfl (by omega) hL31 (by decide) dL_law_375 dL_law_376 dL_law_377 dL_law_378 dL_law_379 rfl ?_
    refine jl_ld (q := 385) (j := 2) C hX hbl hz (a0 := 0) (a1 := 3) rfl rfl (by omega) hL31 (by decide) dL_law_380 dL_law_381 dL_law_382 dL_law_383 dL_law_384 rfl ?_
    refine jl_ld (q := 390) (j := 3) C hX hbl hz (a0 := 0) (a1 := 3) rfl rfl (by omega) hL31 (by decide) dL_law_385 dL_law_386 dL_law_387 dL_law_388 dL_law_389 rfl ?_
    refine jl_ld (q := 395) (j := 4) C hX hbl hz (a0 := 0) (a1 := 3) rfl rfl (by omega) hL31 (by decide) dL_law_390 dL_law_391 dL_law_392 dL_law_393 dL_law_394 rfl ?_
    refine jl_cI (q := 398) (As := [.int (xs (5 * k + 1)), .int (xs (5 * k + 2)), .int (xs (5 * k + 3)), .int (xs (5 * k + 4))]) (rest := [.int r1]) C hK hSg hz (f := 26) (i := 0) (ci := 11) mf_26 rfl rfl rfl (kX11_path l (xs (5 * k + 1)) (xs (5 * k + 2)) (xs (5 * k + 3)) (xs (5 * k + 4))) rfl gL_law_X11_path rfl dsc_X11_path ⟨rfl, rfl⟩ ⟨by decide, by decide⟩ rfl rfl (Nat.le_of_ble_eq_true rfl) dL_law_395 rfl ⟨by decide, by decide⟩ o8 (fun r2 μ2 o8 => ?_)
    exact jg_icmp_eq (q := 401) (tgt := 868) C dL_law_398 (by decide) rfl (fun c2 => hgo μ2 o8.2) (fun c2 => absurd o8.1 c2)
  by_cases w9 : w = (9 : Int32)
  · replace o9 : so_block (Inv (k + 1)) μ (xs (5 * k + 1)) (xs (5 * k + 2)) := o9 (xs (5 * k + 1)) (xs (5 * k + 2))
    unfold so_block at o9
    refine jg_tabI (tgt := 403) C (9 : Int32) w9 dL_law_32 (by decide) (by decide) rfl (by decide) ?_
    refine jg_aload_n (q := 404) C 1 dL_law_403 rfl rfl rfl ?_
    refine jl_ld (q := 409) (j := 1) C hX hbl hz (a0 := 0) (a1 := 3) rfl rfl (by omega) hL31 (by decide) dL_law_404 dL_law_405 dL_law_406 dL_law_407 dL_law_408 rfl ?_
    refine jl_ld (q := 414) (j := 2) C hX hbl hz (a0 := 0) (a1 := 3) rfl rfl (by omega) hL31 (by decide) dL_law_409 dL_law_410 dL_law_411 dL_law_412 dL_law_413 rfl ?_
    refine jl_cI (q := 417) (As := [.int (xs (5 * k + 1)), .int (xs (5 * k + 2))]) (rest := []) C hK hSg hz (f := 0) (i := 0) (ci := 10) mf_0 rfl rfl rfl (kX10_block l (xs (5 * k + 1)) (xs (5 * k + 2))) rfl gL_law_X10_block rfl dsc_X10_block ⟨rfl, rfl⟩ ⟨by decide, by decide⟩ rfl rfl (Nat.le_of_ble_eq_true rfl) dL_law_414 rfl ⟨by decide, by decide⟩ o9 (fun r1 μ1 o9 => ?_)
    refine jg_aload_n (q := 418) C 2 dL_law_417 rfl rfl rfl ?_
    refine jl_ld (q := 423) (j := 1) C hX hbl hz (a0 := 0) (a1 := 3) rfl rfl (by omega) hL31 (by decide) dL_law_418 dL_law_419 dL_law_420 dL_law_421 dL_law_422 rfl ?_
    refine jl_ld (q := 428) (j := 2) C hX hbl hz (a0 := 0) (a1 := 3) rfl rfl (by omega) hL31 (by decide) dL_law_423 dL_law_424 dL_law_425 dL_law_426 dL_law_427 rfl ?_
    refine jl_cI (q := 431) (As := [.int (xs (5 * k + 1)), .int (xs (5 * k + 2))]) (rest := [.int r1]) C hK hSg hz (f := 26) (i := 0) (ci := 11) mf_26 rfl rfl rfl (kX11_block l (xs (5 * k + 1)) (xs (5 * k + 2))) rfl gL_law_X11_block rfl dsc_X11_block ⟨rfl, rfl⟩ ⟨by decide, by decide⟩ rfl rfl (Nat.le_of_ble_eq_true rfl) dL_law_428 rfl ⟨by decide, by decide⟩ o9 (fun r2 μ2 o9 => ?_)
    exact jg_icmp_eq (q := 434) (tgt := 868) C dL_law_431 (by decide) rfl (fun c2 => hgo μ2 o9.2) (fun c2 => absurd o9.1 c2)
  by_cases w10 : w = (10 : Int32)
  · replace o10 : so_firstPath (Inv (k + 1)) μ (xs (5 * k + 1)) (xs (5 * k + 2)) := o10 (xs (5 * k + 1)) (xs (5 * k + 2))
    unfold so_firstPath at o10
    refine jg_tabI (tgt := 436) C (10 : Int32) w10 dL_law_32 (by decide) (by decide) rfl (by decide) ?_
    refine jg_aload_n (q := 437) C 1 dL_law_436 rfl rfl rfl ?_
    refine jl_ld (q := 442) (j := 1) C hX hbl hz (a0 := 0) (a1 := 3) rfl rfl (by omega) hL31 (by decide) dL_law_437 dL_law_438 dL_law_439 dL_law_440 dL_law_441 rfl ?_
    refine jl_ld (q := 447) (j := 2) C hX hbl hz (a0 := 0) (a1 := 3) rfl rfl (by omega) hL31 (by decide) dL_law_442 dL_law_443 dL_law_444 dL_law_445 dL_law_446 rfl ?_
    refine jl_cI (q := 450) (As := [.int (xs (5 * k + 1)), .int (xs (5 * k + 2))]) (rest := []) C hK hSg hz (f := 0) (i := 0) (ci := 10) mf_0 rfl rfl rfl (kX10_firstPath l (xs (5 * k + 1)) (xs (5 * k + 2))) rfl gL_law_X10_firstPath rfl dsc_X10_firstPath ⟨rfl, rfl⟩ ⟨by decide, by decide⟩ rfl rfl (Nat.le_of_ble_eq_true rfl) dL_law_447 rfl ⟨by decide, by decide⟩ o10 (fun r1 μ1 o10 => ?_)
    refine jg_aload_n (q := 451) C 2 dL_law_450 rfl rfl rfl ?_
    refine jl_ld (q := 456) (j := 1) C hX hbl hz (a0 := 0) (a1 := 3) rfl rfl (by omega) hL31 (by decide) dL_law_451 dL_law_452 dL_law_453 dL_law_454 dL_law_455 rfl ?_
    refine jl_ld (q := 461) (j := 2) C hX hbl hz (a0 := 0) (a1 := 3) rfl rfl (by omega) hL31 (by decide) dL_law_456 dL_law_457 dL_law_458 dL_law_459 dL_law_460 rfl ?_
    refine jl_cI (q := 464) (As := [.int (xs (5 * k + 1)), .int (xs (5 * k + 2))]) (rest := [.int r1]) C hK hSg hz (f := 26) (i := 0) (ci := 11) mf_26 rfl rfl rfl (kX11_firstPath l (xs (5 * k + 1)) (xs (5 * k + 2))) rfl gL_law_X11_firstPath rfl dsc_X11_firstPath ⟨rfl, rfl⟩ ⟨by decide, by decide⟩ rfl rfl (Nat.le_of_ble_eq_true rfl) dL_law_461 rfl ⟨by decide, by decide⟩ o10 (fun r2 μ2 o10 => ?_)
    exact jg_icmp_eq (q := 467) (tgt := 868) C dL_law_464 (by decide) rfl (fun c2 => hgo μ2 o10.2) (fun c2 => absurd o10.1 c2)
  by_cases w11 : w = (11 : Int32)
  · replace o11 : so_level (Inv (k + 1)) μ (xs (5 * k + 1)) := o11 (xs (5 * k + 1))
    unfold so_level at o11
    refine jg_tabI (tgt := 469) C (11 : Int32) w11 dL_law_32 (by decide) (by decide) rfl (by decide) ?_
    refine jg_aload_n (q := 470) C 1 dL_law_469 rfl rfl rfl ?_
    refine jl_ld (q := 475) (j := 1) C hX hbl hz (a0 := 0) (a1 := 3) rfl rfl (by omega) hL31 (by decide) dL_law_470 dL_law_471 dL_law_472 dL_law_473 dL_law_474 rfl ?_
    refine jl_cI (q := 478) (As := [.int (xs (5 * k + 1))]) (rest := []) C hK hSg hz (f := 0) (i := 0) (ci := 10) mf_0 rfl rfl rfl (kX10_level l (xs (5 * k + 1))) rfl gL_law_X10_level rfl dsc_X10_level ⟨rfl, rfl⟩ ⟨by decide, by decide⟩ rfl rfl (Nat.le_of_ble_eq_true rfl) dL_law_475 rfl ⟨by decide, by decide⟩ o11 (fun r1 μ1 o11 => ?_)
    refine jg_aload_n (q := 479) C 2 dL_law_478 rfl rfl rfl ?_
    refine jl_ld (q := 484) (j := 1) C hX hbl hz (a0 := 0) (a1 := 3) rfl rfl (by omega) hL31 (by decide) dL_law_479 dL_law_480 dL_law_481 dL_law_482 dL_law_483 rfl ?_
    refine jl_cI (q := 487) (As := [.int (xs (5 * k + 1))]) (rest := [.int r1]) C hK hSg hz (f := 26) (i := 0) (ci := 11) mf_26 rfl rfl rfl (kX11_level l (xs (5 * k + 1))) rfl gL_law_X11_level rfl dsc_X11_level ⟨rfl, rfl⟩ ⟨by decide, by decide⟩ rfl rfl (Nat.le_of_ble_eq_true rfl) dL_law_484 rfl ⟨by decide, by decide⟩ o11 (fun r2 μ2 o11 => ?_)
    exact jg_icmp_eq (q := 490) (tgt := 868) C dL_law_487 (by decide) rfl (fun c2 => hgo μ2 o11.2) (fun c2 => absurd o11.1 c2)
  by_cases w12 : w = (12 : Int32)
  · replace o12 : so_exchange (Inv (k + 1)) μ (xs (5 * k + 1)) (xs (5 * k + 2)) := o12 (xs (5 * k + 1)) (xs (5 * k + 2))
    unfold so_exchange at o12
    refine jg_tabI (tgt := 492) C (12 : Int32) w12 dL_law_32 (by decide) (by decide) rfl (by decide) ?_
    refine jg_aload_n (q := 493) C 1 dL_law_492 rfl rfl rfl ?_
    refine jl_ld (q := 498) (j := 1) C hX hbl hz (a0 := 0) (a1 := 3) rfl rfl (by omega) hL31 (by decide) dL_law_493 dL_law_494 dL_law_495 dL_law_496 dL_law_497 rfl ?_
    refine jl_ld (q := 503) (j := 2) C hX hbl hz (a0 := 0) (a1 := 3) rfl rfl (by omega) hL31 (by decide) dL_law_498 dL_law_499 dL_law_500 dL_law_501 dL_law_502 rfl ?_
    refine jl_cI (q := 506) (As := [.int (xs (5 * k + 1)), .int (xs (5 * k + 2))]) (rest := []) C hK hSg hz (f := 0) (i := 0) (ci := 10) mf_0 rfl rfl rfl (kX10_exchange l (xs (5 * k + 1)) (xs (5 * k + 2))) rfl gL_law_X10_exchange rfl dsc_X10_exchange ⟨rfl, rfl⟩ ⟨by decide, by decide⟩ rfl rfl (Nat.le_of_ble_eq_true rfl) dL_law_503 rfl ⟨by decide, by decide⟩ o12 (fun r1 μ1 o12 => ?_)
    refine jg_aload_n (q := 507) C 2 dL_law_506 rfl rfl rfl ?_
    refine jl_ld (q := 512) (j := 1) C hX hbl hz (a0 := 0) (a1 := 3) rfl rfl (by omega) hL31 (by decide) dL_law_507 dL_law_508 dL_law_509 dL_law_510 dL_law_511 rfl ?_
    refine jl_ld (q := 517) (j := 2) C hX hbl hz (a0 := 0) (a1 := 3) rfl rfl (by omega) hL31 (by decide) dL_law_512 dL_law_513 dL_law_514 dL_law_515 dL_law_516 rfl ?_
    refine jl_cI (q := 520) (As := [.int (xs (5 * k + 1)), .int (xs (5 * k + 2))]) (rest := [.int r1]) C hK hSg hz (f := 26) (i := 0) (ci := 11) mf_26 rfl rfl rfl (kX11_exchange l (xs (5 * k + 1)) (xs (5 * k + 2))) rfl gL_law_X11_exchange rfl dsc_X11_exchange ⟨rfl, rfl⟩ ⟨by decide, by decide⟩ rfl rfl (Nat.le_of_ble_eq_true rfl) dL_law_517 rfl ⟨by decide, by decide⟩ o12 (fun r2 μ2 o12 => ?_)
    exact jg_icmp_eq (q := 523) (tgt := 868) C dL_law_520 (by decide) rfl (fun c2 => hgo μ2 o12.2) (fun c2 => absurd o12.1 c2)
  by_cases w13 : w = (13 : Int32)
  · replace o13 : so_idle (Inv (k + 1)) μ (xs (5 * k + 1)) := o13 (xs (5 * k + 1))
    unfold so_idle at o13
    refine jg_tabI (tgt := 525) C (13 : Int32) w13 dL_law_32 (by decide) (by decide) rfl (by decide) ?_
    refine jg_aload_n (q := 526) C 1 dL_law_525 rfl rfl rfl ?_
    refine jl_ld (q := 531) (j := 1) C hX hbl hz (a0 := 0) (a1 := 3) rfl rfl (by omega) hL31 (by decide) dL_law_526 dL_law_527 dL_law_528 dL_law_529 dL_law_530 rfl ?_
    refine jl_cI (q := 534) (As := [.int (xs (5 * k + 1))]) (rest := []) C hK hSg hz (f := 0) (i := 0) (ci := 10) mf_0 rfl rfl rfl (kX10_idle l (xs (5 * k + 1))) rfl gL_law_X10_idle rfl dsc_X10_idle ⟨rfl, rfl⟩ ⟨by decide, by decide⟩ rfl rfl (Nat.le_of_ble_eq_true rfl) dL_law_531 rfl ⟨by decide, by decide⟩ o13 (fun r1 μ1 o13 => ?_)
    refine jg_aload_n (q := 535) C 2 dL_law_534 rfl rfl rfl ?_
    refine jl_ld (q := 540) (j := 1) C hX hbl hz (a0 := 0) (a1 := 3) rfl rfl (by omega) hL31 (by decide) dL_law_535 dL_law_536 dL_law_537 dL_law_538 dL_law_539 rfl ?_
    refine jl_cI (q := 543) (As := [.int (xs (5 * k + 1))]) (rest := [.int r1]) C hK hSg hz (f := 26) (i := 0) (ci := 11) mf_26 rfl rfl rfl (kX11_idle l (xs (5 * k + 1))) rfl gL_law_X11_idle rfl dsc_X11_idle ⟨rfl, rfl⟩ ⟨by decide, by decide⟩ rfl rfl (Nat.le_of_ble_eq_true rfl) dL_law_540 rfl ⟨by decide, by decide⟩ o13 (fun r2 μ2 o13 => ?_)
    exact jg_icmp_eq (q := 546) (tgt := 868) C dL_law_543 (by decide) rfl (fun c2 => hgo μ2 o13.2) (fun c2 => absurd o13.1 c2)
  by_cases w14 : w = (14 : Int32)
  · replace o14 : so_last (Inv (k + 1)) μ (xs (5 * k + 1)) := o14 (xs (5 * k + 1))
    unfold so_last at o14
    refine jg_tabI (tgt := 548) C (14 : Int32) w14 dL_law_32 (by decide) (by decide) rfl (by decide) ?_
    refine jg_aload_n (q := 549) C 1 dL_law_548 rfl rfl rfl ?_
    refine jl_ld (q := 554) (j := 1) C hX hbl hz (a0 := 0) (a1 := 3) rfl rfl (by omega) hL31 (by decide) dL_law_549 dL_law_550 dL_law_551 dL_law_552 dL_law_553 rfl ?_
    refine jl_cI (q := 557) (As := [.int (xs (5 * k + 1))]) (rest := []) C hK hSg hz (f := 0) (i := 0) (ci := 10) mf_0 rfl rfl rfl (kX10_last l (xs (5 * k + 1))) rfl gL_law_X10_last rfl dsc_X10_last ⟨rfl, rfl⟩ ⟨by decide, by decide⟩ rfl rfl (Nat.le_of_ble_eq_true rfl) dL_law_554 rfl ⟨by decide, by decide⟩ o14 (fun r1 μ1 o14 => ?_)
    refine jg_aload_n (q := 558) C 2 dL_law_557 rfl rfl rfl ?_
    refine jl_ld (q := 563) (j := 1) C hX hbl hz (a0 := 0) (a1 := 3) rfl rfl (by omega) hL31 (by decide) dL_law_558 dL_law_559 dL_law_560 dL_law_561 dL_law_562 rfl ?_
    refine jl_cI (q := 566) (As := [.int (xs (5 * k + 1))]) (rest := [.int r1]) C hK hSg hz (f := 26) (i := 0) (ci := 11) mf_26 rfl rfl rfl (kX11_last l (xs (5 * k + 1))) rfl gL_law_X11_last rfl dsc_X11_last ⟨rfl, rfl⟩ ⟨by decide, by decide⟩ rfl rfl (Nat.le_of_ble_eq_true rfl) dL_law_563 rfl ⟨by decide, by decide⟩ o14 (fun r2 μ2 o14 => ?_)
    exact jg_icmp_eq (q := 569) (tgt := 868) C dL_law_566 (by decide) rfl (fun c2 => hgo μ2 o14.2) (fun c2 => absurd o14.1 c2)
  by_cases w15 : w = (15 : Int32)
  · replace o15 : so_heard (Inv (k + 1)) μ (xs (5 * k + 1)) := o15 (xs (5 * k + 1))
    unfold so_heard at o15
    refine jg_tabI (tgt := 571) C (15 : Int32) w15 dL_law_32 (by decide) (by decide) rfl (by decide) ?_
    refine jg_aload_n (q := 572) C 1 dL_law_571 rfl rfl rfl ?_
    refine jl_ld (q := 577) (j := 1) C hX hbl hz (a0 := 0) (a1 := 3) rfl rfl (by omega) hL31 (by decide) dL_law_572 dL_law_573 dL_law_574 dL_law_575 dL_law_576 rfl ?_
    refine jl_cI (q := 580) (As := [.int (xs (5 * k + 1))]) (rest := []) C hK hSg hz (f := 0) (i := 0) (ci := 10) mf_0 rfl rfl rfl (kX10_heard l (xs (5 * k + 1))) rfl gL_law_X10_heard rfl dsc_X10_heard ⟨rfl, rfl⟩ ⟨by decide, by decide⟩ rfl rfl (Nat.le_of_ble_eq_true rfl) dL_law_577 rfl ⟨by decide, by decide⟩ o15 (fun r1 μ1 o15 => ?_)
    refine jg_aload_n (q := 581) C 2 dL_law_580 rfl rfl rfl ?_
    refine jl_ld (q := 586) (j := 1) C hX hbl hz (a0 := 0) (a1 := 3) rfl rfl (by omega) hL31 (by decide) dL_law_581 dL_law_582 dL_law_583 dL_law_584 dL_law_585 rfl ?_
    refine jl_cI (q := 589) (As := [.int (xs (5 * k + 1))]) (rest := [.int r1]) C hK hSg hz (f := 26) (i := 0) (ci := 11) mf_26 rfl rfl rfl (kX11_heard l (xs (5 * k + 1))) rfl gL_law_X11_heard rfl dsc_X11_heard ⟨rfl, rfl⟩ ⟨by decide, by decide⟩ rfl rfl (Nat.le_of_ble_eq_true rfl) dL_law_586 rfl ⟨by decide, by decide⟩ o15 (fun r2 μ2 o15 => ?_)
    exact jg_icmp_eq (q := 592) (tgt := 868) C dL_law_589 (by decide) rfl (fun c2 => hgo μ2 o15.2) (fun c2 => absurd o15.1 c2)
  by_cases w16 : w = (16 : Int32)
  · replace o16 : so_range (Inv (k + 1)) μ (xs (5 * k + 1)) (xs (5 * k + 2)) := o16 (xs (5 * k + 1)) (xs (5 * k + 2))
    unfold so_range at o16
    refine jg_tabI (tgt := 594) C (16 : Int32) w16 dL_law_32 (by decide) (by decide) rfl (by decide) ?_
    refine jg_aload_n (q := 595) C 1 dL_law_594 rfl rfl rfl ?_
    refine jl_ld (q := 600) (j := 1) C hX hbl hz (a0 := 0) (a1 := 3) rfl rfl (by omega) hL31 (by decide) dL_law_595 dL_law_596 dL_law_597 dL_law_598 dL_law_599 rfl ?_
    refine jl_ld (q := 605) (j := 2) C hX hbl hz (a0 := 0) (a1 := 3) rfl rfl (by omega) hL31 (by decide) dL_law_600 dL_law_601 dL_law_602 dL_law_603 dL_law_604 rfl ?_
    refine jl_cI (q := 608) (As := [.int (xs (5 * k + 1)), .int (xs (5 * k + 2))]) (rest := []) C hK hSg hz (f := 0) (i := 0) (ci := 10) mf_0 rfl rfl rfl (kX10_range l (xs (5 * k + 1)) (xs (5 * k + 2))) rfl gL_law_X10_range rfl dsc_X10_range ⟨rfl, rfl⟩ ⟨by decide, by decide⟩ rfl rfl (Nat.le_of_ble_eq_true rfl) dL_law_605 rfl ⟨by decide, by decide⟩ o16 (fun r1 μ1 o16 => ?_)
    refine jg_aload_n (q := 609) C 2 dL_law_608 rfl rfl rfl ?_
    refine jl_ld (q := 614) (j := 1) C hX hbl hz (a0 := 0) (a1 := 3) rfl rfl (by omega) hL31 (by decide) dL_law_609 dL_law_610 dL_law_611 dL_law_612 dL_law_613 rfl ?_
    refine jl_ld (q := 619) (j := 2) C hX hbl hz (a0 := 0) (a1 := 3) rfl rfl (by omega) hL31 (by decide) dL_law_614 dL_law_615 dL_law_616 dL_law_617 dL_law_618 rfl ?_
    refine jl_cI (q := 622) (As := [.int (xs (5 * k + 1)), .int (xs (5 * k + 2))]) (rest := [.int r1]) C hK hSg hz (f := 26) (i := 0) (ci := 11) mf_26 rfl rfl rfl (kX11_range l (xs (5 * k + 1)) (xs (5 * k + 2))) rfl gL_law_X11_range rfl dsc_X11_range ⟨rfl, rfl⟩ ⟨by decide, by decide⟩ rfl rfl (Nat.le_of_ble_eq_true rfl) dL_law_619 rfl ⟨by decide, by decide⟩ o16 (fun r2 μ2 o16 => ?_)
    exact jg_icmp_eq (q := 625) (tgt := 868) C dL_law_622 (by decide) rfl (fun c2 => hgo μ2 o16.2) (fun c2 => absurd o16.1 c2)
  by_cases w17 : w = (17 : Int32)
  · replace o17 : so_misfit (Inv (k + 1)) μ (xs (5 * k + 1)) (xs (5 * k + 2)) (xs (5 * k + 3)) := o17 (xs (5 * k + 1)) (xs (5 * k + 2)) (xs (5 * k + 3))
    unfold so_misfit at o17
    refine jg_tabI (tgt := 627) C (17 : Int32) w17 dL_law_32 (by decide) (by decide) rfl (by decide) ?_
    refine jg_aload_n (q := 628) C 1 dL_law_627 rfl rfl rfl ?_
    refine jl_ld (q := 633) (j := 1) C hX hbl hz (a0 := 0) (a1 := 3) rfl rfl (by omega) hL31 (by decide) dL_law_628 dL_law_629 dL_law_630 dL_law_631 dL_law_632 rfl ?_
    refine jl_ld (q := 638) (j := 2) C hX hbl hz (a0 := 0) (a1 := 3) rfl rfl (by omega) hL31 (by decide) dL_law_633 dL_law_634 dL_law_635 dL_law_636 dL_law_637 rfl ?_
    refine jl_ld (q := 643) (j := 3) C hX hbl hz (a0 := 0) (a1 := 3) rfl rfl (by omega) hL31 (by decide) dL_law_638 dL_law_639 dL_law_640 dL_law_641 dL_law_642 rfl ?_
    refine jl_cI (q := 646) (As := [.int (xs (5 * k + 1)), .int (xs (5 * k + 2)), .int (xs (5 * k + 3))]) (rest := []) C hK hSg hz (f := 0) (i := 0) (ci := 10) mf_0 rfl rfl rfl (kX10_misfit l (xs (5 * k + 1)) (xs (5 * k + 2)) (xs (5 * k + 3))) rfl gL_law_X10_misfit rfl dsc_X10_misfit ⟨rfl, rfl⟩ ⟨by decide, by decide⟩ rfl rfl (Nat.le_of_ble_eq_true rfl) dL_law_643 rfl ⟨by decide, by decide⟩ o17 (fun r1 μ1 o17 => ?_)
    refine jg_aload_n (q := 647) C 2 dL_law_646 rfl rfl rfl ?_
    refine jl_ld (q := 652) (j := 1) C hX hbl hz (a0 := 0) (a1 := 3) rfl rfl (by omega) hL31 (by decide) dL_law_647 dL_law_648 dL_law_649 dL_law_650 dL_law_651 rfl ?_
    refine jl_ld (q := 657) (j := 2) C hX hbl hz (a0 := 0) (a1 := 3) rfl rfl (by omega) hL31 (by decide) dL_law_652 dL_law_653 dL_law_654 dL_law_655 dL_law_656 rfl ?_
    refine jl_ld (q := 662) (j := 3) C hX hbl hz (a0 := 0) (a1 := 3) rfl rfl (by omega) hL31 (by decide) dL_law_657 dL_law_658 dL_law_659 dL_law_660 dL_law_661 rfl ?_
    refine jl_cI (q := 665) (As := [.int (xs (5 * k + 1)), .int (xs (5 * k + 2)), .int (xs (5 * k + 3))]) (rest := [.int r1]) C hK hSg hz (f := 26) (i := 0) (ci := 11) mf_26 rfl rfl rfl (kX11_misfit l (xs (5 * k + 1)) (xs (5 * k + 2)) (xs (5 * k + 3))) rfl gL_law_X11_misfit rfl dsc_X11_misfit ⟨rfl, rfl⟩ ⟨by decide, by decide⟩ rfl rfl (Nat.le_of_ble_eq_true rfl) dL_law_662 rfl ⟨by decide, by decide⟩ o17 (fun r2 μ2 o17 => ?_)
    exact jg_icmp_eq (q := 668) (tgt := 868) C dL_law_665 (by decide) rfl (fun c2 => hgo μ2 o17.2) (fun c2 => absurd o17.1 c2)
  by_cases w18 : w = (18 : Int32)
  · replace o18 : so_placed (Inv (k + 1)) μ (xs (5 * k + 1)) (xs (5 * k + 2)) := o18 (xs (5 * k + 1)) (xs (5 * k + 2))
    unfold so_placed at o18
    refine jg_tabI (tgt := 670) C (18 : Int32) w18 dL_law_32 (by decide) (by decide) rfl (by decide) ?_
    refine jg_aload_n (q := 671) C 1 dL_law_670 rfl rfl rfl ?_
    refine jl_ld (q := 676) (j := 1) C hX hbl hz (a0 := 0) (a1 := 3) rfl rfl (by omega) hL31 (by decide) dL_law_671 dL_law_672 dL_law_673 dL_law_674 dL_law_675 rfl ?_
    refine jl_ld (q := 681) (j := 2) C hX hbl hz (a0 := 0) (a1 := 3) rfl rfl (by omega) hL31 (by decide) dL_law_676 dL_law_677 dL_law_678 dL_law_679 dL_law_680 rfl ?_
    refine jl_cI (q := 684) (As := [.int (xs (5 * k + 1)), .int (xs (5 * k + 2))]) (rest := []) C hK hSg hz (f := 0) (i := 0) (ci := 10) mf_0 rfl rfl rfl (kX10_placed l (xs (5 * k + 1)) (xs (5 * k + 2))) rfl gL_law_X10_placed rfl dsc_X10_placed ⟨rfl, rfl⟩ ⟨by decide, by decide⟩ rfl rfl (Nat.le_of_ble_eq_true rfl) dL_law_681 rfl ⟨by decide, by decide⟩ o18 (fun r1 μ1 o18 => ?_)
    refine jg_aload_n (q := 685) C 2 dL_law_684 rfl rfl rfl ?_
    refine jl_ld (q := 690) (j := 1) C hX hbl hz (a0 := 0) (a1 := 3) rfl rfl (by omega) hL31 (by decide) dL_law_685 dL_law_686 dL_law_687 dL_law_688 dL_law_689 rfl ?_
    refine jl_ld (q := 695) (j := 2) C hX hbl hz (a0 := 0) (a1 := 3) rfl rfl (by omega) hL31 (by decide) dL_law_690 dL_law_691 dL_law_692 dL_law_693 dL_law_694 rfl ?_
    refine jl_cI (q := 698) (As := [.int (xs (5 * k + 1)), .int (xs (5 * k + 2))]) (rest := [.int r1]) C hK hSg hz (f := 26) (i := 0) (ci := 11) mf_26 rfl rfl rfl (kX11_placed l (xs (5 * k + 1)) (xs (5 * k + 2))) rfl gL_law_X11_placed rfl dsc_X11_placed ⟨rfl, rfl⟩ ⟨by decide, by decide⟩ rfl rfl (Nat.le_of_ble_eq_true rfl) dL_law_695 rfl ⟨by decide, by decide⟩ o18 (fun r2 μ2 o18 => ?_)
    exact jg_icmp_eq (q := 701) (tgt := 868) C dL_law_698 (by decide) rfl (fun c2 => hgo μ2 o18.2) (fun c2 => absurd o18.1 c2)
  by_cases w19 : w = (19 : Int32)
  · replace o19 : so_limit (Inv (k + 1)) μ (xs (5 * k + 1)) := o19 (xs (5 * k + 1))
    unfold so_limit at o19
    refine jg_tabI (tgt := 703) C (19 : Int32) w19 dL_law_32 (by decide) (by decide) rfl (by decide) ?_
    refine jg_aload_n (q := 704) C 1 dL_law_703 rfl rfl rfl ?_
    refine jl_ld (q := 709) (j := 1) C hX hbl hz (a0 := 0) (a1 := 3) rfl rfl (by omega) hL31 (by decide) dL_law_704 dL_law_705 dL_law_706 dL_law_707 dL_law_708 rfl ?_
    refine jl_cI (q := 712) (As := [.int (xs (5 * k + 1))]) (rest := []) C hK hSg hz (f := 0) (i := 0) (ci := 10) mf_0 rfl rfl rfl (kX10_limit l (xs (5 * k + 1))) rfl gL_law_X10_limit rfl dsc_X10_limit ⟨rfl, rfl⟩ ⟨by decide, by decide⟩ rfl rfl (Nat.le_of_ble_eq_true rfl) dL_law_709 rfl ⟨by decide, by decide⟩ o19 (fun r1 μ1 o19 => ?_)
    refine jg_aload_n (q := 713) C 2 dL_law_712 rfl rfl rfl ?_
    refine jl_ld (q := 718) (j := 1) C hX hbl hz (a0 := 0) (a1 := 3) rfl rfl (by omega) hL31 (by decide) dL_law_713 dL_law_714 dL_law_715 dL_law_716 dL_law_717 rfl ?_
    refine jl_cI (q := 721) (As := [.int (xs (5 * k + 1))]) (rest := [.int r1]) C hK hSg hz (f := 26) (i := 0) (ci := 11) mf_26 rfl rfl rfl (kX11_limit l (xs (5 * k + 1))) rfl gL_law_X11_limit rfl dsc_X11_limit ⟨rfl, rfl⟩ ⟨by decide, by decide⟩ rfl rfl (Nat.le_of_ble_eq_true rfl) dL_law_718 rfl ⟨by decide, by decide⟩ o19 (fun r2 μ2 o19 => ?_)
    exact jg_icmp_eq (q := 724) (tgt := 868) C dL_law_721 (by decide) rfl (fun c2 => hgo μ2 o19.2) (fun c2 => absurd o19.1 c2)
  by_cases w20 : w = (20 : Int32)
  · replace o20 : so_want (Inv (k + 1)) μ (xs (5 * k + 1)) (xs (5 * k + 2)) := o20 (xs (5 * k + 1)) (xs (5 * k + 2))
    unfold so_want at o20
    refine jg_tabI (tgt := 726) C (20 : Int32) w20 dL_law_32 (by decide) (by decide) rfl (by decide) ?_
    refine jg_aload_n (q := 727) C 1 dL_law_726 rfl rfl rfl ?_
    refine jl_ld (q := 732) (j := 1) C hX hbl hz (a0 := 0) (a1 := 3) rfl rfl (by omega) hL31 (by decide) dL_law_727 dL_law_728 dL_law_729 dL_law_730 dL_law_731 rfl ?_
    refine jl_ld (q := 737) (j := 2) C hX hbl hz (a0 := 0) (a1 := 3) rfl rfl (by omega) hL31 (by decide) dL_law_732 dL_law_733 dL_law_734 dL_law_735 dL_law_736 rfl ?_
    refine jl_cI (q := 740) (As := [.int (xs (5 * k + 1)), .int (xs (5 * k + 2))]) (rest := []) C hK hSg hz (f := 0) (i := 0) (ci := 10) mf_0 rfl rfl rfl (kX10_want l (xs (5 * k + 1)) (xs (5 * k + 2))) rfl gL_law_X10_want rfl dsc_X10_want ⟨rfl, rfl⟩ ⟨by decide, by decide⟩ rfl rfl (Nat.le_of_ble_eq_true rfl) dL_law_737 rfl ⟨by decide, by decide⟩ o20 (fun r1 μ1 o20 => ?_)
    refine jg_aload_n (q := 741) C 2 dL_law_740 rfl rfl rfl ?_
    refine jl_ld (q := 746) (j := 1) C hX hbl hz (a0 := 0) (a1 := 3) rfl rfl (by omega) hL31 (by decide) dL_law_741 dL_law_742 dL_law_743 dL_law_744 dL_law_745 rfl ?_
    refine jl_ld (q := 751) (j := 2) C hX hbl hz (a0 := 0) (a1 := 3) rfl rfl (by omega) hL31 (by decide) dL_law_746 dL_law_747 dL_law_748 dL_law_749 dL_law_750 rfl ?_
    refine jl_cI (q := 754) (As := [.int (xs (5 * k + 1)), .int (xs (5 * k + 2))]) (rest := [.int r1]) C hK hSg hz (f := 26) (i := 0) (ci := 11) mf_26 rfl rfl rfl (kX11_want l (xs (5 * k + 1)) (xs (5 * k + 2))) rfl gL_law_X11_want rfl dsc_X11_want ⟨rfl, rfl⟩ ⟨by decide, by decide⟩ rfl rfl (Nat.le_of_ble_eq_true rfl) dL_law_751 rfl ⟨by decide, by decide⟩ o20 (fun r2 μ2 o20 => ?_)
    exact jg_icmp_eq (q := 757) (tgt := 868) C dL_law_754 (by decide) rfl (fun c2 => hgo μ2 o20.2) (fun c2 => absurd o20.1 c2)
  by_cases w21 : w = (21 : Int32)
  · replace o21 : so_deal (Inv (k + 1)) μ := o21
    unfold so_deal at o21
    refine jg_tabI (tgt := 759) C (21 : Int32) w21 dL_law_32 (by decide) (by decide) rfl (by decide) ?_
    refine jg_aload_n (q := 760) C 1 dL_law_759 rfl rfl rfl ?_
    refine jl_cI (q := 763) (As := []) (rest := []) C hK hSg hz (f := 0) (i := 0) (ci := 10) mf_0 rfl rfl rfl (kX10_deal l ) rfl gL_law_X10_deal rfl dsc_X10_deal ⟨rfl, rfl⟩ ⟨by decide, by decide⟩ rfl rfl (Nat.le_of_ble_eq_true rfl) dL_law_760 rfl ⟨by decide, by decide⟩ o21 (fun r1 μ1 o21 => ?_)
    refine jg_aload_n (q := 764) C 2 dL_law_763 rfl rfl rfl ?_
    refine jl_cI (q := 767) (As := []) (rest := [.int r1]) C hK hSg hz (f := 26) (i := 0) (ci := 11) mf_26 rfl rfl rfl (kX11_deal l ) rfl gL_law_X11_deal rfl dsc_X11_deal ⟨rfl, rfl⟩ ⟨by decide, by decide⟩ rfl rfl (Nat.le_of_ble_eq_true rfl) dL_law_764 rfl ⟨by decide, by decide⟩ o21 (fun r2 μ2 o21 => ?_)
    exact jg_icmp_eq (q := 770) (tgt := 868) C dL_law_767 (by decide) rfl (fun c2 => hgo μ2 o21.2) (fun c2 => absurd o21.1 c2)
  by_cases w22 : w = (22 : Int32)
  · replace o22 : so_slot (Inv (k + 1)) μ (xs (5 * k + 1)) := o22 (xs (5 * k + 1))
    unfold so_slot at o22
    refine jg_tabI (tgt := 772) C (22 : Int32) w22 dL_law_32 (by decide) (by decide) rfl (by decide) ?_
    refine jg_aload_n (q := 773) C 1 dL_law_772 rfl rfl rfl ?_
    refine jl_ld (q := 778) (j := 1) C hX hbl hz (a0 := 0) (a1 := 3) rfl rfl (by omega) hL31 (by decide) dL_law_773 dL_law_774 dL_law_775 dL_law_776 dL_law_777 rfl ?_
    refine jl_cI (q := 781) (As := [.int (xs (5 * k + 1))]) (rest := []) C hK hSg hz (f := 0) (i := 0) (ci := 10) mf_0 rfl rfl rfl (kX10_slot l (xs (5 * k + 1))) rfl gL_law_X10_slot rfl dsc_X10_slot ⟨rfl, rfl⟩ ⟨by decide, by decide⟩ rfl rfl (Nat.le_of_ble_eq_true rfl) dL_law_778 rfl ⟨by decide, by decide⟩ o22 (fun r1 μ1 o22 => ?_)
    refine jg_aload_n (q := 782) C 2 dL_law_781 rfl rfl rfl ?_
    refine jl_ld (q := 787) (j := 1) C hX hbl hz (a0 := 0) (a1 := 3) rfl rfl (by omega) hL31 (by decide) dL_law_782 dL_law_783 dL_law_784 dL_law_785 dL_law_786 rfl ?_
    refine jl_cI (q := 790) (As := [.int (xs (5 * k + 1))]) (rest := [.int r1]) C hK hSg hz (f := 26) (i := 0) (ci := 11) mf_26 rfl rfl rfl (kX11_slot l (xs (5 * k + 1))) rfl gL_law_X11_slot rfl dsc_X11_slot ⟨rfl, rfl⟩ ⟨by decide, by decide⟩ rfl rfl (Nat.le_of_ble_eq_true rfl) dL_law_787 rfl ⟨by decide, by decide⟩ o22 (fun r2 μ2 o22 => ?_)
    exact jg_icmp_eq (q := 793) (tgt := 868) C dL_law_790 (by decide) rfl (fun c2 => hgo μ2 o22.2) (fun c2 => absurd o22.1 c2)
  by_cases w23 : w = (23 : Int32)
  · replace o23 : so_frame (Inv (k + 1)) μ := o23
    unfold so_frame at o23
    refine jg_tabI (tgt := 795) C (23 : Int32) w23 dL_law_32 (by decide) (by decide) rfl (by decide) ?_
    refine jg_aload_n (q := 796) C 1 dL_law_795 rfl rfl rfl ?_
    refine jl_cI (q := 799) (As := []) (rest := []) C hK hSg hz (f := 0) (i := 0) (ci := 10) mf_0 rfl rfl rfl (kX10_frame l ) rfl gL_law_X10_frame rfl dsc_X10_frame ⟨rfl, rfl⟩ ⟨by decide, by decide⟩ rfl rfl (Nat.le_of_ble_eq_true rfl) dL_law_796 rfl ⟨by decide, by decide⟩ o23 (fun r1 μ1 o23 => ?_)
    refine jg_aload_n (q := 800) C 2 dL_law_799 rfl rfl rfl ?_
    refine jl_cI (q := 803) (As := []) (rest := [.int r1]) C hK hSg hz (f := 26) (i := 0) (ci := 11) mf_26 rfl rfl rfl (kX11_frame l ) rfl gL_law_X11_frame rfl dsc_X11_frame ⟨rfl, rfl⟩ ⟨by decide, by decide⟩ rfl rfl (Nat.le_of_ble_eq_true rfl) dL_law_800 rfl ⟨by decide, by decide⟩ o23 (fun r2 μ2 o23 => ?_)
    exact jg_icmp_eq (q := 806) (tgt := 868) C dL_law_803 (by decide) rfl (fun c2 => hgo μ2 o23.2) (fun c2 => absurd o23.1 c2)
  by_cases w24 : w = (24 : Int32)
  · replace o24 : so_about (Inv (k + 1)) μ (xs (5 * k + 1)) := o24 (xs (5 * k + 1))
    unfold so_about at o24
    refine jg_tabI (tgt := 808) C (24 : Int32) w24 dL_law_32 (by decide) (by decide) rfl (by decide) ?_
    refine jg_aload_n (q := 809) C 1 dL_law_808 rfl rfl rfl ?_
    refine jl_ld (q := 814) (j := 1) C hX hbl hz (a0 := 0) (a1 := 3) rfl rfl (by omega) hL31 (by decide) dL_law_809 dL_law_810 dL_law_811 dL_law_812 dL_law_813 rfl ?_
    refine jl_cI (q := 817) (As := [.int (xs (5 * k + 1))]) (rest := []) C hK hSg hz (f := 0) (i := 0) (ci := 10) mf_0 rfl rfl rfl (kX10_about l (xs (5 * k + 1))) rfl gL_law_X10_about rfl dsc_X10_about ⟨rfl, rfl⟩ ⟨by decide, by decide⟩ rfl rfl (Nat.le_of_ble_eq_true rfl) dL_law_814 rfl ⟨by decide, by decide⟩ o24 (fun r1 μ1 o24 => ?_)
    refine jg_aload_n (q := 818) C 2 dL_law_817 rfl rfl rfl ?_
    refine jl_ld (q := 823) (j := 1) C hX hbl hz (a0 := 0) (a1 := 3) rfl rfl (by omega) hL31 (by decide) dL_law_818 dL_law_819 dL_law_820 dL_law_821 dL_law_822 rfl ?_
    refine jl_cI (q := 826) (As := [.int (xs (5 * k + 1))]) (rest := [.int r1]) C hK hSg hz (f := 26) (i := 0) (ci := 11) mf_26 rfl rfl rfl (kX11_about l (xs (5 * k + 1))) rfl gL_law_X11_about rfl dsc_X11_about ⟨rfl, rfl⟩ ⟨by decide, by decide⟩ rfl rfl (Nat.le_of_ble_eq_true rfl) dL_law_823 rfl ⟨by decide, by decide⟩ o24 (fun r2 μ2 o24 => ?_)
    exact jg_icmp_eq (q := 829) (tgt := 868) C dL_law_826 (by decide) rfl (fun c2 => hgo μ2 o24.2) (fun c2 => absurd o24.1 c2)
  by_cases w25 : w = (25 : Int32)
  · replace o25 : so_count (Inv (k + 1)) μ (xs (5 * k + 1)) := o25 (xs (5 * k + 1))
    unfold so_count at o25
    refine jg_tabI (tgt := 831) C (25 : Int32) w25 dL_law_32 (by decide) (by decide) rfl (by decide) ?_
    refine jg_aload_n (q := 832) C 1 dL_law_831 rfl rfl rfl ?_
    refine jl_ld (q := 837) (j := 1) C hX hbl hz (a0 := 0) (a1 := 3) rfl rfl (by omega) hL31 (by decide) dL_law_832 dL_law_833 dL_law_834 dL_law_835 dL_law_836 rfl ?_
    refine jl_cI (q := 840) (As := [.int (xs (5 * k + 1))]) (rest := []) C hK hSg hz (f := 0) (i := 0) (ci := 10) mf_0 rfl rfl rfl (kX10_count l (xs (5 * k + 1))) rfl gL_law_X10_count rfl dsc_X10_count ⟨rfl, rfl⟩ ⟨by decide, by decide⟩ rfl rfl (Nat.le_of_ble_eq_true rfl) dL_law_837 rfl ⟨by decide, by decide⟩ o25 (fun r1 μ1 o25 => ?_)
    refine jg_aload_n (q := 841) C 2 dL_law_840 rfl rfl rfl ?_
    refine jl_ld (q := 846) (j := 1) C hX hbl hz (a0 := 0) (a1 := 3) rfl rfl (by omega) hL31 (by decide) dL_law_841 dL_law_842 dL_law_843 dL_law_844 dL_law_845 rfl ?_
    refine jl_cI (q := 849) (As := [.int (xs (5 * k + 1))]) (rest := [.int r1]) C hK hSg hz (f := 26) (i := 0) (ci := 11) mf_26 rfl rfl rfl (kX11_count l (xs (5 * k + 1))) rfl gL_law_X11_count rfl dsc_X11_count ⟨rfl, rfl⟩ ⟨by decide, by decide⟩ rfl rfl (Nat.le_of_ble_eq_true rfl) dL_law_846 rfl ⟨by decide, by decide⟩ o25 (fun r2 μ2 o25 => ?_)
    exact jg_icmp_eq (q := 852) (tgt := 868) C dL_law_849 (by decide) rfl (fun c2 => hgo μ2 o25.2) (fun c2 => absurd o25.1 c2)
  by_cases w26 : w = (26 : Int32)
  · replace o26 : so_digest (Inv (k + 1)) μ := o26
    unfold so_digest at o26
    refine jg_tabI (tgt := 854) C (26 : Int32) w26 dL_law_32 (by decide) (by decide) rfl (by decide) ?_
    refine jg_aload_n (q := 855) C 1 dL_law_854 rfl rfl rfl ?_
    refine jl_cL (q := 858) (As := []) (rest := []) C hK hSg hz (f := 0) (i := 0) (ci := 10) mf_0 rfl rfl rfl (kX10_digest l ) rfl gL_law_X10_digest rfl dsc_X10_digest ⟨rfl, rfl⟩ ⟨by decide, by decide⟩ rfl rfl (Nat.le_of_ble_eq_true rfl) dL_law_855 rfl ⟨by decide, by decide⟩ o26 (fun r1 μ1 o26 => ?_)
    refine jg_aload_n (q := 859) C 2 dL_law_858 rfl rfl rfl ?_
    refine jl_cL (q := 862) (As := []) (rest := [.long r1]) C hK hSg hz (f := 26) (i := 0) (ci := 11) mf_26 rfl rfl rfl (kX11_digest l ) rfl gL_law_X11_digest rfl dsc_X11_digest ⟨rfl, rfl⟩ ⟨by decide, by decide⟩ rfl rfl (Nat.le_of_ble_eq_true rfl) dL_law_859 rfl ⟨by decide, by decide⟩ o26 (fun r2 μ2 o26 => ?_)
    refine jg_lcmp (q := 863) C dL_law_862 rfl ?_
    refine jg_if_eq (q := 866) (tgt := 868) C dL_law_863 (by decide) rfl (fun c2 => hgo μ2 o26.2) (fun c2 => absurd ?_ c2)
    rw [o26.1]
    simp [lg_cmp]
  have v0 := lv_neT (a := 0) w0 (by decide)
  have v1 := lv_neT (a := 1) w1 (by decide)
  have v2 := lv_neT (a := 2) w2 (by decide)
  have v3 := lv_neT (a := 3) w3 (by decide)
  have v4 := lv_neT (a := 4) w4 (by decide)
  have v5 := lv_neT (a := 5) w5 (by decide)
  have v6 := lv_neT (a := 6) w6 (by decide)
  have v7 := lv_neT (a := 7) w7 (by decide)
  have v8 := lv_neT (a := 8) w8 (by decide)
  have v9 := lv_neT (a := 9) w9 (by decide)
  have v10 := lv_neT (a := 10) w10 (by decide)
  have v11 := lv_neT (a := 11) w11 (by decide)
  have v12 := lv_neT (a := 12) w12 (by decide)
  have v13 := lv_neT (a := 13) w13 (by decide)
  have v14 := lv_neT (a := 14) w14 (by decide)
  have v15 := lv_neT (a := 15) w15 (by decide)
  have v16 := lv_neT (a := 16) w16 (by decide)
  have v17 := lv_neT (a := 17) w17 (by decide)
  have v18 := lv_neT (a := 18) w18 (by decide)
  have v19 := lv_neT (a := 19) w19 (by decide)
  have v20 := lv_neT (a := 20) w20 (by decide)
  have v21 := lv_neT (a := 21) w21 (by decide)
  have v22 := lv_neT (a := 22) w22 (by decide)
  have v23 := lv_neT (a := 23) w23 (by decide)
  have v24 := lv_neT (a := 24) w24 (by decide)
  have v25 := lv_neT (a := 25) w25 (by decide)
  have v26 := lv_neT (a := 26) w26 (by decide)
  refine jg_tabO (tgt := 868) C dL_law_32 (by omega) (by decide) ?_
  exact hgo μ (hskip k μ hk512 hI)
