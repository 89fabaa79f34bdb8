theorem eq_int {args : Array Value} {s : State} {tm : Term} {z : Int32} (h : (Cond.eq tm (.int z)).before args s = true) : tm.eval args s none [] s = some (.int z) := by
  cases hv : tm.eval args s none [] s with
  | none => simp [Cond.before, Cond.holds, Cond.value, hv] at h
  | some w =>
    have hz : (Term.int z).eval args s none [] s = some (.int z) := rfl
    simp only [Cond.before, Cond.holds, Cond.value, hv, hz] at h
    cases w <;> simp_all
set_option maxHeartbeats 4000000 in
set_option maxRecDepth 100000 in
theorem law_tabs {s : State} {b : Nat} (hts : ∀ w ∈ lw_tbl, w.before #[Value.ref b] s = true) : ∃ (D : va_G) (cy : Nat → ClassId), va_K D vwCl (mm_ty cy) s := by
  obtain ⟨c0, iS0, hK0⟩ := u_known (C := RX0) (T := TX0) (N := 11) (n := 11) hts il_X0 (hts (.instantiable RX0 11) (List.mem_of_getElem? (i := 136) (by decide +kernel)))
  obtain ⟨c1, iS1, hK1⟩ := u_known (C := RX1) (T := TX1) (N := 6) (n := 6) hts il_X1 (hts (.instantiable RX1 6) (List.mem_of_getElem? (i := 304) (by decide +kernel)))
  obtain ⟨c2, iS2, hK2⟩ := u_known (C := RX2) (T := TX2) (N := 1) (n := 1) hts il_X2 (hts (.instantiable RX2 1) (List.mem_of_getElem? (i := 294) (by decide +kernel)))
  obtain ⟨c3, iS3, hK3⟩ := u_known (C := RX3) (T := TX3) (N := 9) (n := 9) hts il_X3 (hts (.instantiable RX3 9) (List.mem_of_getElem? (i := 241) (by decide +kernel)))
  obtain ⟨c4, iS4, hK4⟩ := u_known (C := RX4) (T := TX4) (N := 5) (n := 5) hts il_X4 (hts (.instantiable RX4 5) (List.mem_of_getElem? (i := 215) (by decide +kernel)))
  obtain ⟨c5, iS5, hK5⟩ := u_known (C := RX5) (T := TX5) (N := 8) (n := 8) hts il_X5 (hts (.instantiable RX5 8) (List.mem_of_getElem? (i := 145) (by decide +kernel)))
  obtain ⟨c6, iS6, hK6⟩ := u_known (C := RX6) (T := TX6) (N := 2) (n := 2) hts il_X6 (hts (.instantiable RX6 2) (List.mem_of_getElem? (i := 90) (by decide +kernel)))
  obtain ⟨c7, iS7, hK7⟩ := u_known (C := RX7) (T := TX7) (N := 6) (n := 6) hts il_X7 (hts (.instantiable RX7 6) (List.mem_of_getElem? (i := 184) (by decide +kernel)))
  obtain ⟨c8, iS8, hK8⟩ := u_known (C := RX8) (T := TX8) (N := 6) (n := 6) hts il_X8 (hts (.instantiable RX8 6) (List.mem_of_getElem? (i := 108) (by decide +kernel)))
  obtain ⟨c9, iS9, hK9⟩ := u_known (C := RX9) (T := TX9) (N := 1) (n := 1) hts il_X9 (hts (.instantiable RX9 1) (List.mem_of_getElem? (i := 283) (by decide +kernel)))
  obtain ⟨c10, iS10, hK10⟩ := u_known (C := RX10) (T := TX10) (N := 7) (n := 7) hts il_X10 (hts (.instantiable RX10 7) (List.mem_of_getElem? (i := 82) (by decide +kernel)))
  obtain ⟨c11, iS11, hK11⟩ := u_known (C := RX11) (T := TX11) (N := 42) (n := 42) hts il_X11 (hts (.instantiable RX11 42) (List.mem_of_getElem? (i := 821) (by decide +kernel)))
  obtain ⟨dC, dI, hKc⟩ : ∃ (dC : Nat → ClassId) (dI : Nat → Nat → Nat), ∀ (k : Nat) (q : vw_C), vwCl[k]? = some q → u_Kn s q.1 q.2.1 q.2.2 (dC k) (dI k) := by
    refine ⟨fun k => if k = 0 then c0 else if k = 1 then c1 else if k = 2 then c2 else if k = 3 then c3 else if k = 4 then c4 else if k = 5 then c5 else if k = 6 then c6 else if k = 7 then c7 else if k = 8 then c8 else if k = 9 then c9 else if k = 10 then c10 else c11, fun k => if k = 0 then iS0 else if k = 1 then iS1 else if k = 2 then iS2 else if k = 3 then iS3 else if k = 4 then iS4 else if k = 5 then iS5 else if k = 6 then iS6 else if k = 7 then iS7 else if k = 8 then iS8 else if k = 9 then iS9 else if k = 10 then iS10 else iS11, ?_⟩
    intro k q hq
    match k, hq with
    | 0, hq => cases hq; exact hK0
    | 1, hq => cases hq; exact hK1
    | 2, hq => cases hq; exact hK2
    | 3, hq => cases hq; exact hK3
    | 4, hq => cases hq; exact hK4
    | 5, hq => cases hq; exact hK5
    | 6, hq => cases hq; exact hK6
    | 7, hq => cases hq; exact hK7
    | 8, hq => cases hq; exact hK8
    | 9, hq => cases hq; exact hK9
    | 10, hq => cases hq; exact hK10
    | 11, hq => cases hq; exact hK11
    | k + 12, hq => simp [vwCl] at hq
  obtain ⟨a0, k0, p0, f0, g0, h0⟩ := Cond.arrayClass_spec (hts (.arrayClass .int) (List.mem_of_getElem? (i := 106) (by decide +kernel)))
  obtain ⟨a1, k1, p1, f1, g1, h1⟩ := Cond.arrayClass_spec (hts (.arrayClass .long) (List.mem_of_getElem? (i := 281) (by decide +kernel)))
  obtain ⟨a2, k2, p2, f2, g2, h2⟩ := Cond.arrayClass_spec (hts (.arrayClass .boolean) (List.mem_of_getElem? (i := 953) (by decide +kernel)))
  obtain ⟨p3, a3, k3, q3, -, g3, h3, f3⟩ := Cond.arrayOver_spec (hts (.arrayOver (.object "SlipRanges$Link")) (List.mem_of_getElem? (i := 214) (by decide +kernel)))
  obtain ⟨p4, a4, k4, q4, -, g4, h4, f4⟩ := Cond.arrayOver_spec (hts (.arrayOver (.object "SlipRanges$Node")) (List.mem_of_getElem? (i := 142) (by decide +kernel)))
  obtain ⟨p5, a5, k5, q5, -, g5, h5, f5⟩ := Cond.arrayOver_spec (hts (.arrayOver (.object "SlipRanges$Placing")) (List.mem_of_getElem? (i := 144) (by decide +kernel)))
  obtain ⟨p6, a6, k6, q6, -, g6, h6, f6⟩ := arrayOverA_spec (hts (.arrayOver (.array .int)) (List.mem_of_getElem? (i := 114) (by decide +kernel)))
  refine ⟨(dC, dI), fun k => if k = 0 then a0 else if k = 1 then a1 else if k = 2 then a2 else if k = 3 then a3 else if k = 4 then a4 else if k = 5 then a5 else a6, hKc, fun k q hq => ?_⟩
  match k, hq with
  | 0, hq => cases hq; exact ⟨fun N z => ⟨fun k h => (by cases h), k0, g0, p0, h0⟩, f0⟩
  | 1, hq => cases hq; exact ⟨fun N z => ⟨fun k h => (by cases h), k1, g1, p1, h1⟩, f1⟩
  | 2, hq => cases hq; exact ⟨fun N z => ⟨fun k h => (by cases h), k2, g2, p2, h2⟩, f2⟩
  | 3, hq => cases hq; exact ⟨fun N z => ⟨fun k h => (by cases h), k3, g3, p3, h3⟩, k3, p3, g3, h3, q3, f3⟩
  | 4, hq => cases hq; exact ⟨fun N z => ⟨fun k h => (by cases h), k4, g4, p4, h4⟩, k4, p4, g4, h4, q4, f4⟩
  | 5, hq => cases hq; exact ⟨fun N z => ⟨fun k h => (by cases h), k5, g5, p5, h5⟩, k5, p5, g5, h5, q5, f5⟩
  | 6, hq => cases hq; exact ⟨fun N z => ⟨fun k h => (by cases h), k6, g6, p6, h6⟩, f6⟩
  | k + 7, hq => simp [mm_ty] at hq
theorem law_sg {s : State} {b : Nat} (hts : ∀ w ∈ lw_tbl, w.before #[Value.ref b] s = true) (hgv : (Jvm.Cond.and given_1 narrow_1).before #[Value.ref b] s = true) : mm_Sg s.heap.size s := by
  have hs := flat_of_before _ hgv
  have hA : ∀ a : Nat, a < s.heap.size → ¬ mm_A s.heap.size a := fun a ha h => by have := h.1; omega
  have harr : (Cond.arrayOf (.static "SlipRanges" "GREATEST" "[I") .int).before #[Value.ref b] s = true := hs _ (by decide +kernel)
  have hlen : (Cond.eq (.length (.static "SlipRanges" "GREATEST" "[I")) (.int 5)).before #[Value.ref b] s = true := hs _ (by decide +kernel)
  have e0 : (Cond.eq (.elem (.static "SlipRanges" "GREATEST" "[I") (.int 0)) (.int 0)).before #[Value.ref b] s = true := hs _ (by decide +kernel)
  have e1 : (Cond.eq (.elem (.static "SlipRanges" "GREATEST" "[I") (.int 1)) (.int 31)).before #[Value.ref b] s = true := hs _ (by decide +kernel)
  have e2 : (Cond.eq (.elem (.static "SlipRanges" "GREATEST" "[I") (.int 2)) (.int 31)).before #[Value.ref b] s = true := hs _ (by decide +kernel)
  have e3 : (Cond.eq (.elem (.static "SlipRanges" "GREATEST" "[I") (.int 3)) (.int 99)).before #[Value.ref b] s = true := hs _ (by decide +kernel)
  have e4 : (Cond.eq (.elem (.static "SlipRanges" "GREATEST" "[I") (.int 4)) (.int 9999)).before #[Value.ref b] s = true := hs _ (by decide +kernel)
  obtain ⟨t, ht, hT⟩ := va_Tof (N := 5) (f := fun j => .int (mm_G j)) (A := mm_A s.heap.size) (by decide) harr (eq_int hlen) (fun j hj => by
    rcases (show j = 0 ∨ j = 1 ∨ j = 2 ∨ j = 3 ∨ j = 4 by omega) with rfl | rfl | rfl | rfl | rfl
    · exact eq_int e0
    · exact eq_int e1
    · exact eq_int e2
    · exact eq_int e3
    · exact eq_int e4) hA
  refine ⟨⟨t, va_Zof (hts (.laysStatic "SlipRanges" "GREATEST" "[I") (List.mem_of_getElem? (i := 434) (by decide +kernel))) (hts (.initialized RX10) (List.mem_of_getElem? (i := 66) (by decide +kernel))) ht hA, hT⟩, va_Nw.of rfl (hts (.fieldLinkNest "SlipRanges$Reader" 59 "SlipRanges" "GREATEST" "[I" "SlipRanges") (List.mem_of_getElem? (i := 433) (by decide +kernel)))⟩
theorem law_mx {s : State} {b : Nat} (hts : ∀ w ∈ lw_tbl, w.before #[Value.ref b] s = true) : mn_X s :=
  ⟨va_Nw.of rfl (hts (.methodLinkNest RX0 23 yX5_init RX10) (List.mem_of_getElem? (i := 146) (by decide +kernel))), va_Nw.of rfl (hts (.methodLinkNest RX0 24 yX7_init RX10) (List.mem_of_getElem? (i := 185) (by decide +kernel))), Jvm.Stand.arrayOver_alikeB (Vm.Alike.refl s.vm) (hts (.arrayOver (.array .int)) (List.mem_of_getElem? (i := 114) (by decide +kernel))), (va_AO.of (hts (.arrayOver (.object RX4)) (List.mem_of_getElem? (i := 214) (by decide +kernel)))), (va_AO.of (hts (.arrayOver (.object RX5)) (List.mem_of_getElem? (i := 142) (by decide +kernel)))), (va_AO.of (hts (.arrayOver (.object RX7)) (List.mem_of_getElem? (i := 144) (by decide +kernel))))⟩
set_option maxHeartbeats 4000000 in
set_option maxRecDepth 100000 in
theorem law_start (Inv : Nat → mm_T → Prop) (hstep : ∀ k μ, k < 512 → Inv k μ → so_all (Inv (k + 1)) μ) (hskip : ∀ k μ, k < 512 → Inv k μ → Inv (k + 1) μ) (hzero : ∀ μ, zq_ μ → Inv 0 μ) {p : Program} {e : Env} {s : State} {m : MethodId} {below : List Frame} {meth : Method} {c : Code} (l : Launch) {b L : Nat} {xs : Nat → Int32} (hL : L ≤ 2560) (C0 : lw_At p s m meth c b L xs) : W p l e room_1 s m #[Value.ref b] below meth c s.heap [] 0 0 (lw_Z below #[Value.ref b] s) (entryFrame m ([Value.ref b] : List Value).toArray 4) := by
  obtain ⟨hx, hb, hr, hml, hown, hts, hX, hbl, hlocks, hgv⟩ := id C0
  have C : gC p s m #[Value.ref b] c cL_law 4 RL wsL_law := ⟨hx, hb, hml, hown, fun w h => hts w (wsL_law_in w h)⟩
  obtain ⟨D, cy, hK⟩ := law_tabs hts
  have hSg := law_sg hts hgv
  have hMX := law_mx hts
  obtain ⟨z, hz⟩ : ∃ z, z = s.heap.size := ⟨_, rfl⟩
  rw [← hz] at hSg
  have h0 : z ≤ s.heap.size := by omega
  have hl := lv_entry ([.ref b]) (n := 4) (Nat.le_of_ble_eq_true rfl)
  rw [lg_entry_eq]
  have key : jG p l e room_1 s m #[Value.ref b] below meth c (mm_B z) (lw_Z below #[Value.ref b] s) 4 0 0 (mn_P D cy z 0 (fun _ _ _ => 0, fun _ _ _ => 0) (fun _ _ _ => none)) 0 [(0, .ref b)] [] := by
    have hz0 : zm_ (fun _ _ _ => 0, fun _ _ _ => 0) := ⟨fun _ _ _ => rfl, fun _ _ _ => rfl⟩
    generalize ((fun _ _ _ => 0, fun _ _ _ => 0) : mm_T) = μ at hz0 ⊢
    generalize ((fun _ _ _ => none) : mm_R) = ρ
    refine jq_new (q := 3) (f := 0) (i := 0) (ci := 10) (Cn := RX10) (T := TX10) (N := 7) C hK h0 (by decide +kernel) rfl rfl rfl (fun _ h => (List.mem_append_left _ (List.mem_append_left _ (List.mem_append_left _ (List.mem_append_left _ (List.mem_append_left _ (List.mem_append_left _ (List.mem_append_left _ (List.mem_append_left _ (List.mem_append_left _ (List.mem_append_left _ (List.mem_append_left _ (List.mem_append_left _ (List.mem_append_right _ h)))))))))))))) tyX10 tyX10_ok dv_10 (List.mem_of_getElem? (i := 0) (by decide +kernel) : Cond.classLink RL 7 RX10 ∈ wsL_law) (List.mem_of_getElem? (i := 1) (by decide +kernel) : Cond.instantiable RX10 7 ∈ wsL_law) (List.mem_of_getElem? (i := 2) (by decide +kernel) : Cond.initialized RX10 ∈ wsL_law) (by decide) (by decide) dL_law_0 rfl ?_
    refine jg_dup (q := 4) C dL_law_3 rfl rfl ?_
    refine jq_call (q := 7) (As := []) (rest := [.ref (z + mm_ad 0 0)]) C hK h0 hMX (kX10_init l) rfl gL_law_X10_init rfl rfl (List.mem_of_getElem? (i := 6) (by decide +kernel) : Cond.methodLink RL 9 yX10_init ∈ wsL_law) (List.mem_of_getElem? (i := 7) (by decide +kernel) : Cond.instanceMethod yX10_init ∈ wsL_law) (List.mem_of_getElem? (i := 2) (by decide +kernel) : Cond.initialized RX10 ∈ wsL_law) dsc_X10_init ⟨rfl, rfl⟩ ⟨by decide, by decide⟩ rfl rfl (Nat.le_of_ble_eq_true rfl) dL_law_4 rfl ⟨by decide, by decide⟩ (Ko := fun u9 r9 => j3_ u9 r9) ⟨zm_Z hz0 0 0, fun _ _ h9 => h9⟩ (fun μ1 ρ1 hj => ?_)
    refine jg_astore_n (q := 8) (lv' := [(1, .ref (z + mm_ad 0 0)), (0, .ref b)]) C dL_law_7 rfl (by decide) rfl rfl ?_
    refine jq_new (q := 11) (f := 26) (i := 0) (ci := 11) (Cn := RX11) (T := TX11) (N := 42) C hK h0 (by decide +kernel) rfl rfl rfl (fun _ h => (List.mem_append_left _ (List.mem_append_left _ (List.mem_append_left _ (List.mem_append_left _ (List.mem_append_left _ (List.mem_append_left _ (List.mem_append_left _ (List.mem_append_left _ (List.mem_append_left _ (List.mem_append_left _ (List.mem_append_left _ (List.mem_append_right _ h))))))))))))) tyX11 tyX11_ok dv_11 (List.mem_of_getElem? (i := 3) (by decide +kernel) : Cond.classLink RL 10 RX11 ∈ wsL_law) (List.mem_of_getElem? (i := 4) (by decide +kernel) : Cond.instantiable RX11 42 ∈ wsL_law) (List.mem_of_getElem? (i := 5) (by decide +kernel) : Cond.initialized RX11 ∈ wsL_law) (by decide) (by decide) dL_law_8 rfl ?_
    refine jg_dup (q := 12) C dL_law_11 rfl rfl ?_
    refine jq_call (q := 15) (As := []) (rest := [.ref (z + mm_ad 26 0)]) C hK h0 hMX (kX11_init l) rfl gL_law_X11_init rfl rfl (List.mem_of_getElem? (i := 105) (by decide +kernel) : Cond.methodLink RL 12 yX11_init ∈ wsL_law) (List.mem_of_getElem? (i := 106) (by decide +kernel) : Cond.instanceMethod yX11_init ∈ wsL_law) (List.mem_of_getElem? (i := 5) (by decide +kernel) : Cond.initialized RX11 ∈ wsL_law) dsc_X11_init ⟨rfl, rfl⟩ ⟨by decide, by decide⟩ rfl rfl (Nat.le_of_ble_eq_true rfl) dL_law_12 rfl ⟨by decide, by decide⟩ (Ko := fun u9 r9 => zq_ u9 ∧ fr_ r9) ⟨wx_zq hj.1.choose_spec.1, wx_fr hj⟩ (fun μ2 ρ2 hj2 => ?_)
    refine jg_astore_n (q := 16) (lv' := [(2, .ref (z + mm_ad 26 0)), (1, .ref (z + mm_ad 0 0)), (0, .ref b)]) C dL_law_15 rfl (by decide) rfl rfl ?_
    refine jg_iconst (q := 17) (v := (0 : Int32)) C dL_law_16 (by decide) rfl ?_
    refine jg_istore_n (q := 18) (lv' := [(3, .int (0 : Int32)), (2, .ref (z + mm_ad 26 0)), (1, .ref (z + mm_ad 0 0)), (0, .ref b)]) C dL_law_17 rfl (by decide) rfl rfl ?_
    refine jg_sub [3, 2, 1, 0] rfl ?_
    refine jg_wide (k := 600000) (n := 7302250) (Nat.le_of_ble_eq_true rfl) (Nat.le_of_ble_eq_true rfl) ?_
    have ht := law_turns Inv hstep hskip l (e := e) (below := below) hL hr hlocks hz C hK hSg hX hbl (L + 1) 0 μ2 (by omega) (by omega) (hzero μ2 hj2.1)
    exact fun H locs ls hP hS hl => ht H locs ls (wx_P hj2.2 hP.1) hS hl
  exact key s.heap [] _ ⟨fun k q h => by simp [mn_ws] at h, by omega⟩ va_S.rf hl
