/-! settle; misfit; placed. -/
def kq_ (a c : Nat) : Prop := a = 25 ∨ (a = 21 ∧ c = 4)
def Sub_ (S R : Nat) : Prop := ∀ j, j < 7 → S.testBit j = true → R.testBit j = true
theorem Sub_w {S R b : Nat} (h : Sub_ S R) (hS : S < 128) (hb : b < 7) : Sub_ (wo_ S b) R := by
  intro j hj q
  rw [(bw_ S hS b hb).2 j hj] at q
  refine h j hj ?_
  revert q
  cases S.testBit j <;> simp
section CS
variable {μ w : mm_T} {N t S R : Nat}
theorem c_leave {Po : mm_T → Prop} {b : Nat} (hd : iv_nd N μ) (sq : iv_sq μ) (F : fmi_ cf_ μ w) (G : Gd_ N t μ S) (Fr : Fr_ t S μ w) (hw : w.1 21 0 4 = nI S) (hm : ∀ p, p < 1024 → w.1 25 0 p = Int32.ofInt (ms_ (df_ μ t) S p)) (hb : b < 7) (hbt : S.testBit b = true) (hP : ∀ v, fmi_ kq_ w v → v.1 21 0 4 = nI (wo_ S b) → (∀ p, p < 1024 → v.1 25 0 p = Int32.ofInt (ms_ (df_ μ t) (wo_ S b) p)) → Po v) : pX1_leaveOut Po w (nI b) := by
  unfold pX1_leaveOut
  intro m1 e1
  rw [hw, ba_ S G.1 b hb] at e1
  have F1 : fmi_ kq_ w m1 := by rw [e1]; exact fmi_.rf.I (Or.inr ⟨rfl, rfl⟩)
  refine lp_up 1024 (fun i x => x.2 = (nI b, nI i) ∧ fmi_ kq_ w x.1 ∧ x.1.1 21 0 4 = nI (wo_ S b) ∧ (∀ p, p < i → x.1.1 25 0 p = Int32.ofInt (ms_ (df_ μ t) (wo_ S b) p)) ∧ ∀ p, i ≤ p → p < 1024 → x.1.1 25 0 p = Int32.ofInt (ms_ (df_ μ t) S p)) ?_ 0 (by omega) _ ?_
  rotate_left
  · refine ⟨rfl, F1, ?_, fun p hp => absurd hp (Nat.not_lt_zero p), fun p _ hp => ?_⟩
    · show m1.1 21 0 4 = _
      rw [e1, mm_Ir]; simp
    · show m1.1 25 0 p = _
      rw [e1, mm_Ir, if_neg (by omega)]
      exact hm p hp
  rintro i ⟨u, x1, x2⟩ hi ⟨k1, k2, k3, k4, k5⟩ K hK
  cases k1
  unfold pX1_leaveOut_l16
  rcases Nat.eq_or_lt_of_le hi with e | hlt
  · subst e
    exact (iT (show (1024 : Int32) ≤ nI 1024 by decide)).mpr (hP u k2 k3 k4)
  · refine (iF (show ¬ nI 1024 ≤ nI i from nI_ge hlt (by omega))).mpr ⟨vp_in_nI hlt (by omega), ?_⟩
    obtain ⟨n1, n2⟩ := nI32 hlt
    show pX1_misfitBy _ u (nI b) (nI i - nI i / 32 * 32) (nI i / 32)
    rw [n1, n2]
    have Fu : fmi_ cf_ μ u := F.tr ⟨fun a b c q => k2.1 a b c (fun z => q (by unfold kq_ at z; unfold cf_; omega)), k2.2⟩
    have Fru : Fr_ t S μ u := by
      intro j hj q
      rw [k2.1 22 0 j (by unfold kq_; omega), k2.1 23 0 j (by unfold kq_; omega), k2.1 24 0 j (by unfold kq_; omega)]
      exact Fr j hj q
    refine c_mfBy hd sq Fu G Fru hlt hb hbt ⟨vp_in_nI hlt (by omega), ?_⟩
    intro m6 e6
    have e6 : m6 = mm_I u 25 0 (nI i).toNatClampNeg (u.1 25 0 (nI i).toNatClampNeg - Int32.ofInt (df_ μ t i b)) := e6
    rw [nI_clamp (by omega)] at e6
    have k5i : u.1 25 0 i = Int32.ofInt (ms_ (df_ μ t) S i) := k5 i (Nat.le_refl _) hlt
    rw [k5i, ← Int32.ofInt_sub, ← ms_w G.1 hb hbt] at e6
    refine hK hlt _ ⟨by rw [← nI_1], ?_, ?_, fun p hp => ?_, fun p h1 h2 => ?_⟩
    · rw [e6]; exact k2.I (Or.inl rfl)
    · show m6.1 21 0 4 = _
      rw [e6, mm_Ir, if_neg (by omega)]; exact k3
    · show m6.1 25 0 p = _
      rw [e6, mm_Ir]
      by_cases e : p = i
      · rw [if_pos ⟨rfl, rfl, e⟩, e]
      · rw [if_neg (fun q => e q.2.2)]
        exact k4 p (by omega)
    · show m6.1 25 0 p = _
      rw [e6, mm_Ir, if_neg (by omega)]
      exact k5 p (by omega) h2
/-- the placing of tag t, written -/
def pw5 (w : mm_T) (t : Nat) (a b c d e : Int32) : mm_T := mm_I (mm_I (mm_I (mm_I (mm_I w 10 t 1 a) 10 t 2 b) 10 t 3 c) 10 t 4 d) 10 t 5 e
theorem c_settle {Po : mm_T → Prop} {lm : Nat} (hd : iv_nd N μ) (sq : iv_sq μ) (F : fmi_ cf_ μ w) (G : Gd_ N t μ R) (Fr : Fr_ t R μ w) (hw : w.1 21 0 4 = nI R) (ht : t < 7) (hlm : lm ≤ 9999) (hP : ∀ v, fmi_ cf_ μ v → Po (pw5 v t (nI (ft_ (df_ μ t) (lf_ (df_ μ t) lm 7 R) % 32)) (nI (ft_ (df_ μ t) (lf_ (df_ μ t) lm 7 R) / 32)) (Int32.ofInt (lb_ (df_ μ t) (lf_ (df_ μ t) lm 7 R))) (nI (lf_ (df_ μ t) lm 7 R)) (nI R &&& (nI (lf_ (df_ μ t) lm 7 R) ^^^ (-1 : Int32))))) : pX1_settle Po w (nI lm) t := by
  unfold pX1_settle
  refine ⟨ht, ?_⟩
  intro x1 e1
  rw [hw] at e1
  subst e1
  /- all misfits -/
  refine lp_up 1024 (fun i x => x.2 = (nI lm, t, nI R, nI i) ∧ fmi_ cf_ μ x.1 ∧ Fr_ t R μ x.1 ∧ x.1.1 21 0 4 = nI R ∧ ∀ p, p < i → x.1.1 25 0 p = Int32.ofInt (ms_ (df_ μ t) R p)) ?_ 0 (by omega) _ ?_
  rotate_left
  · exact ⟨rfl, F, Fr, hw, fun p hp => absurd hp (Nat.not_lt_zero p)⟩
  rintro i ⟨u, y1, y2, y3, y4⟩ hi ⟨k1, k2, k3, k4, k5⟩ K hK
  cases k1
  unfold pX1_settle_l8
  rcases Nat.eq_or_lt_of_le hi with e | hlt
  rotate_left
  · refine (iF (show ¬ nI 1024 ≤ nI i from nI_ge hlt (by omega))).mpr ?_
    obtain ⟨n1, n2⟩ := nI32 hlt
    show pX1_misfitAt _ u (nI i - nI i / 32 * 32) (nI i / 32)
    rw [n1, n2]
    refine c_misfitAt hd sq k2 G k3 k4 hlt ⟨vp_in_nI hlt (by omega), ?_⟩
    intro m e
    have e : m = mm_I u 25 0 (nI i).toNatClampNeg (Int32.ofInt (ms_ (df_ μ t) R i)) := e
    rw [nI_clamp (by omega)] at e
    refine hK hlt _ ⟨by rw [← nI_1], ?_, fun j hj q => ?_, ?_, fun p hp => ?_⟩
    · rw [e]; exact k2.I (by unfold cf_; omega)
    · show m.1 22 0 j = _ ∧ m.1 23 0 j = _ ∧ m.1 24 0 j = _
      rw [e, mm_Ir, if_neg (by omega), mm_Ir, if_neg (by omega), mm_Ir, if_neg (by omega)]
      exact k3 j hj q
    · show m.1 21 0 4 = _
      rw [e, mm_Ir, if_neg (by omega)]; exact k4
    · show m.1 25 0 p = _
      rw [e, mm_Ir]
      by_cases q : p = i
      · rw [if_pos ⟨rfl, rfl, q⟩, q]
      · rw [if_neg (fun z => q z.2.2)]
        exact k5 p (by omega)
  subst e
  refine (iT (show (1024 : Int32) ≤ nI 1024 by decide)).mpr ?_
  clear hK K hi
  have B : ∀ S, Gd_ N t μ S → ∀ p, p < 1024 → -2147483648 ≤ ms_ (df_ μ t) S p ∧ ms_ (df_ μ t) S p < 2147483648 := fun S GS p hp => by
    have := ms_b hd GS hp
    omega
  refine c_leastPlace (g := fun p => ms_ (df_ μ t) R p) (fun p hp => ⟨k5 p hp, B R G p hp⟩) ?_
  refine lp_up 7 (fun i x => ∃ S, x.2 = (nI lm, t, nI R, nI (ft_ (df_ μ t) S), nI i) ∧ fmi_ cf_ μ x.1 ∧ Fr_ t R μ x.1 ∧ x.1.1 21 0 4 = nI S ∧ (∀ p, p < 1024 → x.1.1 25 0 p = Int32.ofInt (ms_ (df_ μ t) S p)) ∧ Gd_ N t μ S ∧ Sub_ S R ∧ lf_ (df_ μ t) lm 7 R = lf_ (df_ μ t) lm (7 - i) S) ?_ 0 (by omega) _ ?_
  rotate_left
  · exact ⟨R, rfl, k2, k3, k4, k5, G, fun j _ q => q, rfl⟩
  rintro i ⟨v, y1, y2, y3, y4, y5⟩ hi ⟨S, l1, l2, l3, l4, l5, l6, l7, l8⟩ K hK
  cases l1
  unfold pX1_settle_l54
  have hft := ft_lt (df_ μ t) S
  have lb := lb_b hd l6
  have stop : lf_ (df_ μ t) lm 7 R = S → (t < 7 ∧ ∀ μ5, μ5 = mm_I v 10 t 1 (nI (ft_ (df_ μ t) S) - nI (ft_ (df_ μ t) S) / 32 * 32) → ∀ μ6, μ6 = mm_I μ5 10 t 2 (nI (ft_ (df_ μ t) S) / 32) → vp_in (nI (ft_ (df_ μ t) S)) 1024 ∧ ∀ μ8, μ8 = mm_I μ6 10 t 3 (μ6.1 25 0 (nI (ft_ (df_ μ t) S)).toNatClampNeg) → ∀ μ9, μ9 = mm_I μ8 10 t 4 (μ8.1 21 0 4) → ∀ μ10, μ10 = mm_I μ9 10 t 5 (nI R &&& ((μ9.1 21 0 4) ^^^ (-1 : Int32))) → Po μ10) := by
    intro es
    refine ⟨ht, ?_⟩
    intro m5 e5 m6 e6
    refine ⟨vp_in_nI hft (by omega), ?_⟩
    intro m8 e8 m9 e9 m10 e10
    obtain ⟨n1, n2⟩ := nI32 hft
    rw [n1] at e5
    rw [n2] at e6
    have l5f : v.1 25 0 (ft_ (df_ μ t) S) = Int32.ofInt (lb_ (df_ μ t) S) := l5 _ hft
    have l4 : v.1 21 0 4 = nI S := l4
    have g8 : m6.1 25 0 (nI (ft_ (df_ μ t) S)).toNatClampNeg = Int32.ofInt (lb_ (df_ μ t) S) := by
      rw [nI_clamp (by omega), ← l5f, e6, e5]
      simp [mm_Ir]
    rw [g8] at e8
    have g9 : m8.1 21 0 4 = nI S := by
      rw [← l4, e8, e6, e5]
      simp [mm_Ir]
    rw [g9] at e9
    have g10 : m9.1 21 0 4 = nI S := by
      rw [← l4, e9, e8, e6, e5]
      simp [mm_Ir]
    rw [g10] at e10
    have := hP v l2
    rw [es] at this
    rw [e10, e9, e8, e6, e5]
    exact this
  rcases Nat.eq_or_lt_of_le hi with e | hlt
  · subst e
    exact (iT (show (7 : Int32) ≤ nI 7 by decide)).mpr (stop l8)
  · refine (iF (show ¬ nI 7 ≤ nI i from nI_ge hlt (by omega))).mpr ?_
    show pJ6_bitCount_0f7a4 _ v (v.1 21 0 4)
    have l4 : v.1 21 0 4 = nI S := l4
    rw [l4]
    refine r_bits ?_
    rw [bcn S l6.1]
    have c7 := bn7 S l6.1
    obtain ⟨n, hn⟩ : ∃ n, 7 - i = n + 1 := ⟨7 - i - 1, by omega⟩
    rw [hn] at l8
    have stay : ¬ (3 < cn_ S 7 ∧ (lm : Int) < lb_ (df_ μ t) S) → lf_ (df_ μ t) lm 7 R = S := by
      intro q
      rw [l8]
      unfold lf_
      rw [if_neg q]
    by_cases b3 : cn_ S 7 ≤ 3
    · exact (iT (show nI (cn_ S 7) ≤ nI 3 from nI_le b3 (by omega))).mpr (stop (stay (by omega)))
    · refine (iF (show ¬ nI (cn_ S 7) ≤ nI 3 from nI_ge (by omega) (by omega))).mpr ⟨vp_in_nI hft (by omega), ?_⟩
      show ((v.1 25 0 (nI (ft_ (df_ μ t) S)).toNatClampNeg) ≤ nI lm → _) ∧ _
      have l5f : v.1 25 0 (ft_ (df_ μ t) S) = Int32.ofInt (lb_ (df_ μ t) S) := l5 _ hft
      rw [nI_clamp (by omega), l5f, oI_n lm, oI_le lb.1 lb.2.1 (by omega) (by omega)]
      by_cases bl : lb_ (df_ μ t) S ≤ (lm : Int)
      · exact (iT bl).mpr (stop (stay (by omega)))
      · refine (iF bl).mpr ?_
        obtain ⟨b0, hb0, hbt⟩ := b3n S l6.1 (by omega)
        obtain ⟨b, hb⟩ := wf_e (d := df_ μ t) (S := S) 7 ⟨b0, hb0, hbt⟩
        have hbs := wf_s 7 b hb
        have FrS : Fr_ t S μ v := fun j hj q => l3 j hj (l7 j hj q)
        refine c_worst hd sq l2 l6 FrS l4 l5 hb (c_leave hd sq l2 l6 FrS l4 l5 hbs.1 hbs.2 ?_)
        intro z z1 z2 z3
        have Gw := Gd_w (b := b) l6 hbs.1
        refine c_leastPlace (g := fun p => ms_ (df_ μ t) (wo_ S b) p) (fun p hp => ⟨z3 p hp, B _ Gw p hp⟩) ?_
        refine hK hlt _ ⟨wo_ S b, ?_, ?_, fun j hj q => ?_, z2, z3, Gw, Sub_w l7 l6.1 hbs.1, ?_⟩
        · show (Int32.ofInt (lm : Int), t, nI R, nI (ft_ (df_ μ t) (wo_ S b)), nI i + 1) = _
          rw [nI_1, oI_n lm]
        · exact l2.tr ⟨fun a b c q => z1.1 a b c (fun z => q (by unfold kq_ at z; unfold cf_; omega)), z1.2⟩
        · show z.1 22 0 j = _ ∧ z.1 23 0 j = _ ∧ z.1 24 0 j = _
          rw [z1.1 22 0 j (by unfold kq_; omega), z1.1 23 0 j (by unfold kq_; omega), z1.1 24 0 j (by unfold kq_; omega)]
          exact l3 j hj q
        · rw [l8, show 7 - (i + 1) = n by omega]
          conv => lhs; unfold lf_
          rw [if_pos ⟨by omega, by omega⟩, hb]
end CS
/-- what may change while a tag is placed -/
def cp_ (a _c : Nat) : Prop := (21 ≤ a ∧ a ≤ 25) ∨ a = 10
/-- what is told of where tag t is -/
def pv_ (μ : mm_T) (N t w : Nat) : Int32 := if w = 0 then nI (ft_ (df_ μ t) (lt_ μ N t) % 32) else if w = 1 then nI (ft_ (df_ μ t) (lt_ μ N t) / 32) else if w = 2 then Int32.ofInt (lb_ (df_ μ t) (lt_ μ N t)) else if w = 3 then nI (lt_ μ N t) else nI (ra_ μ N t) &&& (nI (lt_ μ N t) ^^^ (-1 : Int32))
section PL
variable {μ : mm_T} {N t k : Nat}
theorem cp_pv {m : mm_T} (h : fmi_ cp_ μ m) : (∀ t, df_ m t = df_ μ t) ∧ (∀ N t, ra_ m N t = ra_ μ N t) ∧ (∀ N t, lt_ m N t = lt_ μ N t) ∧ pv_ m = pv_ μ := by
  have e9 : ∀ i c, m.1 9 i c = μ.1 9 i c := fun i c => h.1 9 i c (by unfold cp_; omega)
  have e12 : ∀ i c, m.1 12 i c = μ.1 12 i c := fun i c => h.1 12 i c (by unfold cp_; omega)
  have e6 : m.1 6 0 4 = μ.1 6 0 4 := h.1 6 0 4 (by unfold cp_; omega)
  have a1 : ∀ t, df_ m t = df_ μ t := by
    intro t
    funext p j
    simp only [df_, nx_, ny_, e9, e12]
  have a2 : ∀ N t, ra_ m N t = ra_ μ N t := by
    intro N t
    simp only [ra_, e12]
  have a3 : ∀ N t, lt_ m N t = lt_ μ N t := by
    intro N t
    simp only [lt_, a1, a2, e6]
  refine ⟨a1, a2, a3, ?_⟩
  funext N t w
  simp only [pv_, a1, a2, a3]
theorem c_placing {Po : Nat → mm_T → Prop} (I : Iv_ N k μ) (ht : t < N) (hti : is_t μ t) (hP : ∀ m, fmi_ cp_ μ m → iv_pl N m → (∀ w, w < 5 → m.1 10 t (w + 1) = pv_ μ N t w) → Po t m) : pX0_placingOf Po μ (nI t) := by
  obtain ⟨hp, h7, hk, sq, hN, hM, la, f1, f2, f3, f4, f5, f6, f7, f8⟩ := I
  unfold pX0_placingOf
  rw [nI_clamp (show t < 2 ^ 31 by omega)]
  refine ⟨vp_in_nI (by omega) (by omega), ?_⟩
  rcases f8 t ht hti with q | ⟨q, q1, q2, q3, q4, q5⟩
  · refine (jT q).mpr (c_fitting hN h7 ht hti f6 ?_)
    intro w F Fr hw
    refine ⟨rfl, ?_⟩
    obtain ⟨Gr, -⟩ := Gd_ra (k := k) h7 ht hti f6
    obtain ⟨-, lm, lm1, lm2, lm3⟩ := f5
    have w64 : w.1 6 0 4 = nI lm := (F.1 6 0 4 (by unfold cf_; omega)).trans lm2
    have hlt : lt_ μ N t = lf_ (df_ μ t) lm 7 (ra_ μ N t) := by
      unfold lt_
      rw [lm2, nI_toInt (by omega)]
    rw [w64]
    refine c_settle f1 sq F Gr Fr hw (by omega) lm1 ?_
    intro v Fv
    rw [← hlt]
    intro m5 e5
    have Fm : fmi_ cp_ μ m5 := by
      rw [e5]
      unfold pw5
      have Fv' : fmi_ cp_ μ v := ⟨fun a b c q => Fv.1 a b c (fun z => q (by unfold cf_ at z; unfold cp_; omega)), Fv.2⟩
      refine fmi_.I (fmi_.I (fmi_.I (fmi_.I (fmi_.I (fmi_.I Fv' ?_) ?_) ?_) ?_) ?_) ?_
      all_goals (unfold cp_; omega)
    obtain ⟨a1, a2, a3, a4⟩ := cp_pv Fm
    have vals : m5.1 10 t 0 = 1 ∧ m5.1 10 t 1 = nI (ft_ (df_ μ t) (lt_ μ N t) % 32) ∧ m5.1 10 t 2 = nI (ft_ (df_ μ t) (lt_ μ N t) / 32) ∧ m5.1 10 t 3 = Int32.ofInt (lb_ (df_ μ t) (lt_ μ N t)) ∧ m5.1 10 t 4 = nI (lt_ μ N t) ∧ m5.1 10 t 5 = nI (ra_ μ N t) &&& (nI (lt_ μ N t) ^^^ (-1 : Int32)) := by
      rw [e5]
      unfold pw5
      simp [mm_Ir]
    have lbT : (Int32.ofInt (lb_ (df_ μ t) (lt_ μ N t))).toInt = lb_ (df_ μ t) (lt_ μ N t) := by
      have Gl : Gd_ N t μ (lt_ μ N t) := by
        rw [hlt]
        have : ∀ n S, Gd_ N t μ S → Gd_ N t μ (lf_ (df_ μ t) lm n S) := by
          intro n
          induction n with
          | zero => intro S G; exact G
          | succ n ih =>
            intro S G
            unfold lf_
            split
            · cases hb : wf_ (df_ μ t) S 7 with
              | none => exact G
              | some b => exact ih _ (Gd_w G (wf_s 7 b hb).1)
            · exact G
        exact this 7 _ Gr
      have := lb_b f1 Gl
      exact oI_T this.1 this.2.1
    refine hP m5 Fm (fun i hi hii => ?_) (fun w hw => ?_)
    · by_cases e : i = t
      · subst e
        refine Or.inr ⟨vals.1, ?_⟩
        rw [a1, a2, a3]
        refine ⟨vals.2.1, vals.2.2.1, ?_, vals.2.2.2.2.1, vals.2.2.2.2.2⟩
        rw [vals.2.2.2.1]
        exact lbT
      · have hii : is_t μ i := by
          unfold is_t at hii ⊢
          rw [← Fm.1 9 i 0 (by unfold cp_; omega)]
          exact hii
        have o10 : ∀ c, m5.1 10 i c = μ.1 10 i c := by
          intro c
          rw [e5]
          unfold pw5
          simp [mm_Ir, e]
          exact Fv.1 10 i c (by unfold cf_; omega)
        refine pl_1 h7 (fun j _ => Fm.1 12 _ 3 (by unfold cp_; omega)) (fun j _ => Fm.1 12 _ 4 (by unfold cp_; omega)) (fun j => Fm.1 9 j 1 (by unfold cp_; omega)) (fun j => Fm.1 9 j 2 (by unfold cp_; omega)) (Fm.1 6 0 4 (by unfold cp_; omega)) o10 (f8 i hi hii)
    · rcases (show w = 0 ∨ w = 1 ∨ w = 2 ∨ w = 3 ∨ w = 4 by omega) with rfl | rfl | rfl | rfl | rfl
      · exact vals.2.1
      · exact vals.2.2.1
      · exact vals.2.2.2.1
      · exact vals.2.2.2.2.1
      · exact vals.2.2.2.2.2
  · refine (jF (by rw [q]; decide)).mpr (hP μ fmi_.rf f8 (fun w hw => ?_))
    rcases (show w = 0 ∨ w = 1 ∨ w = 2 ∨ w = 3 ∨ w = 4 by omega) with rfl | rfl | rfl | rfl | rfl
    · exact q1
    · exact q2
    · have : μ.1 10 t 3 = Int32.ofInt (lb_ (df_ μ t) (lt_ μ N t)) := by rw [← q3]; exact oI_t _
      exact this
    · exact q4
    · exact q5
theorem m_placed {Po : Int32 → mm_T → Prop} {w : Nat} (I : Iv_ N k μ) (ht : t < N) (hti : is_t μ t) (hw : w < 5) (hP : Po (pv_ μ N t w) μ) : pX11_placedNow Po μ (nI t) (nI w) := by
  obtain ⟨hp, h7, hk, sq, hN, hM, la, f1, f2, f3, f4, f5, f6, f7, f8⟩ := I
  unfold pX11_placedNow
  refine m_left f1 h7 hM ht hti f6 f5 ?_
  intro Gl
  refine m_fitBy f1 h7 hM (by omega) Gl ?_
  have hl := ft_lt (df_ μ t) (lt_ μ N t)
  obtain ⟨n1, n2⟩ := nI32 hl
  rw [n1, n2]
  rcases (show w = 0 ∨ w = 1 ∨ w = 2 ∨ w = 3 ∨ w = 4 by omega) with rfl | rfl | rfl | rfl | rfl
  · refine ⟨fun _ => hP, fun q => absurd q (by decide), fun q => absurd q (by decide), fun q => absurd q (by decide), fun q => absurd rfl q⟩
  · refine ⟨fun q => absurd q (by decide), fun _ => hP, fun q => absurd q (by decide), fun q => absurd q (by decide), fun _ q => absurd rfl q⟩
  · refine ⟨fun q => absurd q (by decide), fun q => absurd q (by decide), fun _ => m_misfitBy f1 h7 hM (by omega) Gl hl hP, fun q => absurd q (by decide), fun _ _ q => absurd rfl q⟩
  · refine ⟨fun q => absurd q (by decide), fun q => absurd q (by decide), fun q => absurd q (by decide), fun _ => hP, fun _ _ _ q => absurd rfl q⟩
  · refine ⟨fun q => absurd q (by decide), fun q => absurd q (by decide), fun q => absurd q (by decide), fun q => absurd q (by decide), fun _ _ _ _ => m_ranged f1 h7 hM ht hti f6 hP⟩
/-- whether a node is placed -/
def pd_ (μ : mm_T) (N i : Nat) : Nat := if 3 ≤ rc_ (fun j => μ.1 12 (7 * i + j) 3) N then 1 else 0
theorem c_isPlaced {Po : Int32 → mm_T → Prop} {i : Nat} (I : Iv_ N k μ) (hi : i < N) (hP : Po (nI (pd_ μ N i)) μ) : pX0_isPlaced Po μ (nI i) := by
  obtain ⟨hp, h7, hk, sq, hN, hM, la, f1, f2, f3, f4, f5, f6, f7, f8⟩ := I
  have rcb : ∀ n, rc_ (fun j => μ.1 12 (7 * i + j) 3) n ≤ n := by
    intro n
    induction n with
    | zero => exact Nat.le_refl 0
    | succ n ih => unfold rc_; split <;> omega
  unfold pX0_isPlaced
  refine lp_up N (fun j x => x = (μ, nI i, nI (rc_ (fun j => μ.1 12 (7 * i + j) 3) j), nI j)) ?_ 0 (by omega) _ rfl
  intro j x hj hI K hK
  subst hI
  unfold pX0_isPlaced_l4
  rw [hN]
  have bj := rcb j
  rcases Nat.eq_or_lt_of_le hj with e | hlt
  · refine (iT (show nI N ≤ nI j by rw [e]; exact Int32.le_refl _)).mpr ?_
    show (nI (rc_ (fun j => μ.1 12 (7 * i + j) 3) j) < 3 → _) ∧ _
    rw [e]
    rw [e] at bj
    unfold pd_ at hP
    by_cases q : 3 ≤ rc_ (fun j => μ.1 12 (7 * i + j) 3) N
    · rw [if_pos q] at hP
      exact (iF (show ¬ _ < nI 3 from nI_nlt q (by omega))).mpr hP
    · rw [if_neg q] at hP
      exact (iT (show _ < nI 3 from nI_lt (by omega) (by omega))).mpr hP
  · refine (iF (nI_ge hlt (by omega))).mpr ((q_link (by omega) (by omega)).mpr ⟨by omega, ?_⟩)
    have hs : rc_ (fun j => μ.1 12 (7 * i + j) 3) (j + 1) = rc_ (fun j => μ.1 12 (7 * i + j) 3) j + (if μ.1 12 (7 * i + j) 3 = 1 then 1 else 0) := rfl
    rcases (f6 (7 * i + j) (by omega)).2 with ⟨z, -⟩ | ⟨z, -⟩
    · refine (iT z).mpr (hK hlt _ ?_)
      show (μ, nI i, nI (rc_ (fun j => μ.1 12 (7 * i + j) 3) j), nI j + 1) = _
      rw [hs, if_neg (by rw [z]; decide), nI_1]
      rfl
    · refine (iF (by rw [z]; decide)).mpr (hK hlt _ ?_)
      show (μ, nI i, nI (rc_ (fun j => μ.1 12 (7 * i + j) 3) j) + 1, nI j + 1) = _
      rw [hs, if_pos z, nI_1, nI_1]
theorem m_isPlaced {Po : Int32 → mm_T → Prop} (I : Iv_ N k μ) (ht : t < N) (hti : is_t μ t) (hP : Po (nI (pd_ μ N t)) μ) : pX11_isPlaced Po μ (nI t) := by
  obtain ⟨hp, h7, hk, sq, hN, hM, la, f1, f2, f3, f4, f5, f6, f7, f8⟩ := I
  obtain ⟨Gr, -⟩ := Gd_ra (k := k) h7 ht hti f6
  unfold pX11_isPlaced
  refine m_ranged f1 h7 hM ht hti f6 (m_many Gr.1 ?_)
  have e : cn_ (ra_ μ N t) 7 = rc_ (fun j => μ.1 12 (7 * t + j) 3) N := cn_rc _ N h7
  have b7 := bn7 _ Gr.1
  rw [e] at b7 ⊢
  unfold pd_ at hP
  by_cases q : 3 ≤ rc_ (fun j => μ.1 12 (7 * t + j) 3) N
  · rw [if_pos q] at hP
    exact (iF (show ¬ _ ≤ nI 2 from nI_ge (by omega) (by omega))).mpr hP
  · rw [if_neg q] at hP
    exact (iT (show _ ≤ nI 2 from nI_le (by omega) (by omega))).mpr hP
theorem pd_a {i : Nat} (I : Iv_ N k μ) (hi : i < N) (ha : is_a μ i) : pd_ μ N i = 0 := by
  obtain ⟨hp, h7, hk, sq, hN, hM, la, f1, f2, f3, f4, f5, f6, f7, f8⟩ := I
  have z : ∀ n, n ≤ N → rc_ (fun j => μ.1 12 (7 * i + j) 3) n = 0 := by
    intro n
    induction n with
    | zero => intro _; rfl
    | succ n ih =>
      intro hn
      unfold rc_
      rw [ih (by omega)]
      rcases (f6 (7 * i + n) (by omega)).2 with ⟨z, -⟩ | ⟨-, -, -, -, -, t', a', b1, b2, b3, b4, b5⟩
      · rw [if_neg (by rw [z]; decide)]
      · have : i = t' := by omega
        subst this
        rw [is_t, show μ.1 9 i 0 = 0 from ha] at b3
        exact absurd b3 (by decide)
  unfold pd_
  rw [z N (Nat.le_refl _)]
  rfl
end PL
