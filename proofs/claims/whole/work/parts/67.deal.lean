/-! deal -/
def pw_ (per : Nat) : Prop := per = 1 ∨ per = 2 ∨ per = 4 ∨ per = 8 ∨ per = 16
/-- whether the slots at o, o + per, .. are free -/
def fb_ (own : Nat → Int32) (per o : Nat) : Bool := (List.range 16).all (fun s => decide (s % per = o → own s = -1))
theorem fb_t {own : Nat → Int32} {per o : Nat} : fb_ own per o = true ↔ ∀ s, s < 16 → s % per = o → own s = -1 := by
  unfold fb_
  rw [List.all_eq_true]
  simp only [List.mem_range, decide_eq_true_eq]
theorem fb_f {own : Nat → Int32} {per o s : Nat} (h1 : s < 16) (h2 : s % per = o) (h3 : ¬ own s = -1) : fb_ own per o = false := by
  cases h : fb_ own per o with
  | false => rfl
  | true => exact absurd (fb_t.mp h s h1 h2) h3
def ff_ (own : Nat → Int32) (per : Nat) : Nat → Nat → Option Nat
  | 0, _ => none
  | n + 1, o => if fb_ own per o then some o else ff_ own per n (o + 1)
theorem ff_s {own : Nat → Int32} {per n o : Nat} : ff_ own per (n + 1) o = if fb_ own per o then some o else ff_ own per n (o + 1) := rfl
def gv_ (own : Nat → Int32) (per t : Nat) : (Nat → Int32) × Nat := match ff_ own per per 0 with
  | none => (own, 0)
  | some o => (fun s => if s % per = o then nI t else own s, 1)
def dv_ (pr : Nat → Int32) (per : Nat) (Z : (Nat → Int32) × Nat) : Nat → (Nat → Int32) × Nat
  | 0 => Z
  | i + 1 => if pr i = nI per then ((gv_ (dv_ pr per Z i).1 per i).1, (dv_ pr per Z i).2 + (gv_ (dv_ pr per Z i).1 per i).2) else dv_ pr per Z i
def dz_ (pr : Nat → Int32) (N : Nat) : Nat → (Nat → Int32) × Nat
  | 0 => (fun _ => -1, 0)
  | p + 1 => dv_ pr (2 ^ p) (dz_ pr N p) N
theorem mx_ {per : Nat} (h : pw_ per) : (if (1 : Int32) < nI per then nI per else (1 : Int32)) = nI per := by
  rcases h with rfl | rfl | rfl | rfl | rfl <;> decide
/-- families 18 and 41 apart -/
def d18 (a _c : Nat) : Prop := a = 18
def d41 (a _c : Nat) : Prop := a = 41
section DL
variable {Po : Int32 → mm_T → Prop} {μ : mm_T} {per o t N : Nat} {own : Nat → Int32}
theorem c_free (hp : pw_ per) (ho : o < per) (hw : ∀ s, s < 16 → μ.1 18 0 s = own s) (h : Po (if fb_ own per o then 1 else 0) μ) : pX9_areFree Po μ (nI o) (nI per) := by
  unfold pX9_areFree
  refine lp_up 16 (fun j x => x = (μ, nI per, nI (o + j * per)) ∧ ∀ s, s < o + j * per → s < 16 → s % per = o → own s = -1) ?_ 0 (by omega) _ ⟨by rw [Nat.zero_mul, Nat.add_zero], fun s h1 h2 h3 => ?_⟩
  · intro j x hj hI K hK
    obtain ⟨rfl, hI⟩ := hI
    unfold pX9_areFree_l2
    have hb : o + j * per < 2 ^ 20 := by rcases hp with rfl | rfl | rfl | rfl | rfl <;> omega
    rcases Nat.lt_or_ge (o + j * per) 16 with b | b
    · refine (iF (show ¬ nI 16 ≤ nI (o + j * per) from nI_ge b (by omega))).mpr ⟨vp_in_nI b (by omega), ?_⟩
      rw [nI_clamp (by omega), hw _ b]
      by_cases e : own (o + j * per) = -1
      · refine (iT e).mpr ?_
        intro x2 e2
        rw [mx_ hp, nI_add] at e2
        refine hK (by rcases hp with rfl | rfl | rfl | rfl | rfl <;> omega) _ ⟨by rw [e2, Nat.succ_mul, Nat.add_assoc], fun s h1 h2 h3 => ?_⟩
        by_cases e3 : s = o + j * per
        · rw [e3]; exact e
        · refine hI s ?_ h2 h3
          rcases hp with rfl | rfl | rfl | rfl | rfl <;> omega
      · refine (iF e).mpr ?_
        have : fb_ own per o = false := fb_f b (by rcases hp with rfl | rfl | rfl | rfl | rfl <;> omega) e
        rw [this] at h
        exact h
    · refine (iT (show nI 16 ≤ nI (o + j * per) from nI_le b (by omega))).mpr ?_
      have : fb_ own per o = true := fb_t.mpr (fun s h1 h2 => hI s (by omega) h1 h2)
      rw [this] at h
      exact h
  · rcases hp with rfl | rfl | rfl | rfl | rfl <;> omega
theorem m_free (hp : pw_ per) (ho : o < per) (hw : ∀ s, s < 16 → μ.1 41 0 s = own s) (h : Po (if fb_ own per o then 1 else 0) μ) : pX11_isFree Po μ (nI o) (nI per) := by
  unfold pX11_isFree
  refine lp_up 16 (fun j x => ∃ f : Bool, x = (μ, nI per, (if f then 1 else 0), nI (o + j * per)) ∧ (f = true ↔ ∀ s, s < o + j * per → s < 16 → s % per = o → own s = -1)) ?_ 0 (by omega) _ ⟨true, by rw [Nat.zero_mul, Nat.add_zero]; rfl, fun _ s h1 h2 h3 => ?_, fun _ => rfl⟩
  · intro j x hj hI K hK
    obtain ⟨f, rfl, hI⟩ := hI
    unfold pX11_isFree_l5
    have hb : o + j * per < 2 ^ 20 := by rcases hp with rfl | rfl | rfl | rfl | rfl <;> omega
    rcases Nat.lt_or_ge (o + j * per) 16 with b | b
    · refine (iF (show ¬ nI 16 ≤ nI (o + j * per) from nI_ge b (by omega))).mpr ?_
      have md : (o + j * per) % per = o := by rcases hp with rfl | rfl | rfl | rfl | rfl <;> omega
      have hlt : j < 16 := by rcases hp with rfl | rfl | rfl | rfl | rfl <;> omega
      have sp : ∀ s, s % per = o → s < o + (j + 1) * per → s ≠ o + j * per → s < o + j * per := by
        intro s h3 h1 e3
        rcases hp with rfl | rfl | rfl | rfl | rfl <;> omega
      have nx : nI (o + j * per) + nI per = nI (o + (j + 1) * per) := by rw [nI_add, Nat.succ_mul, Nat.add_assoc]
      have up : o + j * per < o + (j + 1) * per := by rcases hp with rfl | rfl | rfl | rfl | rfl <;> omega
      unfold pX11_isFree_b31 pX11_isFree_b32
      cases f with
      | false =>
        refine (iT rfl).mpr ?_
        intro x1 e1
        have e1 : x1 = nI (o + j * per) + nI per := e1
        rw [nx] at e1
        refine hK hlt _ ⟨false, by rw [e1]; rfl, fun q => absurd q (by decide), fun q => ?_⟩
        exact absurd (hI.mpr (fun s h1 h2 h3 => q s (by omega) h2 h3)) (by decide)
      | true =>
        refine (iF (show ¬ (1 : Int32) = 0 by decide)).mpr ⟨vp_in_nI b (by omega), ?_⟩
        show (¬ (μ.1 41 0 (nI (o + j * per)).toNatClampNeg) = (-1 : Int32) → _) ∧ ((μ.1 41 0 (nI (o + j * per)).toNatClampNeg) = (-1 : Int32) → _)
        rw [nI_clamp (by omega), hw _ b]
        by_cases e : own (o + j * per) = -1
        · refine (jT e).mpr ?_
          intro x1 e1
          have e1 : x1 = nI (o + j * per) + nI per := e1
          rw [nx] at e1
          refine hK hlt _ ⟨true, by rw [e1]; rfl, fun _ s h1 h2 h3 => ?_, fun _ => rfl⟩
          by_cases e3 : s = o + j * per
          · rw [e3]; exact e
          · exact hI.mp rfl s (sp s h3 h1 e3) h2 h3
        · refine (jF e).mpr ?_
          intro x1 e1
          have e1 : x1 = nI (o + j * per) + nI per := e1
          rw [nx] at e1
          refine hK hlt _ ⟨false, by rw [e1]; rfl, fun q => absurd q (by decide), fun q => ?_⟩
          exact absurd (q _ up b md) e
    · refine (iT (show nI 16 ≤ nI (o + j * per) from nI_le b (by omega))).mpr ?_
      cases f with
      | true =>
        have : fb_ own per o = true := fb_t.mpr (fun s h1 h2 => hI.mp rfl s (by omega) h1 h2)
        rw [this] at h
        exact ⟨Or.inr rfl, h⟩
      | false =>
        have : fb_ own per o = false := by
          cases hh : fb_ own per o with
          | false => rfl
          | true => exact absurd (hI.mpr (fun s _ h2 h3 => fb_t.mp hh s h2 h3)) (by decide)
        rw [this] at h
        exact ⟨Or.inl rfl, h⟩
  · rcases hp with rfl | rfl | rfl | rfl | rfl <;> omega
/-- slots from o on, each per, written -/
def wr_ (own : Nat → Int32) (per o t b : Nat) (s : Nat) : Int32 := if s % per = o ∧ s < b then nI t else own s
theorem c_give (hp : pw_ per) (hw : ∀ s, s < 16 → μ.1 18 0 s = own s) (h : ∀ m, fm_ d18 μ m → (∀ s, s < 16 → m.1 18 0 s = (gv_ own per t).1 s) → Po (nI (gv_ own per t).2) m) : pX9_give Po μ (nI t) (nI per) := by
  have hp16 : per ≤ 16 := by rcases hp with rfl | rfl | rfl | rfl | rfl <;> omega
  unfold pX9_give
  refine lp_up per (fun j x => x = (μ, nI t, nI per, nI j) ∧ ff_ own per (per - j) j = ff_ own per per 0) ?_ 0 (by omega) _ ⟨rfl, rfl⟩
  intro j x hj hI K hK
  obtain ⟨rfl, hI⟩ := hI
  unfold pX9_give_l2
  rcases Nat.eq_or_lt_of_le hj with e | hlt
  · refine (iT (show nI per ≤ nI j by rw [e]; exact Int32.le_refl _)).mpr ?_
    rw [e, Nat.sub_self] at hI
    have hI : none = ff_ own per per 0 := hI
    have hg : gv_ own per t = (own, 0) := by unfold gv_; rw [← hI]
    rw [hg] at h
    exact h μ fm_.rf hw
  · refine (iF (nI_ge hlt (by omega))).mpr ((iF (show ¬ nI 16 ≤ nI j from nI_ge (by omega) (by omega))).mpr (c_free hp hlt hw ?_))
    obtain ⟨m, hm⟩ : ∃ m, per - j = m + 1 := ⟨per - j - 1, by omega⟩
    rw [hm, ff_s] at hI
    cases hf : fb_ own per j with
    | false =>
      rw [hf, if_neg (by decide)] at hI
      refine (iT rfl).mpr (hK hlt _ ⟨by rw [nI_1], ?_⟩)
      rw [show per - (j + 1) = m by omega]
      exact hI
    | true =>
      rw [hf, if_pos rfl] at hI
      refine (iF (by decide)).mpr ?_
      have hg : gv_ own per t = (fun s => if s % per = j then nI t else own s, 1) := by unfold gv_; rw [← hI]
      rw [hg] at h
      refine lp_up 16 (fun i x => x.2 = (nI t, nI per, nI (j + i * per)) ∧ fm_ d18 μ x.1 ∧ ∀ s, s < 16 → x.1.1 18 0 s = wr_ own per j t (j + i * per) s) ?_ 0 (by omega) _ ?_
      rotate_left
      · refine ⟨by rw [Nat.zero_mul, Nat.add_zero], fm_.rf, fun s hs => ?_⟩
        unfold wr_
        rw [if_neg, hw s hs]
        rcases hp with rfl | rfl | rfl | rfl | rfl <;> omega
      rintro i ⟨w, y1, y2, y3⟩ hi ⟨k1, k2, k3⟩ K2 hK2
      cases k1
      unfold pX9_give_l25
      have hb : j + i * per < 2 ^ 20 := by rcases hp with rfl | rfl | rfl | rfl | rfl <;> omega
      rcases Nat.lt_or_ge (j + i * per) 16 with b | b
      · refine (iF (show ¬ nI 16 ≤ nI (j + i * per) from nI_ge b (by omega))).mpr ⟨vp_in_nI b (by omega), ?_⟩
        intro m2 e2 x3 e3
        have e3 : x3 = nI (j + i * per) + (if (1 : Int32) < nI per then nI per else (1 : Int32)) := e3
        rw [mx_ hp, nI_add] at e3
        have e2 : m2 = mm_I w 18 0 (nI (j + i * per)).toNatClampNeg (nI t) := e2
        rw [nI_clamp (by omega)] at e2
        refine hK2 (by rcases hp with rfl | rfl | rfl | rfl | rfl <;> omega) _ ⟨by rw [e3, Nat.succ_mul, Nat.add_assoc], by rw [e2]; exact k2.I rfl, fun s hs => ?_⟩
        show m2.1 18 0 s = _
        rw [e2, mm_Ir]
        unfold wr_
        by_cases e : s = j + i * per
        · rw [if_pos ⟨rfl, rfl, e⟩, if_pos]
          rcases hp with rfl | rfl | rfl | rfl | rfl <;> omega
        · rw [if_neg (fun q => e q.2.2)]
          have k3 : w.1 18 0 s = _ := k3 s hs
          rw [k3]
          unfold wr_
          by_cases e5 : s % per = j ∧ s < j + i * per
          · rw [if_pos e5, if_pos]
            rcases hp with rfl | rfl | rfl | rfl | rfl <;> omega
          · rw [if_neg e5, if_neg]
            rcases hp with rfl | rfl | rfl | rfl | rfl <;> omega
      · refine (iT (show nI 16 ≤ nI (j + i * per) from nI_le b (by omega))).mpr (h w k2 (fun s hs => ?_))
        have k3 : w.1 18 0 s = _ := k3 s hs
        rw [k3]
        unfold wr_
        by_cases e5 : s % per = j
        · rw [if_pos ⟨e5, by omega⟩]
          exact (if_pos e5).symm
        · rw [if_neg (fun q => e5 q.1)]
          exact (if_neg e5).symm
end DL
