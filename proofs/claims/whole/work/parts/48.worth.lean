-- PURE, 19: worth, harm, hear
/-- what is attended has changed, and weights -/
def XF (σ σ1 : Mem) : Prop := ∀ k i, ¬ (36 ≤ k ∧ k ≤ 38) → ¬ (k = 35 ∧ i = 4) → σ1 k i = σ k i
theorem XF.id {σ : Mem} : XF σ σ := fun _ _ _ _ => rfl
theorem XF.trans {σ σ1 σ2 : Mem} (h1 : XF σ σ1) (h2 : XF σ1 σ2) : XF σ σ2 := fun k i a b => (h2 k i a b).trans (h1 k i a b)
theorem XF.eqv {A σ σ1 : Mem} (h : XF σ σ1) (hE : Eqv A σ) : Eqv A σ1 := fun k i hl => by
  have n35 := live_x (o := 35) hl rfl
  have n36 := live_x (o := 36) hl rfl
  have n37 := live_x (o := 37) hl rfl
  have n38 := live_x (o := 38) hl rfl
  rw [h k i (by omega) (by omega)]
  exact hE k i hl
theorem BF.xf {n : Nat} {σ σ1 : Mem} (h : BF n σ σ1) : XF σ σ1 := fun k i a _ => h.1 k i (by omega)
theorem sp_B_attend {d : Nat} {σ : Mem} {Q : Int → Mem → Prop} {ls : List Nat} {l : Nat} {c : Int} (hc : chainR σ ls) (hn : ls.length < 3) (hQ : ∀ σ1, XF σ σ1 → chainR σ1 (ls ++ [l]) → (∀ i, i < ls.length → σ1 38 i = σ 38 i) → σ1 38 ls.length = c → Q 0 σ1) : wp (d + 1) m_B_attend [.inr (.inr 35), .inl (l : Int), .inl c] σ Q := by
  have e := hc.1
  refine e_B_attend ⟨fun _ => ?_, fun h => by omega⟩
  simp (discharger := first | decide | omega) only [ms_eq, ms_nk, ms_ni, w32_id, w64_id, Int.toNat_natCast, not_true_eq_false, not_false_eq_true, e]
  refine ⟨⟨by omega, by omega⟩, ⟨by omega, by omega⟩, hQ _ (fun k i a b => ?_) ⟨?_, fun i l2 hi => ?_⟩ (fun i hi => ?_) ?_⟩
  · rw [ms_ne (by omega), ms_ne (by omega), ms_ne (by omega)]
  · simp (discharger := first | decide | omega) only [ms_eq, ms_nk, ms_ni, w32_id, w64_id, Int.toNat_natCast, not_true_eq_false, not_false_eq_true]
    rw [List.length_append]
    rfl
  · simp (discharger := first | decide | omega) only [ms_eq, ms_nk, ms_ni, w32_id, w64_id, Int.toNat_natCast, not_true_eq_false, not_false_eq_true]
    by_cases e2 : i = ls.length
    · subst e2
      simp at hi
      simp (discharger := first | decide | omega) only [ms_eq, ms_nk, ms_ni, w32_id, w64_id, Int.toNat_natCast, not_true_eq_false, not_false_eq_true]
      rw [hi]
    · rw [ms_ni e2]
      have : i < ls.length := by
        have := (List.getElem?_eq_some_iff.mp hi).1
        simp at this
        omega
      rw [List.getElem?_append_left this] at hi
      exact hc.2 i l2 hi
  · have : i ≠ ls.length := by omega
    simp (discharger := first | decide | omega) only [ms_eq, ms_nk, ms_ni, w32_id, w64_id, Int.toNat_natCast, not_true_eq_false, not_false_eq_true]
  · simp (discharger := first | decide | omega) only [ms_eq, ms_nk, ms_ni, w32_id, w64_id, Int.toNat_natCast, not_true_eq_false, not_false_eq_true]
theorem chain0 {σ : Mem} : chainR (mset σ 35 4 0) [] := ⟨ms_eq, fun i l h => by simp at h⟩
theorem XF.none {σ : Mem} : XF σ (mset σ 35 4 0) := fun k i _ b => ms_ne (by omega)
theorem sp_B_attendNone {d : Nat} {σ : Mem} {Q : Int → Mem → Prop} (hQ : ∀ σ1, XF σ σ1 → chainR σ1 [] → Q 0 σ1) : wp (d + 1) m_B_attendNone [.inr (.inr 35)] σ Q := e_B_attendNone (hQ _ XF.none chain0)
theorem sp_B_attendOnly {d : Nat} {σ : Mem} {Q : Int → Mem → Prop} {l : Nat} (hQ : ∀ σ1, XF σ σ1 → chainR σ1 [l] → Q 0 σ1) : wp (d + 2) m_B_attendOnly [.inr (.inr 35), .inl (l : Int)] σ Q :=
  e_B_attendOnly (sp_B_attend (l := l) chain0 (by decide) (fun σ1 h1 h2 _ _ => hQ σ1 (XF.none.trans h1) h2))
theorem gath_bd1 {ms : Nat → Nat → Int} {A : Mem} (h : SR 7 ms A) (ho : 1 ≤ A 7 2) {j p l : Nat} (hp : isPay p) (hl : (l : Int) < A 7 10) : -3000000000000 ≤ gath A j p [l] (fun t => A 9 t) ∧ gath A j p [l] (fun t => A 9 t) ≤ 3000000000000 := by
  have := gath_bd h ho hp (j := j) (ls := [l]) (n := 0) (w := fun t => A 9 t) (fun x hx => by simp at hx; rw [hx]; exact hl) (by simp) (wB.pr h)
  simp at this
  omega
theorem tot_pos {ms : Nat → Nat → Int} {A : Mem} (h : SR 7 ms A) (ho : 1 ≤ A 7 1) : 1 ≤ A 7 6 := by
  rw [h.tot]
  have : 0 < sumN (tN A) (fun t => A 9 t) := sumN_pos (k := 0) (fun t ht => by have := h.pr (lt_tN ht); omega) (by show 0 < (A 7 1).toNat; omega) (by have := h.pr (t := 0) (by omega); omega)
  omega
theorem fr_far {A : Mem} {g part : Int} (h6 : 1 ≤ A 7 6) : frP (g * 60 ^ 2) (A 7 6 * 216000) part = frP g (60 * A 7 6) part := frP_eq (by omega) (by omega) (by rw [show (60 : Int) ^ 2 = 3600 from rfl, Int.mul_assoc, show (3600 : Int) * (60 * A 7 6) = A 7 6 * 216000 by omega])
theorem one_lk {A : Mem} {l : Nat} (hl : (l : Int) < A 7 10) : lksOK A [l] := fun x hx => by simp at hx; rw [hx]; exact hl
theorem none_lk {A : Mem} : lksOK A [] := fun x hx => by cases hx
theorem sp_M_gotOf2 {d : Nat} {A σ : Mem} {Q : Int → Mem → Prop} (hR : SR 7 (mLive A) A) (ho : 1 ≤ A 7 2) (hE : Eqv A σ) {l wi j p : Nat} {jd wI : Int} (hl : (l : Int) < A 7 10) (hwi : wi ≤ 2) (hwI : wI = (wi : Int)) (hp : p = 10 + wi) (hj : (jd = 0 ∧ j = 10) ∨ (¬ jd = 0 ∧ j = 12)) (hQ : ∀ σ1, MF σ σ1 → Q (gath A j p [l] (fun t => A 9 t)) σ1) : wp (d + 3) m_M_gotOf [.inr (.inr 49), .inl (l : Int), .inl jd, .inl wI] σ Q := by
  subst hp hwI
  exact sp_M_gotOf hR ho hE hl hwi hj hQ
/-- the reference, when a part of a fraction over 60 times all weights is told -/
theorem fin_M {A σ : Mem} (hR : RR A) {g part r : Int} (hp : part = 0 ∨ part = 1) (hE : Eqv A σ) (h6 : 1 ≤ A 7 6) (hg : -1000000000000000 ≤ g ∧ g ≤ 1000000000000000) (hr : r = frP g (60 * A 7 6) part) {d : Nat} : wp (d + 2) m_M_fraction [.inr (.inl g), .inr (.inl (w64 (60 * A 7 6))), .inl part] σ (fun r2 σ2 => PQ r r2 σ2) := by
  have b := tot_bd hR.1
  rw [w64_id (by omega) (by omega)]
  refine sp_M_fr hp (by omega) (by omega) ?_
  rw [hr]
  exact PQ.eqv hR rfl hE
theorem pr_worth {A : Mem} (hR : RR A) {a1 : Int} (i1 : InI a1) {a2 : Int} (i2 : InI a2) {a3 : Int} (i3 : InI a3) : wp 40 m_X_worth [.inr (.inr 0), .inl a1, .inl a2, .inl a3] A (fun r σ1 => wp 40 m_M_worth [.inr (.inr 49), .inl a1, .inl a2, .inl a3] σ1 (fun r2 σ2 => PQ r r2 σ2)) := by
  have sc := hR.sc
  unfold InI at i1 i2 i3
  repeat' first
    | with_reducible refine e_X_worth ?_
    | with_reducible refine e_X_isPart ?_
    | with_reducible refine e_S_lacksLook ?_
    | with_reducible refine e_S_hasLook ?_
    | with_reducible refine xr1 ?_
    | with_reducible refine xr2 ?_
    | with_reducible refine xr3 ?_
    | with_reducible refine xr4 ?_
    | with_reducible refine xr6 ?_
    | with_reducible refine mr1 ?_
    | with_reducible refine mr2 ?_
    | with_reducible refine mr3 ?_
    | with_reducible refine mr4 ?_
    | with_reducible refine mr6 ?_
    | with_reducible refine xf1 ?_
    | with_reducible refine xf2 ?_
    | with_reducible refine xf3 ?_
    | with_reducible refine xf6 ?_
    | with_reducible refine mf1 ?_
    | with_reducible refine mf2 ?_
    | with_reducible refine mf3 ?_
    | with_reducible refine mf6 ?_
    | with_reducible exact isB0
    | with_reducible exact isB1
    | with_reducible refine And.intro ?_ ?_
    | (with_reducible refine fun (hz : (_ : Int) < _) => ?_) <;> ((try simp (discharger := first | decide | omega) only [ms_eq, ms_nk, ms_ni, w32_id, w64_id, Int.toNat_natCast, not_true_eq_false, not_false_eq_true] at hz) ; (try (exfalso; omega)))
    | (with_reducible refine fun (hz : (_ : Int) ≤ _) => ?_) <;> ((try simp (discharger := first | decide | omega) only [ms_eq, ms_nk, ms_ni, w32_id, w64_id, Int.toNat_natCast, not_true_eq_false, not_false_eq_true] at hz) ; (try (exfalso; omega)))
    | (with_reducible refine fun (hz : (_ : Int) = _) => ?_) <;> ((try simp (discharger := first | decide | omega) only [ms_eq, ms_nk, ms_ni, w32_id, w64_id, Int.toNat_natCast, not_true_eq_false, not_false_eq_true] at hz) ; (try (exfalso; omega)))
    | (with_reducible refine fun (hz : ¬ (_ : Int) = _) => ?_) <;> ((try simp (discharger := first | decide | omega) only [ms_eq, ms_nk, ms_ni, w32_id, w64_id, Int.toNat_natCast, not_true_eq_false, not_false_eq_true] at hz) ; (try (exfalso; omega)))
    | (with_reducible refine fun (hz : _ ∨ _) => ?_) <;> ((try simp (discharger := first | decide | omega) only [ms_eq, ms_nk, ms_ni, w32_id, w64_id, Int.toNat_natCast, not_true_eq_false, not_false_eq_true] at hz) ; (try (exfalso; omega)))
    | omega
    | (simp (discharger := first | decide | omega) only [ms_eq, ms_nk, ms_ni, w32_id, w64_id, Int.toNat_natCast, not_true_eq_false, not_false_eq_true] ; omega)
  all_goals first
    | (repeat' first
      | with_reducible refine e_M_worth ?_
      | with_reducible refine e_M_wrongLook ?_
      | with_reducible refine e_M_isPart ?_
      | with_reducible refine e_M_isLook ?_
      | with_reducible refine e_M_in ?_
      | with_reducible refine xr1 ?_
      | with_reducible refine xr2 ?_
      | with_reducible refine xr3 ?_
      | with_reducible refine xr4 ?_
      | with_reducible refine xr6 ?_
      | with_reducible refine mr1 ?_
      | with_reducible refine mr2 ?_
      | with_reducible refine mr3 ?_
      | with_reducible refine mr4 ?_
      | with_reducible refine mr6 ?_
      | with_reducible refine xf1 ?_
      | with_reducible refine xf2 ?_
      | with_reducible refine xf3 ?_
      | with_reducible refine xf6 ?_
      | with_reducible refine mf1 ?_
      | with_reducible refine mf2 ?_
      | with_reducible refine mf3 ?_
      | with_reducible refine mf6 ?_
      | with_reducible exact isB0
      | with_reducible exact isB1
      | with_reducible refine And.intro ?_ ?_
      | (with_reducible refine fun (hz : (_ : Int) < _) => ?_) <;> ((try simp (discharger := first | decide | omega) only [ms_eq, ms_nk, ms_ni, w32_id, w64_id, Int.toNat_natCast, not_true_eq_false, not_false_eq_true] at hz) ; (try (exfalso; omega)))
      | (with_reducible refine fun (hz : (_ : Int) ≤ _) => ?_) <;> ((try simp (discharger := first | decide | omega) only [ms_eq, ms_nk, ms_ni, w32_id, w64_id, Int.toNat_natCast, not_true_eq_false, not_false_eq_true] at hz) ; (try (exfalso; omega)))
      | (with_reducible refine fun (hz : (_ : Int) = _) => ?_) <;> ((try simp (discharger := first | decide | omega) only [ms_eq, ms_nk, ms_ni, w32_id, w64_id, Int.toNat_natCast, not_true_eq_false, not_false_eq_true] at hz) ; (try (exfalso; omega)))
      | (with_reducible refine fun (hz : ¬ (_ : Int) = _) => ?_) <;> ((try simp (discharger := first | decide | omega) only [ms_eq, ms_nk, ms_ni, w32_id, w64_id, Int.toNat_natCast, not_true_eq_false, not_false_eq_true] at hz) ; (try (exfalso; omega)))
      | (with_reducible refine fun (hz : _ ∨ _) => ?_) <;> ((try simp (discharger := first | decide | omega) only [ms_eq, ms_nk, ms_ni, w32_id, w64_id, Int.toNat_natCast, not_true_eq_false, not_false_eq_true] at hz) ; (try (exfalso; omega)))
      | omega
      | (simp (discharger := first | decide | omega) only [ms_eq, ms_nk, ms_ni, w32_id, w64_id, Int.toNat_natCast, not_true_eq_false, not_false_eq_true] ; omega)
       all_goals first
         | exact PQ.rf0 hR (by decide)
         | skip
       done)
    | skip
  all_goals
    obtain ⟨l, rfl⟩ : ∃ k : Nat, a1 = (k : Int) := ⟨a1.toNat, by omega⟩
    have hl : (l : Int) < A 7 10 := by omega
    have h6 := tot_pos hR.1 (by omega)
    have h6b := tot_bd hR.1
    have hp3 : a3 = 0 ∨ a3 = 1 := by omega
    have ho : 1 ≤ A 7 2 := by omega
    have fin : ∀ p : Nat, ∀ σ, (a2 = 0 ∧ p = 11 ∨ ¬ a2 = 0 ∧ p = 10) → XF A σ → chainR σ [l] → wp 39 m_B_brings [.inr (.inr 35), .inr (.inr 10), .inr (.inr p)] σ (fun r21 s22 => wp 39 m_B_unit [.inr (.inr 35)] s22 (fun r23 s24 => wp 39 m_X_tell [.inr (.inl r21), .inr (.inl r23), .inl a3] s24 (fun r25 s26 => wp 40 m_M_worth [.inr (.inr 49), .inl (l : Int), .inl a2, .inl a3] s26 (fun r2 σ2 => PQ r25 r2 σ2)))) := by
      intro p σ hp hF hc
      have hE := hF.eqv Eqv.rfl
      have hip : isPay p := by rcases hp with h | h <;> rw [h.2] <;> simp [isPay]
      refine sp_B_brings hR.1 hE ho (Or.inl rfl) hip (one_lk hl) (by simp) hc (fun σ2 hB => ?_)
      have hE2 := hB.eqv hE
      have bb := brg_bd hR.1 ho hip (j := 10) (one_lk hl) (by simp)
      have b1 := gath_bd1 hR.1 ho (j := 10) hip hl
      refine sp_B_unit hR.1 hE2 (sp_X_tell (by omega) (by omega) ?_)
      have key : frP (brg A 10 p [l]) (A 7 6 * 216000) a3 = frP (gath A 10 p [l] (fun t => A 9 t)) (60 * A 7 6) a3 := fr_far h6
      rw [key]
      have q0 := hE2 49 0 rfl
      have q6 := hE2 49 6 rfl
      repeat' first
        | with_reducible refine e_M_worth ?_
        | with_reducible refine e_M_wrongLook ?_
        | with_reducible refine e_M_isPart ?_
        | with_reducible refine e_M_isLook ?_
        | with_reducible refine e_M_in ?_
        | with_reducible refine xr1 ?_
        | with_reducible refine xr2 ?_
        | with_reducible refine xr3 ?_
        | with_reducible refine xr4 ?_
        | with_reducible refine xr6 ?_
        | with_reducible refine mr1 ?_
        | with_reducible refine mr2 ?_
        | with_reducible refine mr3 ?_
        | with_reducible refine mr4 ?_
        | with_reducible refine mr6 ?_
        | with_reducible refine xf1 ?_
        | with_reducible refine xf2 ?_
        | with_reducible refine xf3 ?_
        | with_reducible refine xf6 ?_
        | with_reducible refine mf1 ?_
        | with_reducible refine mf2 ?_
        | with_reducible refine mf3 ?_
        | with_reducible refine mf6 ?_
        | with_reducible exact isB0
        | with_reducible exact isB1
        | with_reducible refine And.intro ?_ ?_
        | (with_reducible refine fun (hz : (_ : Int) < _) => ?_) <;> ((try simp (discharger := first | decide | omega) only [ms_eq, ms_nk, ms_ni, w32_id, w64_id, Int.toNat_natCast, not_true_eq_false, not_false_eq_true, q0, q6] at hz) ; (try (exfalso; omega)))
        | (with_reducible refine fun (hz : (_ : Int) ≤ _) => ?_) <;> ((try simp (discharger := first | decide | omega) only [ms_eq, ms_nk, ms_ni, w32_id, w64_id, Int.toNat_natCast, not_true_eq_false, not_false_eq_true, q0, q6] at hz) ; (try (exfalso; omega)))
        | (with_reducible refine fun (hz : (_ : Int) = _) => ?_) <;> ((try simp (discharger := first | decide | omega) only [ms_eq, ms_nk, ms_ni, w32_id, w64_id, Int.toNat_natCast, not_true_eq_false, not_false_eq_true, q0, q6] at hz) ; (try (exfalso; omega)))
        | (with_reducible refine fun (hz : ¬ (_ : Int) = _) => ?_) <;> ((try simp (discharger := first | decide | omega) only [ms_eq, ms_nk, ms_ni, w32_id, w64_id, Int.toNat_natCast, not_true_eq_false, not_false_eq_true, q0, q6] at hz) ; (try (exfalso; omega)))
        | (with_reducible refine fun (hz : _ ∨ _) => ?_) <;> ((try simp (discharger := first | decide | omega) only [ms_eq, ms_nk, ms_ni, w32_id, w64_id, Int.toNat_natCast, not_true_eq_false, not_false_eq_true, q0, q6] at hz) ; (try (exfalso; omega)))
        | omega
        | (simp (discharger := first | decide | omega) only [ms_eq, ms_nk, ms_ni, w32_id, w64_id, Int.toNat_natCast, not_true_eq_false, not_false_eq_true, q0, q6] ; omega)
      · have : p = 11 := by omega
        subst this
        refine sp_M_gotOf2 (wi := 1) (p := 11) (j := 10) hR.1 ho hE2 hl (by omega) rfl rfl (Or.inl ⟨rfl, rfl⟩) (fun σ3 hF3 => sp_M_allBefore hR.1 (hF3.eqv hE2) ?_)
        exact fin_M hR hp3 (hF3.eqv hE2) h6 (by omega) rfl
      · have : p = 10 := by omega
        subst this
        refine sp_M_gotOf2 (wi := 0) (p := 10) (j := 10) hR.1 ho hE2 hl (by omega) rfl rfl (Or.inl ⟨rfl, rfl⟩) (fun σ3 hF3 => sp_M_allBefore hR.1 (hF3.eqv hE2) ?_)
        exact fin_M hR hp3 (hF3.eqv hE2) h6 (by omega) rfl
    refine sp_B_attendOnly (fun σ1 h1 h2 => e_S_pay ⟨fun h => ?_, fun h => ?_⟩)
    · exact fin 11 σ1 (Or.inl ⟨h, rfl⟩) h1 h2
    · exact fin 10 σ1 (Or.inr ⟨h, rfl⟩) h1 h2
theorem pr_harm {A : Mem} (hR : RR A) {a1 : Int} (i1 : InI a1) {a2 : Int} (i2 : InI a2) : wp 40 m_X_harm [.inr (.inr 0), .inl a1, .inl a2] A (fun r σ1 => wp 40 m_M_harm [.inr (.inr 49), .inl a1, .inl a2] σ1 (fun r2 σ2 => PQ r r2 σ2)) := by
  have sc := hR.sc
  unfold InI at i1 i2
  repeat' first
    | with_reducible refine e_X_harm ?_
    | with_reducible refine e_X_isPart ?_
    | with_reducible refine e_S_lacksLook ?_
    | with_reducible refine e_S_hasLook ?_
    | with_reducible refine xr1 ?_
    | with_reducible refine xr2 ?_
    | with_reducible refine xr3 ?_
    | with_reducible refine xr4 ?_
    | with_reducible refine xr6 ?_
    | with_reducible refine mr1 ?_
    | with_reducible refine mr2 ?_
    | with_reducible refine mr3 ?_
    | with_reducible refine mr4 ?_
    | with_reducible refine mr6 ?_
    | with_reducible refine xf1 ?_
    | with_reducible refine xf2 ?_
    | with_reducible refine xf3 ?_
    | with_reducible refine xf6 ?_
    | with_reducible refine mf1 ?_
    | with_reducible refine mf2 ?_
    | with_reducible refine mf3 ?_
    | with_reducible refine mf6 ?_
    | with_reducible exact isB0
    | with_reducible exact isB1
    | with_reducible refine And.intro ?_ ?_
    | (with_reducible refine fun (hz : (_ : Int) < _) => ?_) <;> ((try simp (discharger := first | decide | omega) only [ms_eq, ms_nk, ms_ni, w32_id, w64_id, Int.toNat_natCast, not_true_eq_false, not_false_eq_true] at hz) ; (try (exfalso; omega)))
    | (with_reducible refine fun (hz : (_ : Int) ≤ _) => ?_) <;> ((try simp (discharger := first | decide | omega) only [ms_eq, ms_nk, ms_ni, w32_id, w64_id, Int.toNat_natCast, not_true_eq_false, not_false_eq_true] at hz) ; (try (exfalso; omega)))
    | (with_reducible refine fun (hz : (_ : Int) = _) => ?_) <;> ((try simp (discharger := first | decide | omega) only [ms_eq, ms_nk, ms_ni, w32_id, w64_id, Int.toNat_natCast, not_true_eq_false, not_false_eq_true] at hz) ; (try (exfalso; omega)))
    | (with_reducible refine fun (hz : ¬ (_ : Int) = _) => ?_) <;> ((try simp (discharger := first | decide | omega) only [ms_eq, ms_nk, ms_ni, w32_id, w64_id, Int.toNat_natCast, not_true_eq_false, not_false_eq_true] at hz) ; (try (exfalso; omega)))
    | (with_reducible refine fun (hz : _ ∨ _) => ?_) <;> ((try simp (discharger := first | decide | omega) only [ms_eq, ms_nk, ms_ni, w32_id, w64_id, Int.toNat_natCast, not_true_eq_false, not_false_eq_true] at hz) ; (try (exfalso; omega)))
    | omega
    | (simp (discharger := first | decide | omega) only [ms_eq, ms_nk, ms_ni, w32_id, w64_id, Int.toNat_natCast, not_true_eq_false, not_false_eq_true] ; omega)
  all_goals first
    | (repeat' first
      | with_reducible refine e_M_harm ?_
      | with_reducible refine e_M_wrongLook ?_
      | with_reducible refine e_M_isPart ?_
      | with_reducible refine e_M_isLook ?_
      | with_reducible refine e_M_in ?_
      | with_reducible refine xr1 ?_
      | with_reducible refine xr2 ?_
      | with_reducible refine xr3 ?_
      | with_reducible refine xr4 ?_
      | with_reducible refine xr6 ?_
      | with_reducible refine mr1 ?_
      | with_reducible refine mr2 ?_
      | with_reducible refine mr3 ?_
      | with_reducible refine mr4 ?_
      | with_reducible refine mr6 ?_
      | with_reducible refine xf1 ?_
      | with_reducible refine xf2 ?_
      | with_reducible refine xf3 ?_
      | with_reducible refine xf6 ?_
      | with_reducible refine mf1 ?_
      | with_reducible refine mf2 ?_
      | with_reducible refine mf3 ?_
      | with_reducible refine mf6 ?_
      | with_reducible exact isB0
      | with_reducible exact isB1
      | with_reducible refine And.intro ?_ ?_
      | (with_reducible refine fun (hz : (_ : Int) < _) => ?_) <;> ((try simp (discharger := first | decide | omega) only [ms_eq, ms_nk, ms_ni, w32_id, w64_id, Int.toNat_natCast, not_true_eq_false, not_false_eq_true] at hz) ; (try (exfalso; omega)))
      | (with_reducible refine fun (hz : (_ : Int) ≤ _) => ?_) <;> ((try simp (discharger := first | decide | omega) only [ms_eq, ms_nk, ms_ni, w32_id, w64_id, Int.toNat_natCast, not_true_eq_false, not_false_eq_true] at hz) ; (try (exfalso; omega)))
      | (with_reducible refine fun (hz : (_ : Int) = _) => ?_) <;> ((try simp (discharger := first | decide | omega) only [ms_eq, ms_nk, ms_ni, w32_id, w64_id, Int.toNat_natCast, not_true_eq_false, not_false_eq_true] at hz) ; (try (exfalso; omega)))
      | (with_reducible refine fun (hz : ¬ (_ : Int) = _) => ?_) <;> ((try simp (discharger := first | decide | omega) only [ms_eq, ms_nk, ms_ni, w32_id, w64_id, Int.toNat_natCast, not_true_eq_false, not_false_eq_true] at hz) ; (try (exfalso; omega)))
      | (with_reducible refine fun (hz : _ ∨ _) => ?_) <;> ((try simp (discharger := first | decide | omega) only [ms_eq, ms_nk, ms_ni, w32_id, w64_id, Int.toNat_natCast, not_true_eq_false, not_false_eq_true] at hz) ; (try (exfalso; omega)))
      | omega
      | (simp (discharger := first | decide | omega) only [ms_eq, ms_nk, ms_ni, w32_id, w64_id, Int.toNat_natCast, not_true_eq_false, not_false_eq_true] ; omega)
       all_goals first
         | exact PQ.rf0 hR (by decide)
         | skip
       done)
    | skip
  all_goals
    obtain ⟨l, rfl⟩ : ∃ k : Nat, a1 = (k : Int) := ⟨a1.toNat, by omega⟩
    have hl : (l : Int) < A 7 10 := by omega
    have h6 := tot_pos hR.1 (by omega)
    have h6b := tot_bd hR.1
    have hp3 : a2 = 0 ∨ a2 = 1 := by omega
    have ho : 1 ≤ A 7 2 := by omega
    refine sp_B_attendNone (fun σ1 h1 h2 => sp_B_brings hR.1 (h1.eqv Eqv.rfl) ho (Or.inl rfl) (Or.inl rfl) none_lk (by decide) h2 (fun σ2 hB => ?_))
    have h3 := h1.trans hB.xf
    refine sp_B_attendOnly (fun σ3 h4 h5 => sp_B_brings hR.1 ((h3.trans h4).eqv Eqv.rfl) ho (Or.inl rfl) (Or.inl rfl) (one_lk hl) (by simp) h5 (fun σ4 hB4 => ?_))
    have hE4 := hB4.eqv ((h3.trans h4).eqv Eqv.rfl)
    have bb := brg_bd hR.1 ho (Or.inl rfl) (j := 10) (one_lk hl) (by simp)
    have bc := brg_bd hR.1 ho (p := 10) (Or.inl rfl) (j := 10) (ls := []) none_lk (by decide)
    have b1 := gath_bd1 hR.1 ho (j := 10) (p := 10) (Or.inl rfl) hl
    have b2 := gath_bd hR.1 ho (p := 10) (Or.inl rfl) (j := 10) (ls := []) (n := 0) (w := fun t => A 9 t) none_lk (by decide) (wB.pr hR.1)
    simp only [List.length_nil, Int.pow_zero, Int.mul_one] at b2
    refine sp_B_unit hR.1 hE4 ?_
    rw [w64_id (x := brg A 10 10 [] - brg A 10 10 [l]) (by omega) (by omega)]
    refine sp_X_tell (by omega) (by omega) ?_
    have key : frP (brg A 10 10 [] - brg A 10 10 [l]) (A 7 6 * 216000) a2 = frP (60 * gath A 10 10 [] (fun t => A 9 t) - gath A 10 10 [l] (fun t => A 9 t)) (60 * A 7 6) a2 := by
      rw [← fr_far h6]
      congr 1
      show gath A 10 10 [] (fun t => A 9 t) * 216000 - gath A 10 10 [l] (fun t => A 9 t) * 3600 = (60 * gath A 10 10 [] (fun t => A 9 t) - gath A 10 10 [l] (fun t => A 9 t)) * 3600
      omega
    rw [key]
    have q0 := hE4 49 0 rfl
    have q6 := hE4 49 6 rfl
    repeat' first
      | with_reducible refine e_M_harm ?_
      | with_reducible refine e_M_wrongLook ?_
      | with_reducible refine e_M_isPart ?_
      | with_reducible refine e_M_isLook ?_
      | with_reducible refine e_M_in ?_
      | with_reducible refine xr1 ?_
      | with_reducible refine xr2 ?_
      | with_reducible refine xr3 ?_
      | with_reducible refine xr4 ?_
      | with_reducible refine xr6 ?_
      | with_reducible refine mr1 ?_
      | with_reducible refine mr2 ?_
      | with_reducible refine mr3 ?_
      | with_reducible refine mr4 ?_
      | with_reducible refine mr6 ?_
      | with_reducible refine xf1 ?_
      | with_reducible refine xf2 ?_
      | with_reducible refine xf3 ?_
      | with_reducible refine xf6 ?_
      | with_reducible refine mf1 ?_
      | with_reducible refine mf2 ?_
      | with_reducible refine mf3 ?_
      | with_reducible refine mf6 ?_
      | with_reducible exact isB0
      | with_reducible exact isB1
      | with_reducible refine And.intro ?_ ?_
      | (with_reducible refine fun (hz : (_ : Int) < _) => ?_) <;> ((try simp (discharger := first | decide | omega) only [ms_eq, ms_nk, ms_ni, w32_id, w64_id, Int.toNat_natCast, not_true_eq_false, not_false_eq_true, q0, q6] at hz) ; (try (exfalso; omega)))
      | (with_reducible refine fun (hz : (_ : Int) ≤ _) => ?_) <;> ((try simp (discharger := first | decide | omega) only [ms_eq, ms_nk, ms_ni, w32_id, w64_id, Int.toNat_natCast, not_true_eq_false, not_false_eq_true, q0, q6] at hz) ; (try (exfalso; omega)))
      | (with_reducible refine fun (hz : (_ : Int) = _) => ?_) <;> ((try simp (discharger := first | decide | omega) only [ms_eq, ms_nk, ms_ni, w32_id, w64_id, Int.toNat_natCast, not_true_eq_false, not_false_eq_true, q0, q6] at hz) ; (try (exfalso; omega)))
      | (with_reducible refine fun (hz : ¬ (_ : Int) = _) => ?_) <;> ((try simp (discharger := first | decide | omega) only [ms_eq, ms_nk, ms_ni, w32_id, w64_id, Int.toNat_natCast, not_true_eq_false, not_false_eq_true, q0, q6] at hz) ; (try (exfalso; omega)))
      | (with_reducible refine fun (hz : _ ∨ _) => ?_) <;> ((try simp (discharger := first | decide | omega) only [ms_eq, ms_nk, ms_ni, w32_id, w64_id, Int.toNat_natCast, not_true_eq_false, not_false_eq_true, q0, q6] at hz) ; (try (exfalso; omega)))
      | omega
      | (simp (discharger := first | decide | omega) only [ms_eq, ms_nk, ms_ni, w32_id, w64_id, Int.toNat_natCast, not_true_eq_false, not_false_eq_true, q0, q6] ; omega)
    refine sp_M_gotPlain hR.1 ho hE4 (fun σ5 hF5 => ?_)
    refine sp_M_gotOf2 (wi := 0) (p := 10) (j := 10) hR.1 ho (hF5.eqv hE4) hl (by omega) rfl rfl (Or.inl ⟨rfl, rfl⟩) (fun σ6 hF6 => sp_M_allBefore hR.1 ((hF5.trans hF6).eqv hE4) ?_)
    rw [w64_id (by omega) (by omega)]
    exact fin_M hR hp3 ((hF5.trans hF6).eqv hE4) h6 (by omega) rfl
theorem pr_hear {A : Mem} (hR : RR A) {a1 : Int} (i1 : InI a1) {a2 : Int} (i2 : InI a2) {a3 : Int} (i3 : InI a3) : wp 40 m_X_hear [.inr (.inr 0), .inl a1, .inl a2, .inl a3] A (fun r σ1 => wp 40 m_M_hear [.inr (.inr 49), .inl a1, .inl a2, .inl a3] σ1 (fun r2 σ2 => PQ r r2 σ2)) := by
  have sc := hR.sc
  unfold InI at i1 i2 i3
  have main : ∀ l k : Nat, (l : Int) < A 7 10 → (k : Int) < A 7 10 → (a3 = 0 ∨ a3 = 1) → ¬ A 7 0 = 0 → ∀ (K : Int → Mem → Prop), (∀ σ, Eqv A σ → wp 39 m_M_gotOf [.inr (.inr 49), .inl (l : Int), .inl 0, .inl 1] σ (fun r7 s8 => wp 39 m_M_gotOf [.inr (.inr 49), .inl (k : Int), .inl 1, .inl 1] s8 (fun r15 s16 => wp 39 m_M_allBefore [.inr (.inr 49)] s16 (fun r17 s18 => wp 39 m_M_fraction [.inr (.inl (w64 (r7 + r15))), .inr (.inl (w64 (60 * r17))), .inl a3] s18 (fun r19 s20 => PQ (frP (gath A 10 11 [l] (fun t => A 9 t) + gath A 12 11 [k] (fun t => A 9 t)) (60 * A 7 6) a3) r19 s20)))) → K (frP (gath A 10 11 [l] (fun t => A 9 t) + gath A 12 11 [k] (fun t => A 9 t)) (60 * A 7 6) a3) σ) → ∀ σ2, XF A σ2 → wp 39 m_B_attendOnly [.inr (.inr 35), .inl (k : Int)] σ2 (fun _ s34 => wp 39 m_B_brings [.inr (.inr 35), .inr (.inr 12), .inr (.inr 11)] s34 (fun r35 s36 => wp 39 m_B_unit [.inr (.inr 35)] s36 (fun r37 s38 => wp 39 m_X_tell [.inr (.inl (w64 (brg A 10 11 [l] + r35))), .inr (.inl r37), .inl a3] s38 (fun r39 s40 => K r39 s40)))) := by
    intro l k hl hk hp3 hop K hK σ2 h3
    have h6 := tot_pos hR.1 (by omega)
    have h6b := tot_bd hR.1
    have ho : 1 ≤ A 7 2 := by omega
    have p11 : isPay 11 := Or.inr (Or.inl rfl)
    refine sp_B_attendOnly (fun σ3 h4 h5 => sp_B_brings hR.1 ((h3.trans h4).eqv Eqv.rfl) ho (Or.inr (Or.inr rfl)) p11 (one_lk hk) (by simp) h5 (fun σ4 hB4 => ?_))
    have hE4 := hB4.eqv ((h3.trans h4).eqv Eqv.rfl)
    have bb := brg_bd hR.1 ho p11 (j := 10) (one_lk hl) (by simp)
    have bc := brg_bd hR.1 ho p11 (j := 12) (one_lk hk) (by simp)
    have b1 := gath_bd1 hR.1 ho (j := 10) (p := 11) p11 hl
    have b2 := gath_bd1 hR.1 ho (j := 12) (p := 11) p11 hk
    refine sp_B_unit hR.1 hE4 ?_
    rw [w64_id (x := brg A 10 11 [l] + brg A 12 11 [k]) (by omega) (by omega)]
    refine sp_X_tell (by omega) (by omega) ?_
    have key : frP (brg A 10 11 [l] + brg A 12 11 [k]) (A 7 6 * 216000) a3 = frP (gath A 10 11 [l] (fun t => A 9 t) + gath A 12 11 [k] (fun t => A 9 t)) (60 * A 7 6) a3 := by
      rw [← fr_far h6]
      congr 1
      show gath A 10 11 [l] (fun t => A 9 t) * 3600 + gath A 12 11 [k] (fun t => A 9 t) * 3600 = (gath A 10 11 [l] (fun t => A 9 t) + gath A 12 11 [k] (fun t => A 9 t)) * 3600
      omega
    rw [key]
    refine hK _ hE4 ?_
    refine sp_M_gotOf2 (wi := 1) (p := 11) (j := 10) hR.1 ho hE4 hl (by omega) rfl rfl (Or.inl ⟨rfl, rfl⟩) (fun σ5 hF5 => ?_)
    refine sp_M_gotOf2 (wi := 1) (p := 11) (j := 12) hR.1 ho (hF5.eqv hE4) hk (by omega) rfl rfl (Or.inr ⟨by decide, rfl⟩) (fun σ6 hF6 => ?_)
    refine sp_M_allBefore hR.1 ((hF5.trans hF6).eqv hE4) ?_
    rw [w64_id (x := gath A 10 11 [l] (fun t => A 9 t) + gath A 12 11 [k] (fun t => A 9 t)) (by omega) (by omega)]
    exact fin_M hR hp3 ((hF5.trans hF6).eqv hE4) h6 (by omega) rfl
  repeat' first
    | with_reducible refine e_X_hear ?_
    | with_reducible refine e_X_isPart ?_
    | with_reducible refine e_S_hasLook ?_
    | with_reducible refine xr1 ?_
    | with_reducible refine xr2 ?_
    | with_reducible refine xr3 ?_
    | with_reducible refine xr4 ?_
    | with_reducible refine xr6 ?_
    | with_reducible refine mr1 ?_
    | with_reducible refine mr2 ?_
    | with_reducible refine mr3 ?_
    | with_reducible refine mr4 ?_
    | with_reducible refine mr6 ?_
    | with_reducible refine xf1 ?_
    | with_reducible refine xf2 ?_
    | with_reducible refine xf3 ?_
    | with_reducible refine xf6 ?_
    | with_reducible refine mf1 ?_
    | with_reducible refine mf2 ?_
    | with_reducible refine mf3 ?_
    | with_reducible refine mf6 ?_
    | with_reducible exact isB0
    | with_reducible exact isB1
    | with_reducible refine And.intro ?_ ?_
    | (with_reducible refine fun (hz : (_ : Int) < _) => ?_) <;> ((try simp (discharger := first | decide | omega) only [ms_eq, ms_nk, ms_ni, w32_id, w64_id, Int.toNat_natCast, not_true_eq_false, not_false_eq_true] at hz) ; (try (exfalso; omega)))
    | (with_reducible refine fun (hz : (_ : Int) ≤ _) => ?_) <;> ((try simp (discharger := first | decide | omega) only [ms_eq, ms_nk, ms_ni, w32_id, w64_id, Int.toNat_natCast, not_true_eq_false, not_false_eq_true] at hz) ; (try (exfalso; omega)))
    | (with_reducible refine fun (hz : (_ : Int) = _) => ?_) <;> ((try simp (discharger := first | decide | omega) only [ms_eq, ms_nk, ms_ni, w32_id, w64_id, Int.toNat_natCast, not_true_eq_false, not_false_eq_true] at hz) ; (try (exfalso; omega)))
    | (with_reducible refine fun (hz : ¬ (_ : Int) = _) => ?_) <;> ((try simp (discharger := first | decide | omega) only [ms_eq, ms_nk, ms_ni, w32_id, w64_id, Int.toNat_natCast, not_true_eq_false, not_false_eq_true] at hz) ; (try (exfalso; omega)))
    | (with_reducible refine fun (hz : _ ∨ _) => ?_) <;> ((try simp (discharger := first | decide | omega) only [ms_eq, ms_nk, ms_ni, w32_id, w64_id, Int.toNat_natCast, not_true_eq_false, not_false_eq_true] at hz) ; (try (exfalso; omega)))
    | omega
    | (simp (discharger := first | decide | omega) only [ms_eq, ms_nk, ms_ni, w32_id, w64_id, Int.toNat_natCast, not_true_eq_false, not_false_eq_true] ; omega)
  all_goals first
    | (repeat' first
      | with_reducible refine e_M_hear ?_
      | with_reducible refine e_M_isPart ?_
      | with_reducible refine e_M_isLook ?_
      | with_reducible refine e_M_in ?_
      | with_reducible refine xr1 ?_
      | with_reducible refine xr2 ?_
      | with_reducible refine xr3 ?_
      | with_reducible refine xr4 ?_
      | with_reducible refine xr6 ?_
      | with_reducible refine mr1 ?_
      | with_reducible refine mr2 ?_
      | with_reducible refine mr3 ?_
      | with_reducible refine mr4 ?_
      | with_reducible refine mr6 ?_
      | with_reducible refine xf1 ?_
      | with_reducible refine xf2 ?_
      | with_reducible refine xf3 ?_
      | with_reducible refine xf6 ?_
      | with_reducible refine mf1 ?_
      | with_reducible refine mf2 ?_
      | with_reducible refine mf3 ?_
      | with_reducible refine mf6 ?_
      | with_reducible exact isB0
      | with_reducible exact isB1
      | with_reducible refine And.intro ?_ ?_
      | (with_reducible refine fun (hz : (_ : Int) < _) => ?_) <;> ((try simp (discharger := first | decide | omega) only [ms_eq, ms_nk, ms_ni, w32_id, w64_id, Int.toNat_natCast, not_true_eq_false, not_false_eq_true] at hz) ; (try (exfalso; omega)))
      | (with_reducible refine fun (hz : (_ : Int) ≤ _) => ?_) <;> ((try simp (discharger := first | decide | omega) only [ms_eq, ms_nk, ms_ni, w32_id, w64_id, Int.toNat_natCast, not_true_eq_false, not_false_eq_true] at hz) ; (try (exfalso; omega)))
      | (with_reducible refine fun (hz : (_ : Int) = _) => ?_) <;> ((try simp (discharger := first | decide | omega) only [ms_eq, ms_nk, ms_ni, w32_id, w64_id, Int.toNat_natCast, not_true_eq_false, not_false_eq_true] at hz) ; (try (exfalso; omega)))
      | (with_reducible refine fun (hz : ¬ (_ : Int) = _) => ?_) <;> ((try simp (discharger := first | decide | omega) only [ms_eq, ms_nk, ms_ni, w32_id, w64_id, Int.toNat_natCast, not_true_eq_false, not_false_eq_true] at hz) ; (try (exfalso; omega)))
      | (with_reducible refine fun (hz : _ ∨ _) => ?_) <;> ((try simp (discharger := first | decide | omega) only [ms_eq, ms_nk, ms_ni, w32_id, w64_id, Int.toNat_natCast, not_true_eq_false, not_false_eq_true] at hz) ; (try (exfalso; omega)))
      | omega
      | (simp (discharger := first | decide | omega) only [ms_eq, ms_nk, ms_ni, w32_id, w64_id, Int.toNat_natCast, not_true_eq_false, not_false_eq_true] ; omega)
       all_goals first
         | exact PQ.rf0 hR (by decide)
         | skip
       done)
    | skip
  all_goals
    obtain ⟨l, rfl⟩ : ∃ k : Nat, a1 = (k : Int) := ⟨a1.toNat, by omega⟩
    refine sp_B_attendOnly (fun σ1 h1 h2 => sp_B_brings hR.1 (h1.eqv Eqv.rfl) (by omega) (Or.inl rfl) (Or.inr (Or.inl rfl)) (one_lk (by omega)) (by simp) h2 (fun σ2 hB => ?_))
    have h3 := h1.trans hB.xf
    refine ⟨fun h => ?_, fun h => ?_⟩
    · first
        | omega
        | (refine main l l (by omega) (by omega) (by omega) (by omega) _ (fun σ hE hG => ?_) σ2 h3
           have q0 := hE 49 0 rfl
           have q6 := hE 49 6 rfl
           repeat' first
             | with_reducible refine e_M_hear ?_
             | with_reducible refine e_M_isPart ?_
             | with_reducible refine e_M_isLook ?_
             | with_reducible refine e_M_in ?_
             | with_reducible refine xr1 ?_
             | with_reducible refine xr2 ?_
             | with_reducible refine xr3 ?_
             | with_reducible refine xr4 ?_
             | with_reducible refine xr6 ?_
             | with_reducible refine mr1 ?_
             | with_reducible refine mr2 ?_
             | with_reducible refine mr3 ?_
             | with_reducible refine mr4 ?_
             | with_reducible refine mr6 ?_
             | with_reducible refine xf1 ?_
             | with_reducible refine xf2 ?_
             | with_reducible refine xf3 ?_
             | with_reducible refine xf6 ?_
             | with_reducible refine mf1 ?_
             | with_reducible refine mf2 ?_
             | with_reducible refine mf3 ?_
             | with_reducible refine mf6 ?_
             | with_reducible exact isB0
             | with_reducible exact isB1
             | with_reducible refine And.intro ?_ ?_
             | (with_reducible refine fun (hz : (_ : Int) < _) => ?_) <;> ((try simp (discharger := first | decide | omega) only [ms_eq, ms_nk, ms_ni, w32_id, w64_id, Int.toNat_natCast, not_true_eq_false, not_false_eq_true, q0, q6] at hz) ; (try (exfalso; omega)))
             | (with_reducible refine fun (hz : (_ : Int) ≤ _) => ?_) <;> ((try simp (discharger := first | decide | omega) only [ms_eq, ms_nk, ms_ni, w32_id, w64_id, Int.toNat_natCast, not_true_eq_false, not_false_eq_true, q0, q6] at hz) ; (try (exfalso; omega)))
             | (with_reducible refine fun (hz : (_ : Int) = _) => ?_) <;> ((try simp (discharger := first | decide | omega) only [ms_eq, ms_nk, ms_ni, w32_id, w64_id, Int.toNat_natCast, not_true_eq_false, not_false_eq_true, q0, q6] at hz) ; (try (exfalso; omega)))
             | (with_reducible refine fun (hz : ¬ (_ : Int) = _) => ?_) <;> ((try simp (discharger := first | decide | omega) only [ms_eq, ms_nk, ms_ni, w32_id, w64_id, Int.toNat_natCast, not_true_eq_false, not_false_eq_true, q0, q6] at hz) ; (try (exfalso; omega)))
             | (with_reducible refine fun (hz : _ ∨ _) => ?_) <;> ((try simp (discharger := first | decide | omega) only [ms_eq, ms_nk, ms_ni, w32_id, w64_id, Int.toNat_natCast, not_true_eq_false, not_false_eq_true, q0, q6] at hz) ; (try (exfalso; omega)))
             | omega
             | (simp (discharger := first | decide | omega) only [ms_eq, ms_nk, ms_ni, w32_id, w64_id, Int.toNat_natCast, not_true_eq_false, not_false_eq_true, q0, q6] ; omega)
           refine wp_conseq (fun r s hh => ⟨fun _ => hh, fun h => by omega⟩) hG)
    · first
        | omega
        | (obtain ⟨k, rfl⟩ : ∃ k : Nat, a2 = (k : Int) := ⟨a2.toNat, by omega⟩
           refine main l k (by omega) (by omega) (by omega) (by omega) _ (fun σ hE hG => ?_) σ2 h3
           have q0 := hE 49 0 rfl
           have q6 := hE 49 6 rfl
           repeat' first
             | with_reducible refine e_M_hear ?_
             | with_reducible refine e_M_isPart ?_
             | with_reducible refine e_M_isLook ?_
             | with_reducible refine e_M_in ?_
             | with_reducible refine xr1 ?_
             | with_reducible refine xr2 ?_
             | with_reducible refine xr3 ?_
             | with_reducible refine xr4 ?_
             | with_reducible refine xr6 ?_
             | with_reducible refine mr1 ?_
             | with_reducible refine mr2 ?_
             | with_reducible refine mr3 ?_
             | with_reducible refine mr4 ?_
             | with_reducible refine mr6 ?_
             | with_reducible refine xf1 ?_
             | with_reducible refine xf2 ?_
             | with_reducible refine xf3 ?_
             | with_reducible refine xf6 ?_
             | with_reducible refine mf1 ?_
             | with_reducible refine mf2 ?_
             | with_reducible refine mf3 ?_
             | with_reducible refine mf6 ?_
             | with_reducible exact isB0
             | with_reducible exact isB1
             | with_reducible refine And.intro ?_ ?_
             | (with_reducible refine fun (hz : (_ : Int) < _) => ?_) <;> ((try simp (discharger := first | decide | omega) only [ms_eq, ms_nk, ms_ni, w32_id, w64_id, Int.toNat_natCast, not_true_eq_false, not_false_eq_true, q0, q6] at hz) ; (try (exfalso; omega)))
             | (with_reducible refine fun (hz : (_ : Int) ≤ _) => ?_) <;> ((try simp (discharger := first | decide | omega) only [ms_eq, ms_nk, ms_ni, w32_id, w64_id, Int.toNat_natCast, not_true_eq_false, not_false_eq_true, q0, q6] at hz) ; (try (exfalso; omega)))
             | (with_reducible refine fun (hz : (_ : Int) = _) => ?_) <;> ((try simp (discharger := first | decide | omega) only [ms_eq, ms_nk, ms_ni, w32_id, w64_id, Int.toNat_natCast, not_true_eq_false, not_false_eq_true, q0, q6] at hz) ; (try (exfalso; omega)))
             | (with_reducible refine fun (hz : ¬ (_ : Int) = _) => ?_) <;> ((try simp (discharger := first | decide | omega) only [ms_eq, ms_nk, ms_ni, w32_id, w64_id, Int.toNat_natCast, not_true_eq_false, not_false_eq_true, q0, q6] at hz) ; (try (exfalso; omega)))
             | (with_reducible refine fun (hz : _ ∨ _) => ?_) <;> ((try simp (discharger := first | decide | omega) only [ms_eq, ms_nk, ms_ni, w32_id, w64_id, Int.toNat_natCast, not_true_eq_false, not_false_eq_true, q0, q6] at hz) ; (try (exfalso; omega)))
             | omega
             | (simp (discharger := first | decide | omega) only [ms_eq, ms_nk, ms_ni, w32_id, w64_id, Int.toNat_natCast, not_true_eq_false, not_false_eq_true, q0, q6] ; omega)
           refine wp_conseq (fun r s hh => ⟨fun h => by omega, fun _ => hh⟩) hG)
