-- PURE, 24: law
def shD (A : Mem) (l x k : Nat) : Int := sumN k (fun s => if x.testBit s then Dx A (lvs A l s) else 0)
theorem stl_lt {A : Mem} {l : Nat} (hS : sg A l ≤ 6) : ∀ {n x : Nat}, x < 64 → stl A l n x < 64
  | 0, _, h => h
  | n + 1, x, h => by
    show (if mb A l x = 0 then x else stl A l n (x ||| mb A l x)) < 64
    split
    · exact h
    · exact stl_lt hS (or64 h (mb_lt hS))
theorem law_eq {A : Mem} {l x : Nat} : gath A 10 10 [l] (fun t => A 9 t) - (shD A l x (sg A l) + Dx A (sw A l x)) = lost A l x := by
  have e : gath A 10 10 [l] (fun t => A 9 t) = shD A l x (sg A l) + sumN (sg A l) (fun s => if x.testBit s then 0 else Dx A (lvs A l s)) := by
    unfold shD
    rw [← sumN_add]
    refine sumN_congr (fun s _ => ?_)
    show Dx A (lvs A l s) = _
    split <;> omega
  unfold lost
  omega
theorem sp_M_law30 {A σ : Mem} (hR : RR A) (hE : Eqv A σ) (ho : 1 ≤ A 7 2) (h6 : 1 ≤ A 7 6) {l x : Nat} {part r : Int} (hp : part = 0 ∨ part = 1) (hl : (l : Int) < A 7 10) (hx : x < 64) (hr : r = frP (lost A l x) (60 * A 7 6) part) {d : Nat} : K_M_law_30 (d + 3) (fun r2 σ2 => PQ r r2 σ2) (l : Int) part (x : Int) 0 0 σ := by
  have hS := sgN hR.1 hl
  have hLk := hR.1.lk
  have h53 : ∀ σ1, MF σ σ1 → σ1 53 l = ((sg A l : Nat) : Int) := fun σ1 hF => by rw [← hS.1]; exact ((hF.eqv hE) 53 l rfl).trans (hR.1.sgn hl).1
  have bD : ∀ s, s < sg A l → -2352240 ≤ Dx A (lvs A l s) ∧ Dx A (lvs A l s) ≤ 2352240 := fun s hs => Ex_bd hR.1 ho (lvs_B2 hR.1 hl hs) (Or.inl rfl)
  have bS : ∀ k, k ≤ sg A l → -20000000 ≤ shD A l x k ∧ shD A l x k ≤ 20000000 := fun k hk => by
    have := sumN_bd (n := k) (f := fun s => if x.testBit s then Dx A (lvs A l s) else 0) (B := 2352240) (fun i hi => by
      have := bD i (by omega)
      split <;> constructor <;> omega)
    have e : (k : Int) * 2352240 ≤ 20000000 := by omega
    unfold shD
    omega
  have hBs := sw_B hR.1 (x := x) hl
  have bw := Ex_bd hR.1 ho hBs (j := 10) (p := 10) (Or.inl rfl)
  have bg := gath_bd1 hR.1 ho (j := 10) (p := 10) (Or.inl rfl) hl
  refine upto (n := sg A l) (P := fun s => ∀ σ1, MF σ σ1 → K_M_law_30 (d + 3) (fun r2 σ2 => PQ r r2 σ2) (l : Int) part (x : Int) (shD A l x s) ((s : Nat) : Int) σ1) (fun σ1 hF => ?_) (fun s hs ih σ1 hF => ?_) σ MF.rfl
  · have b1 := bS (sg A l) (Nat.le_refl _)
    refine e_M_law_30 ⟨⟨by omega, by omega⟩, fun h => by rw [Int.toNat_natCast, h53 σ1 hF] at h; omega, fun _ => ?_⟩
    refine sp_M_beSilent hR.1 (hF.eqv hE) hl hx (fun r2 σ2 hF2 hw hr2 => ⟨fun h => ?_, fun h => ?_⟩)
    · have z : Dx A (sw A l x) = 0 := by
        rcases hr2 with h2 | h2
        · omega
        · exact gath_0 (sw_0 hR.1 hl h2.2).1
      have hE2 := (hF.trans hF2).eqv hE
      refine sp_M_gotOf2 (wi := 0) (p := 10) (j := 10) hR.1 ho hE2 hl (by omega) rfl rfl (Or.inl ⟨rfl, rfl⟩) (fun σ3 hF3 => sp_M_allBefore hR.1 (hF3.eqv hE2) ?_)
      rw [w64_id (x := shD A l x (sg A l) + 0) (by omega) (by omega), w64_id (x := gath A 10 10 [l] (fun t => A 9 t) - (shD A l x (sg A l) + 0)) (by omega) (by omega)]
      have e := law_eq (A := A) (l := l) (x := x)
      rw [z] at e
      rw [e]
      exact fin_M hR hp (hF3.eqv hE2) h6 (by omega) hr
    · have hE2 := (hF.trans hF2).eqv hE
      refine sp_M_Ex (wi := 0) (p := 10) hR.1 hE2 ho rfl (by omega) rfl (hBs.bd (by omega)) hw ?_
      refine sp_M_gotOf2 (wi := 0) (p := 10) (j := 10) hR.1 ho hE2 hl (by omega) rfl rfl (Or.inl ⟨rfl, rfl⟩) (fun σ3 hF3 => sp_M_allBefore hR.1 (hF3.eqv hE2) ?_)
      have eD : gath A 10 10 [] (sw A l x) = Dx A (sw A l x) := rfl
      rw [eD] at bw ⊢
      rw [w64_id (x := shD A l x (sg A l) + Dx A (sw A l x)) (by omega) (by omega), w64_id (x := gath A 10 10 [l] (fun t => A 9 t) - (shD A l x (sg A l) + Dx A (sw A l x))) (by omega) (by omega)]
      have e := law_eq (A := A) (l := l) (x := x)
      rw [e]
      exact fin_M hR hp (hF3.eqv hE2) h6 (by omega) hr
  · have e1 : w32 ((s : Int) + 1) = ((s + 1 : Nat) : Int) := w32_eq (by omega) (by omega)
    have es : shD A l x (s + 1) = shD A l x s + (if x.testBit s then Dx A (lvs A l s) else 0) := rfl
    have b1 := bS s (by omega)
    have b2 := bD s hs
    have hLs := lvs_B2 hR.1 hl hs
    refine e_M_law_30 ⟨⟨by omega, by omega⟩, fun _ => ?_, fun h => by rw [Int.toNat_natCast, h53 σ1 hF] at h; omega⟩
    rw [bit_eq hx (by omega), e1, w64_id (x := shD A l x s + 0) (by omega) (by omega), Int.add_zero]
    refine ⟨fun h => ?_, fun h => ?_⟩
    · have hb : x.testBit s = true := by
        cases hh : x.testBit s with
        | true => rfl
        | false => rw [hh] at h; cases h
      refine sp_M_leave hR.1 (hF.eqv hE) hl (by omega) (fun r2 σ2 hF2 hw2 _ hr2 => ⟨fun h2 => ?_, fun h2 => ?_⟩)
      · have z : Dx A (lvs A l s) = 0 := by
          rcases hr2 with h3 | h3
          · omega
          · exact gath_0 h3.2
        have := ih σ2 (hF.trans hF2)
        rw [es, z, ite_self, Int.add_zero] at this
        exact this
      · have hE2 := (hF.trans hF2).eqv hE
        refine sp_M_Ex (wi := 0) (p := 10) hR.1 hE2 ho rfl (by omega) rfl (hLs.bd (by omega)) hw2 ?_
        have eD : gath A 10 10 [] (lvs A l s) = Dx A (lvs A l s) := rfl
        rw [eD, w64_id (by omega) (by omega)]
        have := ih σ2 (hF.trans hF2)
        rw [es, hb, if_pos rfl] at this
        exact this
    · have hb : x.testBit s = false := by
        cases hh : x.testBit s with
        | false => rfl
        | true => rw [hh] at h; exact absurd (if_pos rfl) h
      have := ih σ1 hF
      rw [es, hb, if_neg (by decide), Int.add_zero] at this
      exact this
theorem pr_law {A : Mem} (hR : RR A) {a1 : Int} (i1 : InI a1) {a2 : Int} (i2 : InI a2) : wp 40 m_X_law [.inr (.inr 0), .inl a1, .inl a2] A (fun r σ1 => wp 40 m_M_law [.inr (.inr 49), .inl a1, .inl a2] σ1 (fun r2 σ2 => PQ r r2 σ2)) := by
  have sc := hR.sc
  unfold InI at i1 i2
  repeat' first
    | with_reducible refine e_X_law ?_
    | with_reducible refine e_X_isPart ?_
    | with_reducible refine e_S_lacksLook ?_
    | with_reducible refine e_S_hasLook ?_
    | with_reducible refine xr1 ?_
    | with_reducible refine xr2 ?_
    | with_reducible refine xr3 ?_
    | with_reducible refine xr4 ?_
    | with_reducible refine xr6 ?_
    | with_reducible refine mr1 ?_
    | with_reducible refine mr2 ?_
    | with_reducible refine mr3 ?_
    | with_reducible refine mr4 ?_
    | with_reducible refine mr6 ?_
    | with_reducible refine xf1 ?_
    | with_reducible refine xf2 ?_
    | with_reducible refine xf3 ?_
    | with_reducible refine xf6 ?_
    | with_reducible refine mf1 ?_
    | with_reducible refine mf2 ?_
    | with_reducible refine mf3 ?_
    | with_reducible refine mf6 ?_
    | with_reducible exact isB0
    | with_reducible exact isB1
    | with_reducible refine And.intro ?_ ?_
    | (with_reducible refine fun (hz : (_ : Int) < _) => ?_) <;> ((try simp (discharger := first | decide | omega) only [ms_eq, ms_nk, ms_ni, w32_id, w64_id, Int.toNat_natCast, not_true_eq_false, not_false_eq_true] at hz) ; (try (exfalso; omega)))
    | (with_reducible refine fun (hz : (_ : Int) ≤ _) => ?_) <;> ((try simp (discharger := first | decide | omega) only [ms_eq, ms_nk, ms_ni, w32_id, w64_id, Int.toNat_natCast, not_true_eq_false, not_false_eq_true] at hz) ; (try (exfalso; omega)))
    | (with_reducible refine fun (hz : (_ : Int) = _) => ?_) <;> ((try simp (discharger := first | decide | omega) only [ms_eq, ms_nk, ms_ni, w32_id, w64_id, Int.toNat_natCast, not_true_eq_false, not_false_eq_true] at hz) ; (try (exfalso; omega)))
    | (with_reducible refine fun (hz : ¬ (_ : Int) = _) => ?_) <;> ((try simp (discharger := first | decide | omega) only [ms_eq, ms_nk, ms_ni, w32_id, w64_id, Int.toNat_natCast, not_true_eq_false, not_false_eq_true] at hz) ; (try (exfalso; omega)))
    | (with_reducible refine fun (hz : _ ∨ _) => ?_) <;> ((try simp (discharger := first | decide | omega) only [ms_eq, ms_nk, ms_ni, w32_id, w64_id, Int.toNat_natCast, not_true_eq_false, not_false_eq_true] at hz) ; (try (exfalso; omega)))
    | omega
    | (simp (discharger := first | decide | omega) only [ms_eq, ms_nk, ms_ni, w32_id, w64_id, Int.toNat_natCast, not_true_eq_false, not_false_eq_true] ; omega)
  all_goals first
    | (repeat' first
      | with_reducible refine e_M_law ?_
      | with_reducible refine e_M_wrongLook ?_
      | with_reducible refine e_M_isPart ?_
      | with_reducible refine e_M_isLook ?_
      | with_reducible refine e_M_in ?_
      | with_reducible refine xr1 ?_
      | with_reducible refine xr2 ?_
      | with_reducible refine xr3 ?_
      | with_reducible refine xr4 ?_
      | with_reducible refine xr6 ?_
      | with_reducible refine mr1 ?_
      | with_reducible refine mr2 ?_
      | with_reducible refine mr3 ?_
      | with_reducible refine mr4 ?_
      | with_reducible refine mr6 ?_
      | with_reducible refine xf1 ?_
      | with_reducible refine xf2 ?_
      | with_reducible refine xf3 ?_
      | with_reducible refine xf6 ?_
      | with_reducible refine mf1 ?_
      | with_reducible refine mf2 ?_
      | with_reducible refine mf3 ?_
      | with_reducible refine mf6 ?_
      | with_reducible exact isB0
      | with_reducible exact isB1
      | with_reducible refine And.intro ?_ ?_
      | (with_reducible refine fun (hz : (_ : Int) < _) => ?_) <;> ((try simp (discharger := first | decide | omega) only [ms_eq, ms_nk, ms_ni, w32_id, w64_id, Int.toNat_natCast, not_true_eq_false, not_false_eq_true] at hz) ; (try (exfalso; omega)))
      | (with_reducible refine fun (hz : (_ : Int) ≤ _) => ?_) <;> ((try simp (discharger := first | decide | omega) only [ms_eq, ms_nk, ms_ni, w32_id, w64_id, Int.toNat_natCast, not_true_eq_false, not_false_eq_true] at hz) ; (try (exfalso; omega)))
      | (with_reducible refine fun (hz : (_ : Int) = _) => ?_) <;> ((try simp (discharger := first | decide | omega) only [ms_eq, ms_nk, ms_ni, w32_id, w64_id, Int.toNat_natCast, not_true_eq_false, not_false_eq_true] at hz) ; (try (exfalso; omega)))
      | (with_reducible refine fun (hz : ¬ (_ : Int) = _) => ?_) <;> ((try simp (discharger := first | decide | omega) only [ms_eq, ms_nk, ms_ni, w32_id, w64_id, Int.toNat_natCast, not_true_eq_false, not_false_eq_true] at hz) ; (try (exfalso; omega)))
      | (with_reducible refine fun (hz : _ ∨ _) => ?_) <;> ((try simp (discharger := first | decide | omega) only [ms_eq, ms_nk, ms_ni, w32_id, w64_id, Int.toNat_natCast, not_true_eq_false, not_false_eq_true] at hz) ; (try (exfalso; omega)))
      | omega
      | (simp (discharger := first | decide | omega) only [ms_eq, ms_nk, ms_ni, w32_id, w64_id, Int.toNat_natCast, not_true_eq_false, not_false_eq_true] ; omega)
       all_goals first
         | exact PQ.rf0 hR (by decide)
         | skip
       done)
    | skip
  all_goals
    obtain ⟨l, rfl⟩ : ∃ k : Nat, a1 = (k : Int) := ⟨a1.toNat, by omega⟩
    have hl : (l : Int) < A 7 10 := by omega
    have h6 := tot_pos hR.1 (by omega)
    have h6b := tot_bd hR.1
    have hp3 : a2 = 0 ∨ a2 = 1 := by omega
    have ho : 1 ≤ A 7 2 := by omega
    have hS := sgN hR.1 hl
    have x64 : stl A l 7 0 < 64 := stl_lt hS.2.2 (by decide)
    refine sp_Z_settle hR.1 Eqv.rfl ho hl (fun σ1 hF => sp_Z_lost hR.1 (hF.eqv Eqv.rfl) ho hl x64 (fun σ2 hF2 => ?_))
    have hE := (hF.trans hF2).eqv Eqv.rfl
    have bg := gath_bd1 hR.1 ho (j := 10) (p := 10) (Or.inl rfl) hl
    have bl : -1000000000 ≤ lost A l (stl A l 7 0) ∧ lost A l (stl A l 7 0) ≤ 1000000000 := by
      have b1 := sumN_bd (n := sg A l) (f := fun s => if (stl A l 7 0).testBit s then 0 else Dx A (lvs A l s)) (B := 2352240) (fun i hi => by
        have := Ex_bd hR.1 ho (lvs_B2 hR.1 hl hi) (j := 10) (p := 10) (Or.inl rfl)
        have e : Dx A (lvs A l i) = gath A 10 10 [] (lvs A l i) := rfl
        split <;> constructor <;> omega)
      have b2 := Ex_bd hR.1 ho (sw_B hR.1 (x := stl A l 7 0) hl) (j := 10) (p := 10) (Or.inl rfl)
      have e : Dx A (sw A l (stl A l 7 0)) = gath A 10 10 [] (sw A l (stl A l 7 0)) := rfl
      unfold lost
      omega
    have e76 : σ2 7 6 = A 7 6 := hE 7 6 rfl
    rw [e76, w64_id (by omega) (by omega), Int.mul_comm (A 7 6) 60]
    refine sp_X_tell (by omega) (by omega) ?_
    have q0 := hE 49 0 rfl
    have q6 := hE 49 6 rfl
    repeat' first
      | with_reducible refine e_M_law ?_
      | with_reducible refine e_M_wrongLook ?_
      | with_reducible refine e_M_isPart ?_
      | with_reducible refine e_M_isLook ?_
      | with_reducible refine e_M_in ?_
      | with_reducible refine xr1 ?_
      | with_reducible refine xr2 ?_
      | with_reducible refine xr3 ?_
      | with_reducible refine xr4 ?_
      | with_reducible refine xr6 ?_
      | with_reducible refine mr1 ?_
      | with_reducible refine mr2 ?_
      | with_reducible refine mr3 ?_
      | with_reducible refine mr4 ?_
      | with_reducible refine mr6 ?_
      | with_reducible refine xf1 ?_
      | with_reducible refine xf2 ?_
      | with_reducible refine xf3 ?_
      | with_reducible refine xf6 ?_
      | with_reducible refine mf1 ?_
      | with_reducible refine mf2 ?_
      | with_reducible refine mf3 ?_
      | with_reducible refine mf6 ?_
      | with_reducible exact isB0
      | with_reducible exact isB1
      | with_reducible refine And.intro ?_ ?_
      | (with_reducible refine fun (hz : (_ : Int) < _) => ?_) <;> ((try simp (discharger := first | decide | omega) only [ms_eq, ms_nk, ms_ni, w32_id, w64_id, Int.toNat_natCast, not_true_eq_false, not_false_eq_true, q0, q6] at hz) ; (try (exfalso; omega)))
      | (with_reducible refine fun (hz : (_ : Int) ≤ _) => ?_) <;> ((try simp (discharger := first | decide | omega) only [ms_eq, ms_nk, ms_ni, w32_id, w64_id, Int.toNat_natCast, not_true_eq_false, not_false_eq_true, q0, q6] at hz) ; (try (exfalso; omega)))
      | (with_reducible refine fun (hz : (_ : Int) = _) => ?_) <;> ((try simp (discharger := first | decide | omega) only [ms_eq, ms_nk, ms_ni, w32_id, w64_id, Int.toNat_natCast, not_true_eq_false, not_false_eq_true, q0, q6] at hz) ; (try (exfalso; omega)))
      | (with_reducible refine fun (hz : ¬ (_ : Int) = _) => ?_) <;> ((try simp (discharger := first | decide | omega) only [ms_eq, ms_nk, ms_ni, w32_id, w64_id, Int.toNat_natCast, not_true_eq_false, not_false_eq_true, q0, q6] at hz) ; (try (exfalso; omega)))
      | (with_reducible refine fun (hz : _ ∨ _) => ?_) <;> ((try simp (discharger := first | decide | omega) only [ms_eq, ms_nk, ms_ni, w32_id, w64_id, Int.toNat_natCast, not_true_eq_false, not_false_eq_true, q0, q6] at hz) ; (try (exfalso; omega)))
      | omega
      | (simp (discharger := first | decide | omega) only [ms_eq, ms_nk, ms_ni, w32_id, w64_id, Int.toNat_natCast, not_true_eq_false, not_false_eq_true, q0, q6] ; omega)
    refine sp_M_findShown hR.1 hE ho hl (fun σ3 hF3 => ?_)
    exact sp_M_law30 hR (hF3.eqv hE) ho h6 hp3 hl x64 rfl
