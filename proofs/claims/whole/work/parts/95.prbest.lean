-- best
theorem SV.scl {A : Mem} (h2 : A 7 1 = 2) {a b h a2 b2 h3 : Nat → Int} {E F : Nat} (s : SV A a b h E) (t : SV A a2 b2 h3 F) (P : PT A a b h E) (P2 : PT A a2 b2 h3 F) : E = F ∧ SCL a b h a2 b2 h3 E := by
  have u := s.1.uniq t.1
  obtain ⟨rfl, u⟩ := u
  have ab : ∀ i, i ≤ E → a i * b2 i = a2 i * b i := fun i hi => by
    by_cases z : i = E
    · subst z; rw [s.2.1.1, s.2.1.2, t.2.1.1, t.2.1.2]
    · exact u i (by omega)
  refine ⟨rfl, fun i hi => ⟨ab i hi, ?_⟩⟩
  have b1 := P.2.1 i hi
  have b3 := P2.2.1 i hi
  rw [s.2.2 i hi, t.2.2 i hi]
  exact hX_eq h2 (by omega) (by omega) (ab i hi)
theorem B1.mul {A : Mem} {a b h : Nat → Int} {E L R : Nat} {V : Nat → Nat → Prop} {T1 T2 : Int} (P : PT A a b h E) (s : B1 a b h E V L R T1 T2) : ∃ c : Int, T2 = b E * c ∧ 0 < c ∧ c ≤ 156816 := by
  have be := P.2.1 E (Nat.le_refl E)
  rcases s with ⟨_, _, _, z4, _⟩ | ⟨z1, _, _, z4, _⟩
  · exact ⟨1, by rw [z4, Int.mul_one], by decide, by decide⟩
  · refine ⟨od a b R L, z4, ?_, ?_⟩
    · have := (z1.adm P).1.2.2
      have x1 := z1.1
      unfold od
      rcases this with w | w
      · omega
      · omega
    · exact (od_bd P (Nat.le_of_lt z1.2.1) (Nat.le_of_lt z1.1)).2
theorem pr_best {A : Mem} (hR : RR A) {a1 : Int} (i1 : InI a1) {a2 : Int} (i2 : InI a2) : wp 40 m_X_best [.inr (.inr 0), .inl a1, .inl a2] A (fun r σ1 => wp 40 m_M_best [.inr (.inr 49), .inl a1, .inl a2] σ1 (fun r2 σ2 => PQ r r2 σ2)) := by
  have sc := hR.sc
  by_cases hw : 0 ≤ a1 ∧ a1 ≤ 3
  · by_cases hp : a2 = 0 ∨ a2 = 1
    · by_cases h2 : A 7 1 = 2
      · have h3 := hR.two h2
        have bf := hR.1.bef h2
        refine e_X_best ⟨fun h => by omega, fun _ => ⟨fun h => by omega, fun _ => sp_X_isPart1 hp ⟨fun h => absurd h (by decide), fun _ => sp_S_hasTwo1 h3.1 h2 ⟨fun h => absurd h (by decide), fun _ => ?_⟩⟩⟩⟩
        refine sp_L_survey (d := 34) hR.1 h2 h3.2.1 Eqv.rfl (fun σ1 E g1 g2 g3 g4 => ?_)
        have e1 := SF.eqv Eqv.rfl g1
        have P := g4.pt hR.1 h2 h3.2.1 g3
        refine sp_L_climb (d := 35) P g2 (fun σ2 g5 => ?_)
        obtain ⟨f2, L, R, eL, eR, hB⟩ := g5
        have e2 := GFx.eqv e1 f2
        have ar := f2.arr
        have bd := hB.bd P
        have e8 : σ2 39 8 = (E : Int) := by rw [f2 39 8 (by omega)]; exact g2
        -- what the reference does then
        have ref : ∀ K : Int → Prop, (∀ (a b h : Nat → Int) (L2 R2 : Nat) (S1 S2 : Int), PT A a b h E → SCL (σ1 42) (σ1 43) (σ1 44) a b h E → (a E = A 9 1 ∧ b E = A 7 6 ∧ h E = hX A (A 9 1) (A 7 6)) → (L2 ≤ E ∧ R2 ≤ E) → 0 < S2 → (σ1 42 L * σ1 43 L2 = σ1 42 L2 * σ1 43 L ∧ σ1 42 R * σ1 43 R2 = σ1 42 R2 * σ1 43 R ∧ σ2 39 11 * S2 = S1 * σ2 39 12) → (a1 = 0 → K (frP (a L2) (b L2) a2)) ∧ (a1 = 1 → K (frP (a R2) (b R2) a2)) ∧ (a1 = 2 → K (frP S1 S2 a2)) ∧ (a1 = 3 → K (frP (S1 * A 7 6 - hX A (A 9 1) (A 7 6) * S2) (S2 * A 7 6) a2))) → wp 40 m_M_best [.inr (.inr 49), .inl a1, .inl a2] σ2 (fun r2 s2 => K r2 ∧ RR s2) := fun K hK => by
          refine e_M_best (e_M_in ⟨fun h => by omega, fun _ => ⟨fun h => by omega, fun _ => ⟨fun h => absurd h (by decide), fun _ => sp_M_isPart1 (d := 37) hp ⟨fun h => absurd h (by decide), fun _ => ⟨fun _ => ?_, fun h => absurd ((e2 49 0 rfl).trans h3.2.2) h⟩⟩⟩⟩⟩)
          refine sp_M_findBest (d := 33) hR.1 h2 h3.2.1 e2 (fun σ3 F L2 R2 k1 k2 k3 k4 k5 k6 k7 k8 k9 k10 => ?_)
          have sl := g4.scl h2 k4 P k5
          obtain ⟨rfl, sl⟩ := sl
          have e3 := hR.eqv (BF2.eqv e2 k1)
          have q := k10.1
          have bL := k5.2.1 L2 q.1
          have bR := k5.2.1 R2 q.2.1
          have hbb := hX_bd hR.1 h2 h3.2.1 (p := A 9 1) (q := A 7 6) ⟨by omega, by omega⟩
          have hEE : σ3 75 E = hX A (A 9 1) (A 7 6) := by rw [k4.2.2 E (Nat.le_refl E), k4.2.1.1, k4.2.1.2]
          have res := hK (σ3 71) (σ3 72) (σ3 75) L2 R2 (σ3 49 46) (σ3 49 47) k5 sl ⟨k4.2.1.1, k4.2.1.2, hEE⟩ ⟨q.1, q.2.1⟩ k10.2.1 (best_eq h2 P hB (k10.sc P k5 sl))
          have s2p := k10.2.1
          rw [k2, k6, k7, Int.toNat_natCast, Int.toNat_natCast, Int.toNat_natCast]
          have qq := q.1
          have qr := q.2.1
          refine ⟨fun h => ⟨⟨by omega, by omega⟩, ⟨by omega, by omega⟩, ⟨by omega, by omega⟩, ?_⟩, fun h => ⟨⟨by omega, by omega⟩, ⟨by omega, by omega⟩, ?_⟩, fun h => ⟨⟨by omega, by omega⟩, ⟨by omega, by omega⟩, ?_⟩, fun h => ?_⟩
          · have m1 := mul_bd (x := σ3 49 46) (y := A 7 6) (Y := 198) k8 ⟨by omega, by omega⟩
            have m2 := mul_bd (x := hX A (A 9 1) (A 7 6)) (X := 19602) (y := σ3 49 47) (Y := 62099136) ⟨by omega, by omega⟩ ⟨by omega, by omega⟩
            have m3 := mul_bd (x := σ3 49 47) (X := 62099136) (y := A 7 6) (Y := 198) ⟨by omega, by omega⟩ ⟨by omega, by omega⟩
            have m4 := Int.mul_pos s2p (show 0 < A 7 6 by omega)
            rw [k4.2.1.2, hEE, w64_id (x := σ3 49 46 * A 7 6) (by omega) (by omega), w64_id (x := hX A (A 9 1) (A 7 6) * σ3 49 47) (by omega) (by omega), w64_id (x := σ3 49 46 * A 7 6 - hX A (A 9 1) (A 7 6) * σ3 49 47) (by omega) (by omega), w64_id (x := σ3 49 47 * A 7 6) (by omega) (by omega)]
            exact sp_M_fr (d := 37) hp ⟨by omega, by omega⟩ ⟨by omega, by omega⟩ ⟨res.2.2.2 (by omega), e3⟩
          · exact sp_M_fr (d := 37) hp ⟨by omega, by omega⟩ ⟨by omega, by omega⟩ ⟨res.1 h, e3⟩
          · exact sp_M_fr (d := 37) hp ⟨by omega, by omega⟩ ⟨by omega, by omega⟩ ⟨res.2.1 h, e3⟩
          · exact sp_M_fr (d := 37) hp ⟨by omega, by omega⟩ ⟨by omega, by omega⟩ ⟨res.2.2.1 h, e3⟩
        have bL := P.2.1 L bd.1.1
        have bR := P.2.1 R bd.1.2
        have bl1 := bd.1.1
        have bl2 := bd.1.2
        refine ⟨fun hlt => ⟨fun h0 => ?_, fun h0 => ?_⟩, fun hge => ⟨fun h0 => ?_, fun h0 => ?_⟩⟩
        · rw [eL, Int.toNat_natCast, ar.1, ar.2.1]
          refine ⟨⟨by omega, by omega⟩, ⟨by omega, by omega⟩, sp_X_tell (d := 37) ⟨by omega, by omega⟩ ⟨by omega, by omega⟩ ?_⟩
          refine wp_conseq (fun r s z => z) (ref (fun r2 => frP (σ1 42 L) (σ1 43 L) a2 = r2) (fun a b h L2 R2 S1 S2 P2 sl hbE hle s2p eqs => ⟨fun _ => ?_, fun h => by omega, fun h => by omega, fun h => by omega⟩))
          have c1 := P.2.1 L2 hle.1
          have c2 := P2.2.1 L2 hle.1
          exact frP_eq (by omega) (by omega) (fr_eq_eq (by omega) (show 0 < σ1 43 L2 by omega) (by omega) eqs.1 (sl L2 hle.1).1)
        · rw [eR, Int.toNat_natCast, ar.1, ar.2.1]
          refine ⟨⟨by omega, by omega⟩, ⟨by omega, by omega⟩, sp_X_tell (d := 37) ⟨by omega, by omega⟩ ⟨by omega, by omega⟩ ?_⟩
          refine wp_conseq (fun r s z => z) (ref (fun r2 => frP (σ1 42 R) (σ1 43 R) a2 = r2) (fun a b h L2 R2 S1 S2 P2 sl hbE hle s2p eqs => ⟨fun h => by omega, fun _ => ?_, fun h => by omega, fun h => by omega⟩))
          have c1 := P.2.1 R2 hle.2
          have c2 := P2.2.1 R2 hle.2
          exact frP_eq (by omega) (by omega) (fr_eq_eq (by omega) (show 0 < σ1 43 R2 by omega) (by omega) eqs.2.1 (sl R2 hle.2).1)
        · refine sp_X_tell (d := 37) ⟨by omega, by omega⟩ ⟨by omega, by omega⟩ ?_
          refine wp_conseq (fun r s z => z) (ref (fun r2 => frP (σ2 39 11) (σ2 39 12) a2 = r2) (fun a b h L2 R2 S1 S2 P2 sl hbE hle s2p eqs => ⟨fun h => by omega, fun h => by omega, fun _ => ?_, fun h => by omega⟩))
          exact frP_eq bd.2.2.1 s2p eqs.2.2
        · obtain ⟨c, hc, cp, cb⟩ := hB.mul P
          have hbb := hX_bd hR.1 h2 h3.2.1 (p := A 9 1) (q := A 7 6) ⟨by omega, by omega⟩
          have hEE : σ1 44 E = hX A (A 9 1) (A 7 6) := by rw [g4.2.2 E (Nat.le_refl E), g4.2.1.1, g4.2.1.2]
          have m1 := mul_bd (x := hX A (A 9 1) (A 7 6)) (X := 19602) (y := c) (Y := 156816) ⟨by omega, by omega⟩ ⟨by omega, by omega⟩
          rw [g4.2.1.2] at hc
          have td : (σ2 39 12).tdiv (A 7 6) = c := by rw [hc]; exact Int.mul_tdiv_cancel_left c (by omega)
          refine e_L_gainAbove ?_
          rw [e8, Int.toNat_natCast, ar.2.1, ar.2.2, g4.2.1.2, hEE, td, w64_id (x := c) (by omega) (by omega), w64_id (x := hX A (A 9 1) (A 7 6) * c) (by omega) (by omega), w64_id (x := σ2 39 11 - hX A (A 9 1) (A 7 6) * c) (by omega) (by omega)]
          refine ⟨⟨by omega, by omega⟩, fun _ => ⟨⟨by omega, by omega⟩, by omega, ?_⟩, fun h => by omega⟩
          refine sp_X_tell (d := 37) ⟨by omega, by omega⟩ ⟨by omega, by omega⟩ ?_
          refine wp_conseq (fun r s z => z) (ref (fun r2 => frP (σ2 39 11 - hX A (A 9 1) (A 7 6) * c) (σ2 39 12) a2 = r2) (fun a b h L2 R2 S1 S2 P2 sl hbE hle s2p eqs => ⟨fun h => by omega, fun h => by omega, fun h => by omega, fun _ => ?_⟩))
          refine frP_eq bd.2.2.1 (Int.mul_pos s2p (by omega)) ?_
          have e := eqs.2.2
          generalize σ2 39 11 = T1 at e ⊢
          generalize σ2 39 12 = T2 at e hc ⊢
          generalize hX A (A 9 1) (A 7 6) = H
          generalize A 7 6 = q at hc ⊢
          have x1 : (T1 - H * c) * (S2 * q) = (T1 * S2) * q - H * S2 * (q * c) := by grind
          have x2 : (S1 * q - H * S2) * T2 = (S1 * T2) * q - H * S2 * T2 := by grind
          rw [x1, x2, e, hc]
      · repeat' first
        | with_reducible refine e_X_best ?_
        | with_reducible refine e_X_isPart ?_
        | with_reducible refine e_S_hasTwo ?_
        | with_reducible refine e_M_best ?_
        | with_reducible refine e_M_isPart ?_
        | with_reducible refine e_M_in ?_
        | with_reducible refine xr1 ?_
        | with_reducible refine xr2 ?_
        | with_reducible refine xr3 ?_
        | with_reducible refine xr4 ?_
        | with_reducible refine xr6 ?_
        | with_reducible refine mr1 ?_
        | with_reducible refine mr2 ?_
        | with_reducible refine mr3 ?_
        | with_reducible refine mr4 ?_
        | with_reducible refine mr6 ?_
        | with_reducible refine xf1 ?_
        | with_reducible refine xf2 ?_
        | with_reducible refine xf3 ?_
        | with_reducible refine xf6 ?_
        | with_reducible refine mf1 ?_
        | with_reducible refine mf2 ?_
        | with_reducible refine mf3 ?_
        | with_reducible refine mf6 ?_
        | with_reducible exact isB0
        | with_reducible exact isB1
        | with_reducible refine And.intro ?_ ?_
        | (with_reducible refine fun (hz : (_ : Int) < _) => ?_) <;> ((try simp (discharger := first | decide | omega) only [ms_eq, ms_nk, ms_ni, w32_id, w64_id, Int.toNat_natCast, not_true_eq_false, not_false_eq_true] at hz) ; (try (exfalso; omega)))
        | (with_reducible refine fun (hz : (_ : Int) ≤ _) => ?_) <;> ((try simp (discharger := first | decide | omega) only [ms_eq, ms_nk, ms_ni, w32_id, w64_id, Int.toNat_natCast, not_true_eq_false, not_false_eq_true] at hz) ; (try (exfalso; omega)))
        | (with_reducible refine fun (hz : (_ : Int) = _) => ?_) <;> ((try simp (discharger := first | decide | omega) only [ms_eq, ms_nk, ms_ni, w32_id, w64_id, Int.toNat_natCast, not_true_eq_false, not_false_eq_true] at hz) ; (try (exfalso; omega)))
        | (with_reducible refine fun (hz : ¬ (_ : Int) = _) => ?_) <;> ((try simp (discharger := first | decide | omega) only [ms_eq, ms_nk, ms_ni, w32_id, w64_id, Int.toNat_natCast, not_true_eq_false, not_false_eq_true] at hz) ; (try (exfalso; omega)))
        | (with_reducible refine fun (hz : _ ∨ _) => ?_) <;> ((try simp (discharger := first | decide | omega) only [ms_eq, ms_nk, ms_ni, w32_id, w64_id, Int.toNat_natCast, not_true_eq_false, not_false_eq_true] at hz) ; (try (exfalso; omega)))
        | omega
        | (simp (discharger := first | decide | omega) only [ms_eq, ms_nk, ms_ni, w32_id, w64_id, Int.toNat_natCast, not_true_eq_false, not_false_eq_true] ; omega)
        all_goals exact PQ.rf0 hR (by decide)
    · repeat' first
      | with_reducible refine e_X_best ?_
      | with_reducible refine e_X_isPart ?_
      | with_reducible refine e_M_best ?_
      | with_reducible refine e_M_isPart ?_
      | with_reducible refine e_M_in ?_
      | with_reducible refine xr1 ?_
      | with_reducible refine xr2 ?_
      | with_reducible refine xr3 ?_
      | with_reducible refine xr4 ?_
      | with_reducible refine xr6 ?_
      | with_reducible refine mr1 ?_
      | with_reducible refine mr2 ?_
      | with_reducible refine mr3 ?_
      | with_reducible refine mr4 ?_
      | with_reducible refine mr6 ?_
      | with_reducible refine xf1 ?_
      | with_reducible refine xf2 ?_
      | with_reducible refine xf3 ?_
      | with_reducible refine xf6 ?_
      | with_reducible refine mf1 ?_
      | with_reducible refine mf2 ?_
      | with_reducible refine mf3 ?_
      | with_reducible refine mf6 ?_
      | with_reducible exact isB0
      | with_reducible exact isB1
      | with_reducible refine And.intro ?_ ?_
      | (with_reducible refine fun (hz : (_ : Int) < _) => ?_) <;> ((try simp (discharger := first | decide | omega) only [ms_eq, ms_nk, ms_ni, w32_id, w64_id, Int.toNat_natCast, not_true_eq_false, not_false_eq_true] at hz) ; (try (exfalso; omega)))
      | (with_reducible refine fun (hz : (_ : Int) ≤ _) => ?_) <;> ((try simp (discharger := first | decide | omega) only [ms_eq, ms_nk, ms_ni, w32_id, w64_id, Int.toNat_natCast, not_true_eq_false, not_false_eq_true] at hz) ; (try (exfalso; omega)))
      | (with_reducible refine fun (hz : (_ : Int) = _) => ?_) <;> ((try simp (discharger := first | decide | omega) only [ms_eq, ms_nk, ms_ni, w32_id, w64_id, Int.toNat_natCast, not_true_eq_false, not_false_eq_true] at hz) ; (try (exfalso; omega)))
      | (with_reducible refine fun (hz : ¬ (_ : Int) = _) => ?_) <;> ((try simp (discharger := first | decide | omega) only [ms_eq, ms_nk, ms_ni, w32_id, w64_id, Int.toNat_natCast, not_true_eq_false, not_false_eq_true] at hz) ; (try (exfalso; omega)))
      | (with_reducible refine fun (hz : _ ∨ _) => ?_) <;> ((try simp (discharger := first | decide | omega) only [ms_eq, ms_nk, ms_ni, w32_id, w64_id, Int.toNat_natCast, not_true_eq_false, not_false_eq_true] at hz) ; (try (exfalso; omega)))
      | omega
      | (simp (discharger := first | decide | omega) only [ms_eq, ms_nk, ms_ni, w32_id, w64_id, Int.toNat_natCast, not_true_eq_false, not_false_eq_true] ; omega)
      all_goals exact PQ.rf0 hR (by decide)
  · repeat' first
    | with_reducible refine e_X_best ?_
    | with_reducible refine e_X_isPart ?_
    | with_reducible refine e_M_best ?_
    | with_reducible refine e_M_isPart ?_
    | with_reducible refine e_M_in ?_
    | with_reducible refine xr1 ?_
    | with_reducible refine xr2 ?_
    | with_reducible refine xr3 ?_
    | with_reducible refine xr4 ?_
    | with_reducible refine xr6 ?_
    | with_reducible refine mr1 ?_
    | with_reducible refine mr2 ?_
    | with_reducible refine mr3 ?_
    | with_reducible refine mr4 ?_
    | with_reducible refine mr6 ?_
    | with_reducible refine xf1 ?_
    | with_reducible refine xf2 ?_
    | with_reducible refine xf3 ?_
    | with_reducible refine xf6 ?_
    | with_reducible refine mf1 ?_
    | with_reducible refine mf2 ?_
    | with_reducible refine mf3 ?_
    | with_reducible refine mf6 ?_
    | with_reducible exact isB0
    | with_reducible exact isB1
    | with_reducible refine And.intro ?_ ?_
    | (with_reducible refine fun (hz : (_ : Int) < _) => ?_) <;> ((try simp (discharger := first | decide | omega) only [ms_eq, ms_nk, ms_ni, w32_id, w64_id, Int.toNat_natCast, not_true_eq_false, not_false_eq_true] at hz) ; (try (exfalso; omega)))
    | (with_reducible refine fun (hz : (_ : Int) ≤ _) => ?_) <;> ((try simp (discharger := first | decide | omega) only [ms_eq, ms_nk, ms_ni, w32_id, w64_id, Int.toNat_natCast, not_true_eq_false, not_false_eq_true] at hz) ; (try (exfalso; omega)))
    | (with_reducible refine fun (hz : (_ : Int) = _) => ?_) <;> ((try simp (discharger := first | decide | omega) only [ms_eq, ms_nk, ms_ni, w32_id, w64_id, Int.toNat_natCast, not_true_eq_false, not_false_eq_true] at hz) ; (try (exfalso; omega)))
    | (with_reducible refine fun (hz : ¬ (_ : Int) = _) => ?_) <;> ((try simp (discharger := first | decide | omega) only [ms_eq, ms_nk, ms_ni, w32_id, w64_id, Int.toNat_natCast, not_true_eq_false, not_false_eq_true] at hz) ; (try (exfalso; omega)))
    | (with_reducible refine fun (hz : _ ∨ _) => ?_) <;> ((try simp (discharger := first | decide | omega) only [ms_eq, ms_nk, ms_ni, w32_id, w64_id, Int.toNat_natCast, not_true_eq_false, not_false_eq_true] at hz) ; (try (exfalso; omega)))
    | omega
    | (simp (discharger := first | decide | omega) only [ms_eq, ms_nk, ms_ni, w32_id, w64_id, Int.toNat_natCast, not_true_eq_false, not_false_eq_true] ; omega)
    all_goals exact PQ.rf0 hR (by decide)
