-- PURE, 23: what is kept back, by the reference; shown, law
def lv4 (A : Mem) (l s t : Nat) : Int := if t < tN A then lvs A l s t else 0
def pS (A : Mem) (l x t k : Nat) : Int := sumN k (fun s => if x.testBit s then 0 else lv4 A l s t)
theorem pS_sw {A : Mem} {l x t : Nat} (ht : t < tN A) : pS A l x t (sg A l) = sw A l x t := by
  unfold pS sw swP
  rw [← sumN_mul]
  refine sumN_congr (fun s _ => ?_)
  split
  · exact (Int.mul_zero _).symm
  · unfold lv4
    rw [if_pos ht]
    rfl
theorem pS_bd {ms : Nat → Nat → Int} {A : Mem} (hR : SR 7 ms A) {l x t k : Nat} (hl : (l : Int) < A 7 10) (hk : k ≤ sg A l) : -40000 ≤ pS A l x t k ∧ pS A l x t k ≤ 40000 := by
  have hS := sgN hR hl
  have := sumN_bd (n := k) (f := fun s => if x.testBit s then 0 else lv4 A l s t) (B := 5940) (fun s hs => by
    split
    · constructor <;> omega
    · unfold lv4
      split
      · rename_i ht
        have := lvs_B2 hR hl (s := s) (by omega) t ht
        constructor <;> omega
      · constructor <;> omega)
  have e : (k : Int) * 5940 ≤ 40000 := by omega
  unfold pS
  omega
theorem sp_M_beSilent {d : Nat} {A σ : Mem} {Q : Int → Mem → Prop} (hR : SR 7 (mLive A) A) (hE : Eqv A σ) {l x : Nat} (hl : (l : Int) < A 7 10) (hx : x < 64) (hQ : ∀ r σ1, MF σ σ1 → (∀ t, t < tN A → σ1 67 t = sw A l x t) → ((r = 1 ∧ 0 < sumN (tN A) (sw A l x)) ∨ (r = 0 ∧ ¬ 0 < sumN (tN A) (sw A l x))) → Q r σ1) : wp (d + 3) m_M_beSilent [.inr (.inr 49), .inl (l : Int), .inl (x : Int)] σ Q := by
  have hS := sgN hR hl
  have hLk := hR.lk
  have h4 := tN4 hR
  have h53 : ∀ σ1, MF σ σ1 → σ1 53 l = ((sg A l : Nat) : Int) := fun σ1 hF => by rw [← hS.1]; exact ((hF.eqv hE) 53 l rfl).trans (hR.sgn hl).1
  refine e_M_beSilent ?_
  refine upto (n := sg A l) (P := fun s => ∀ σ1, MF σ σ1 → K_M_beSilent_14 (d + 2) Q (l : Int) (x : Int) (pS A l x 0 s) (pS A l x 1 s) (pS A l x 2 s) (pS A l x 3 s) ((s : Nat) : Int) σ1) (fun σ1 hF => ?_) (fun s hs ih σ1 hF => ?_) σ MF.rfl
  · refine e_M_beSilent_14 ⟨⟨by omega, by omega⟩, fun h => by rw [Int.toNat_natCast, h53 σ1 hF] at h; omega, fun _ => ?_⟩
    have hF2 : MF σ (mset (mset (mset (mset σ1 67 0 (pS A l x 0 (sg A l))) 67 1 (pS A l x 1 (sg A l))) 67 2 (pS A l x 2 (sg A l))) 67 3 (pS A l x 3 (sg A l))) := hF.set.set.set.set
    have hw : ∀ t, t < tN A → mset (mset (mset (mset σ1 67 0 (pS A l x 0 (sg A l))) 67 1 (pS A l x 1 (sg A l))) 67 2 (pS A l x 2 (sg A l))) 67 3 (pS A l x 3 (sg A l)) 67 t = sw A l x t := fun t ht => by
      rw [← pS_sw ht]
      match t, ht with
      | 0, _ => rfl
      | 1, _ => rfl
      | 2, _ => rfl
      | 3, _ => rfl
      | t + 4, ht => omega
    refine sp_M_allMass hR (hF2.eqv hE) ((sw_B hR hl).bd (by omega)) hw ⟨fun h => hQ 1 _ hF2 hw (Or.inl ⟨rfl, h⟩), fun h => hQ 0 _ hF2 hw (Or.inr ⟨rfl, by omega⟩)⟩
  · have e1 : w32 ((s : Int) + 1) = ((s + 1 : Nat) : Int) := w32_eq (by omega) (by omega)
    have es : ∀ t, pS A l x t (s + 1) = pS A l x t s + (if x.testBit s then 0 else lv4 A l s t) := fun t => rfl
    refine e_M_beSilent_14 ⟨⟨by omega, by omega⟩, fun _ => ?_, fun h => by rw [Int.toNat_natCast, h53 σ1 hF] at h; omega⟩
    rw [bit_eq hx (by omega), e1]
    refine ⟨fun h => ?_, fun h => ?_⟩
    · have hb := bit0 h
      refine sp_M_leave hR (hF.eqv hE) hl (by omega) (fun r σ2 hF2 hw hw0 hr => ⟨fun h2 => ?_, fun h2 => ?_⟩)
      · have z : ∀ t, lv4 A l s t = 0 := fun t => by
          unfold lv4
          split
          · rename_i ht
            rcases hr with h3 | h3
            · omega
            · exact h3.2 t ht
          · rfl
        have := ih σ2 (hF.trans hF2)
        simp only [es, z, ite_self, Int.add_zero] at this
        exact this
      · have e6 : ∀ t, t < 4 → σ2 67 t = lv4 A l s t := fun t ht => by
          unfold lv4
          split
          · rename_i h5; exact hw t h5
          · rename_i h5; exact hw0 t ht (by omega)
        have := ih σ2 (hF.trans hF2)
        have b0 := pS_bd hR (x := x) (t := 0) hl (show s + 1 ≤ sg A l by omega)
        have b1 := pS_bd hR (x := x) (t := 1) hl (show s + 1 ≤ sg A l by omega)
        have b2 := pS_bd hR (x := x) (t := 2) hl (show s + 1 ≤ sg A l by omega)
        have b3 := pS_bd hR (x := x) (t := 3) hl (show s + 1 ≤ sg A l by omega)
        simp only [es, hb, Bool.false_eq_true, if_false] at this b0 b1 b2 b3
        rw [e6 0 (by omega), e6 1 (by omega), e6 2 (by omega), e6 3 (by omega), w64_id (by omega) (by omega), w64_id (by omega) (by omega), w64_id (by omega) (by omega), w64_id (by omega) (by omega)]
        exact this
    · have hb := bit1 h
      have := ih σ1 hF
      simp only [es, hb, if_true, Int.add_zero] at this
      exact this
theorem sp_M_Ex {d : Nat} {A σ : Mem} {Q : Int → Mem → Prop} (hR : SR 7 (mLive A) A) (hE : Eqv A σ) (ho : 1 ≤ A 7 2) {wi p : Nat} {wI : Int} (hwI : wI = (wi : Int)) (hwi : wi ≤ 2) (hp : p = 10 + wi) {w : Nat → Int} (hb : bdW A w) (hw : ∀ t, t < tN A → σ 67 t = w t) (hQ : Q (gath A 10 p [] w) σ) : wp (d + 2) m_M_doneBy [.inr (.inr 49), .inl 0] σ (fun r3 s4 => wp (d + 2) m_M_sumOf [.inr (.inr 49), .inl wI, .inl r3] s4 Q) := by
  subst hwI hp
  exact sp_M_doneBy (j := 10) hR hE ho (Or.inl ⟨rfl, rfl⟩) hb hw (sp_M_sumOf hR hE hwi (act_lt hR ho) hb hw hQ)
/-- signs that are not shown -/
def unsh (A : Mem) (l x : Nat) : Int := sumN (sg A l) (fun s => if x.testBit s then 0 else 1)
theorem sumN_lt {f g : Nat → Int} {k : Nat} : ∀ {n : Nat}, (∀ i, i < n → f i ≤ g i) → k < n → f k < g k → sumN n f < sumN n g
  | 0, _, h, _ => absurd h (by omega)
  | n + 1, h, hk, hl => by
    have mono : ∀ m, m ≤ n → sumN m f ≤ sumN m g := by
      intro m
      induction m with
      | zero => intro _; exact Int.le_refl _
      | succ m ih => intro hm; exact Int.add_le_add (ih (by omega)) (h m (by omega))
    show sumN n f + f n < sumN n g + g n
    by_cases e : k = n
    · subst e
      have := mono k (Nat.le_refl _)
      omega
    · have := sumN_lt (n := n) (k := k) (fun i hi => h i (by omega)) (by omega) hl
      have := h n (by omega)
      omega
theorem mb_bit {A : Mem} {l x : Nat} (h : ¬ mb A l x = 0) : ∃ s, s < sg A l ∧ (mb A l x).testBit s = true ∧ x.testBit s = false := by
  unfold mb at h ⊢
  split at h
  · rename_i hp
    rw [if_pos hp]
    have : ∃ s, (bitsOf (moreB A l x) (sg A l)).testBit s = true := Nat.exists_testBit_of_ne_zero h
    obtain ⟨s, hs⟩ := this
    have hs2 := hs
    rw [bitsOf_test] at hs2
    have h3 : s < sg A l ∧ moreB A l x s = true := by simpa using hs2
    refine ⟨s, h3.1, hs, ?_⟩
    have := h3.2
    unfold moreB at this
    cases hx : x.testBit s with
    | true => rw [hx] at this; simp at this
    | false => rfl
  · exact absurd rfl h
theorem unsh_lt {A : Mem} {l x : Nat} (h : ¬ mb A l x = 0) : unsh A l (x ||| mb A l x) < unsh A l x := by
  obtain ⟨s, hs, h1, h2⟩ := mb_bit h
  refine sumN_lt (k := s) (fun i _ => ?_) hs ?_
  · rw [Nat.testBit_or]
    cases x.testBit i <;> cases (mb A l x).testBit i <;> simp
  · rw [Nat.testBit_or, h1, h2]
    decide
theorem unsh_nn {A : Mem} {l x : Nat} : 0 ≤ unsh A l x := sumN_nn (fun s _ => by split <;> omega)
theorem stl_more {A : Mem} {l : Nat} : ∀ {n x : Nat}, unsh A l x ≤ (n : Int) → stl A l (n + 1) x = stl A l n x
  | 0, x, h => by
    have : mb A l x = 0 := Classical.byContradiction (fun z => by
      have := unsh_lt z
      have := unsh_nn (A := A) (l := l) (x := x ||| mb A l x)
      omega)
    show (if mb A l x = 0 then x else _) = x
    rw [if_pos this]
  | n + 1, x, h => by
    show (if mb A l x = 0 then x else stl A l (n + 1) (x ||| mb A l x)) = (if mb A l x = 0 then x else stl A l n (x ||| mb A l x))
    by_cases e : mb A l x = 0
    · rw [if_pos e, if_pos e]
    · have := unsh_lt e
      rw [if_neg e, if_neg e, stl_more (by omega)]
theorem or_more {A : Mem} {l x : Nat} {p : Nat → Bool} {s : Nat} (hx : x < 64) (hs : s < 6) (h : p s = true) : orI ((x ||| bitsOf p s : Nat) : Int) (shlI 1 (s : Int)) = ((x ||| bitsOf p (s + 1) : Nat) : Int) := by
  rw [shl_eq (by omega), or_eq (or64 hx (bits64 (by omega))) (Nat.lt_of_lt_of_le (Nat.pow_lt_pow_right (by decide) hs) (Nat.le_refl _)), bitsOf_t h, Nat.or_assoc]
theorem or_ne {A : Mem} {l x : Nat} (h : ¬ mb A l x = 0) : x ||| mb A l x ≠ x := fun z => by
  have := unsh_lt h
  rw [z] at this
  omega
theorem sp_M_findShown {d : Nat} {A σ : Mem} {Q : Int → Mem → Prop} (hR : SR 7 (mLive A) A) (hE : Eqv A σ) (ho : 1 ≤ A 7 2) {l : Nat} (hl : (l : Int) < A 7 10) (hQ : ∀ σ1, MF σ σ1 → Q ((stl A l 7 0 : Nat) : Int) σ1) : wp (d + 4) m_M_findShown [.inr (.inr 49), .inl (l : Int)] σ Q := by
  have hS := sgN hR hl
  have hLk := hR.lk
  have h53 : ∀ σ1, MF σ σ1 → σ1 53 l = ((sg A l : Nat) : Int) := fun σ1 hF => by rw [← hS.1]; exact ((hF.eqv hE) 53 l rfl).trans (hR.sgn hl).1
  refine e_M_findShown ?_
  have p11 : isPay 11 := Or.inr (Or.inl rfl)
  have loop : ∀ n x : Nat, x < 64 → unsh A l x ≤ (n : Int) → ∀ σ1, MF σ σ1 → (∀ σ1, MF σ σ1 → Q ((stl A l (n + 1) x : Nat) : Int) σ1) → K_M_findShown_4 (d + 3) Q (l : Int) (x : Int) 1 σ1 := by
    intro n
    induction n with
    | zero => ?_
    | succ n ih => ?_
    all_goals
      intro x hx hu σ1 hF hq
      have hBs := sw_B hR (x := x) hl
      have stop : mb A l x = 0 → ∀ σ2, MF σ σ2 → Q ((x : Nat) : Int) σ2 := fun h0 σ2 hF2 => by
        have q := hq σ2 hF2
        unfold stl at q
        rw [if_pos h0] at q
        exact q
      refine e_M_findShown_4 ⟨fun h => by omega, fun _ => sp_M_beSilent hR (hF.eqv hE) hl hx (fun r σ2 hF2 hw hr => ⟨fun h => ?_, fun h => ?_⟩)⟩
      · refine e_M_findShown_4 ⟨fun _ => stop ?_ σ2 (hF.trans hF2), fun h => by omega⟩
        rcases hr with h2 | h2
        · omega
        · exact if_neg h2.2
      · have hp : 0 < sumN (tN A) (sw A l x) := by
          rcases hr with h2 | h2
          · exact h2.2
          · exact absurd h2.1 h
        have hm : mb A l x = bitsOf (moreB A l x) (sg A l) := if_pos hp
        have hE2 := (hF.trans hF2).eqv hE
        refine sp_M_Ex (wi := 1) (p := 11) hR hE2 ho rfl (by omega) rfl (hBs.bd (by omega)) hw (sp_M_allMass hR hE2 (hBs.bd (by omega)) hw ?_)
        have inner := upto (n := sg A l) (P := fun s => ∀ σ3, MF σ σ3 → K_M_findShown_43 (d + 3) Q (l : Int) (x : Int) (Ex A (sw A l x)) (sumN (tN A) (sw A l x)) ((x ||| bitsOf (moreB A l x) s : Nat) : Int) ((s : Nat) : Int) σ3) (fun σ3 hF3 => ?_) (fun s hs ih2 σ3 hF3 => ?_)
        · have i0 := inner σ2 (hF.trans hF2)
          have e0 : x ||| bitsOf (moreB A l x) 0 = x := Nat.or_zero x
          rw [e0] at i0
          exact i0
        · refine e_M_findShown_43 ⟨⟨by omega, by omega⟩, fun h => by rw [Int.toNat_natCast, h53 σ3 hF3] at h; omega, fun _ => ?_⟩
          rw [← hm]
          refine ⟨fun h2 => ?_, fun h2 => ?_⟩
          · have hz : mb A l x = 0 := Classical.byContradiction (fun z => or_ne z (by omega))
            refine e_M_findShown_4 ⟨fun _ => ?_, fun h => by omega⟩
            rw [h2]
            exact stop hz σ3 hF3
          · have hz : ¬ mb A l x = 0 := fun z => by rw [z, Nat.or_zero] at h2; exact h2 rfl
            have hlt := unsh_lt hz
            have hnn := unsh_nn (A := A) (l := l) (x := x ||| mb A l x)
            first
              | (exfalso; omega)
              | (refine ih _ (or64 hx (mb_lt hS.2.2)) (by omega) σ3 hF3 (fun σ4 hF4 => ?_)
                 have q := hq σ4 hF4
                 have e7 : stl A l (n + 1 + 1) x = stl A l (n + 1) (x ||| mb A l x) := if_neg hz
                 rw [e7] at q
                 exact q)
        · have e1 : w32 ((s : Int) + 1) = ((s + 1 : Nat) : Int) := w32_eq (by omega) (by omega)
          have hLs := lvs_B2 hR hl hs
          refine e_M_findShown_43 ⟨⟨by omega, by omega⟩, fun _ => ?_, fun h => by rw [Int.toNat_natCast, h53 σ3 hF3] at h; omega⟩
          rw [bit_eq hx (by omega), e1]
          refine ⟨fun h2 => ?_, fun h2 => ?_⟩
          · have hb := bit0 h2
            refine sp_M_leave hR (hF3.eqv hE) hl (by omega) (fun r2 σ4 hF4 hw4 _ hr4 => ⟨fun h3 => ?_, fun h3 => ?_⟩)
            · have hc : comB A l s = false := by
                rcases hr4 with h5 | h5
                · omega
                · unfold comB; rw [sumN_z h5.2]; rfl
              have := ih2 σ4 (hF3.trans hF4)
              rw [bitsOf_f (by unfold moreB; rw [hc, Bool.and_false, Bool.false_and])] at this
              exact this
            · have hc : comB A l s = true := by
                rcases hr4 with h5 | h5
                · exact decide_eq_true h5.2
                · exact absurd h5.1 h3
              have hE4 := (hF3.trans hF4).eqv hE
              refine sp_M_Ex (wi := 1) (p := 11) hR hE4 ho rfl (by omega) rfl (hLs.bd (by omega)) hw4 (sp_M_allMass hR hE4 (hLs.bd (by omega)) hw4 ?_)
              have eE : gath A 10 11 [] (lvs A l s) = Ex A (lvs A l s) := rfl
              rw [eE, mul_small (a := Ex A (sw A l x)) (Ex_bd hR ho hBs p11) (Ms_bd hR hLs), mul_small (a := Ex A (lvs A l s)) (Ex_bd hR ho hLs p11) (Ms_bd hR hBs)]
              refine ⟨fun h6 => ?_, fun h6 => ?_⟩
              · rw [or_more (A := A) (l := l) hx (by omega) (by unfold moreB; rw [hb, hc, decide_eq_true h6]; rfl)]
                exact ih2 σ4 (hF3.trans hF4)
              · have := ih2 σ4 (hF3.trans hF4)
                rw [bitsOf_f (by unfold moreB; rw [decide_eq_false (by omega), Bool.and_false])] at this
                exact this
          · have hb := bit1 h2
            have := ih2 σ3 hF3
            rw [bitsOf_f (by unfold moreB; rw [hb]; rfl)] at this
            exact this
  have hu : unsh A l 0 ≤ ((6 : Nat) : Int) := by
    have := sumN_bd (n := sg A l) (f := fun s => if (0 : Nat).testBit s then (0 : Int) else 1) (B := 1) (fun i _ => by split <;> constructor <;> omega)
    unfold unsh
    omega
  exact loop 6 0 (by decide) hu σ MF.rfl hQ
theorem pr_shown {A : Mem} (hR : RR A) {a1 : Int} (i1 : InI a1) : wp 40 m_X_shown [.inr (.inr 0), .inl a1] A (fun r σ1 => wp 40 m_M_shown [.inr (.inr 49), .inl a1] σ1 (fun r2 σ2 => PQ r r2 σ2)) := by
  have sc := hR.sc
  unfold InI at i1
  repeat' first
    | with_reducible refine e_X_shown ?_
    | with_reducible refine e_S_lacksLook ?_
    | with_reducible refine e_S_hasLook ?_
    | with_reducible refine xr1 ?_
    | with_reducible refine xr2 ?_
    | with_reducible refine xr3 ?_
    | with_reducible refine xr4 ?_
    | with_reducible refine xr6 ?_
    | with_reducible refine mr1 ?_
    | with_reducible refine mr2 ?_
    | with_reducible refine mr3 ?_
    | with_reducible refine mr4 ?_
    | with_reducible refine mr6 ?_
    | with_reducible refine xf1 ?_
    | with_reducible refine xf2 ?_
    | with_reducible refine xf3 ?_
    | with_reducible refine xf6 ?_
    | with_reducible refine mf1 ?_
    | with_reducible refine mf2 ?_
    | with_reducible refine mf3 ?_
    | with_reducible refine mf6 ?_
    | with_reducible exact isB0
    | with_reducible exact isB1
    | with_reducible refine And.intro ?_ ?_
    | (with_reducible refine fun (hz : (_ : Int) < _) => ?_) <;> ((try simp (discharger := first | decide | omega) only [ms_eq, ms_nk, ms_ni, w32_id, w64_id, Int.toNat_natCast, not_true_eq_false, not_false_eq_true] at hz) ; (try (exfalso; omega)))
    | (with_reducible refine fun (hz : (_ : Int) ≤ _) => ?_) <;> ((try simp (discharger := first | decide | omega) only [ms_eq, ms_nk, ms_ni, w32_id, w64_id, Int.toNat_natCast, not_true_eq_false, not_false_eq_true] at hz) ; (try (exfalso; omega)))
    | (with_reducible refine fun (hz : (_ : Int) = _) => ?_) <;> ((try simp (discharger := first | decide | omega) only [ms_eq, ms_nk, ms_ni, w32_id, w64_id, Int.toNat_natCast, not_true_eq_false, not_false_eq_true] at hz) ; (try (exfalso; omega)))
    | (with_reducible refine fun (hz : ¬ (_ : Int) = _) => ?_) <;> ((try simp (discharger := first | decide | omega) only [ms_eq, ms_nk, ms_ni, w32_id, w64_id, Int.toNat_natCast, not_true_eq_false, not_false_eq_true] at hz) ; (try (exfalso; omega)))
    | (with_reducible refine fun (hz : _ ∨ _) => ?_) <;> ((try simp (discharger := first | decide | omega) only [ms_eq, ms_nk, ms_ni, w32_id, w64_id, Int.toNat_natCast, not_true_eq_false, not_false_eq_true] at hz) ; (try (exfalso; omega)))
    | omega
    | (simp (discharger := first | decide | omega) only [ms_eq, ms_nk, ms_ni, w32_id, w64_id, Int.toNat_natCast, not_true_eq_false, not_false_eq_true] ; omega)
  all_goals first
    | (repeat' first
      | with_reducible refine e_M_shown ?_
      | with_reducible refine e_M_isLook ?_
      | with_reducible refine e_M_in ?_
      | with_reducible refine xr1 ?_
      | with_reducible refine xr2 ?_
      | with_reducible refine xr3 ?_
      | with_reducible refine xr4 ?_
      | with_reducible refine xr6 ?_
      | with_reducible refine mr1 ?_
      | with_reducible refine mr2 ?_
      | with_reducible refine mr3 ?_
      | with_reducible refine mr4 ?_
      | with_reducible refine mr6 ?_
      | with_reducible refine xf1 ?_
      | with_reducible refine xf2 ?_
      | with_reducible refine xf3 ?_
      | with_reducible refine xf6 ?_
      | with_reducible refine mf1 ?_
      | with_reducible refine mf2 ?_
      | with_reducible refine mf3 ?_
      | with_reducible refine mf6 ?_
      | with_reducible exact isB0
      | with_reducible exact isB1
      | with_reducible refine And.intro ?_ ?_
      | (with_reducible refine fun (hz : (_ : Int) < _) => ?_) <;> ((try simp (discharger := first | decide | omega) only [ms_eq, ms_nk, ms_ni, w32_id, w64_id, Int.toNat_natCast, not_true_eq_false, not_false_eq_true] at hz) ; (try (exfalso; omega)))
      | (with_reducible refine fun (hz : (_ : Int) ≤ _) => ?_) <;> ((try simp (discharger := first | decide | omega) only [ms_eq, ms_nk, ms_ni, w32_id, w64_id, Int.toNat_natCast, not_true_eq_false, not_false_eq_true] at hz) ; (try (exfalso; omega)))
      | (with_reducible refine fun (hz : (_ : Int) = _) => ?_) <;> ((try simp (discharger := first | decide | omega) only [ms_eq, ms_nk, ms_ni, w32_id, w64_id, Int.toNat_natCast, not_true_eq_false, not_false_eq_true] at hz) ; (try (exfalso; omega)))
      | (with_reducible refine fun (hz : ¬ (_ : Int) = _) => ?_) <;> ((try simp (discharger := first | decide | omega) only [ms_eq, ms_nk, ms_ni, w32_id, w64_id, Int.toNat_natCast, not_true_eq_false, not_false_eq_true] at hz) ; (try (exfalso; omega)))
      | (with_reducible refine fun (hz : _ ∨ _) => ?_) <;> ((try simp (discharger := first | decide | omega) only [ms_eq, ms_nk, ms_ni, w32_id, w64_id, Int.toNat_natCast, not_true_eq_false, not_false_eq_true] at hz) ; (try (exfalso; omega)))
      | omega
      | (simp (discharger := first | decide | omega) only [ms_eq, ms_nk, ms_ni, w32_id, w64_id, Int.toNat_natCast, not_true_eq_false, not_false_eq_true] ; omega)
       all_goals first
         | exact PQ.rf0 hR (by decide)
         | skip
       done)
    | skip
  obtain ⟨l, rfl⟩ : ∃ k : Nat, a1 = (k : Int) := ⟨a1.toNat, by omega⟩
  have hl : (l : Int) < A 7 10 := by omega
  have ho : 1 ≤ A 7 2 := by omega
  refine sp_Z_settle hR.1 Eqv.rfl ho hl (fun σ1 hF => ?_)
  have hE := hF.eqv Eqv.rfl
  have q0 := hE 49 0 rfl
  have q6 := hE 49 6 rfl
  repeat' first
    | with_reducible refine e_M_shown ?_
    | with_reducible refine e_M_isLook ?_
    | with_reducible refine e_M_in ?_
    | with_reducible refine xr1 ?_
    | with_reducible refine xr2 ?_
    | with_reducible refine xr3 ?_
    | with_reducible refine xr4 ?_
    | with_reducible refine xr6 ?_
    | with_reducible refine mr1 ?_
    | with_reducible refine mr2 ?_
    | with_reducible refine mr3 ?_
    | with_reducible refine mr4 ?_
    | with_reducible refine mr6 ?_
    | with_reducible refine xf1 ?_
    | with_reducible refine xf2 ?_
    | with_reducible refine xf3 ?_
    | with_reducible refine xf6 ?_
    | with_reducible refine mf1 ?_
    | with_reducible refine mf2 ?_
    | with_reducible refine mf3 ?_
    | with_reducible refine mf6 ?_
    | with_reducible exact isB0
    | with_reducible exact isB1
    | with_reducible refine And.intro ?_ ?_
    | (with_reducible refine fun (hz : (_ : Int) < _) => ?_) <;> ((try simp (discharger := first | decide | omega) only [ms_eq, ms_nk, ms_ni, w32_id, w64_id, Int.toNat_natCast, not_true_eq_false, not_false_eq_true, q0, q6] at hz) ; (try (exfalso; omega)))
    | (with_reducible refine fun (hz : (_ : Int) ≤ _) => ?_) <;> ((try simp (discharger := first | decide | omega) only [ms_eq, ms_nk, ms_ni, w32_id, w64_id, Int.toNat_natCast, not_true_eq_false, not_false_eq_true, q0, q6] at hz) ; (try (exfalso; omega)))
    | (with_reducible refine fun (hz : (_ : Int) = _) => ?_) <;> ((try simp (discharger := first | decide | omega) only [ms_eq, ms_nk, ms_ni, w32_id, w64_id, Int.toNat_natCast, not_true_eq_false, not_false_eq_true, q0, q6] at hz) ; (try (exfalso; omega)))
    | (with_reducible refine fun (hz : ¬ (_ : Int) = _) => ?_) <;> ((try simp (discharger := first | decide | omega) only [ms_eq, ms_nk, ms_ni, w32_id, w64_id, Int.toNat_natCast, not_true_eq_false, not_false_eq_true, q0, q6] at hz) ; (try (exfalso; omega)))
    | (with_reducible refine fun (hz : _ ∨ _) => ?_) <;> ((try simp (discharger := first | decide | omega) only [ms_eq, ms_nk, ms_ni, w32_id, w64_id, Int.toNat_natCast, not_true_eq_false, not_false_eq_true, q0, q6] at hz) ; (try (exfalso; omega)))
    | omega
    | (simp (discharger := first | decide | omega) only [ms_eq, ms_nk, ms_ni, w32_id, w64_id, Int.toNat_natCast, not_true_eq_false, not_false_eq_true, q0, q6] ; omega)
  exact sp_M_findShown hR.1 hE ho hl (fun σ2 hF2 => PQ.eqv hR rfl (hF2.eqv hE))
