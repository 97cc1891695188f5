-- PURE, 32: rivals
def mc (x c : Nat) : Bool := decide (c = 0) || x.testBit (c - 1)
def one1 (A : Mem) (i : Nat) : List Nat := if i = 0 then [] else [(A 15 (i - 1)).toNat]
def ijL (A : Mem) (i j : Nat) : List Nat := one1 A i ++ one1 A j
def rv (A : Mem) (i j : Nat) : Int := gath A 10 11 (ijL A i j) (fun t => A 9 t) * 60 ^ (2 - (ijL A i j).length)
def rsB (A : Mem) (a b i j : Nat) : Nat → Bool
  | 0 => true
  | o + 1 => rsB A a b i j o && (!mc a o || decide (rv A o j ≤ rv A i j)) && (!mc b o || decide (rv A i j ≤ rv A i o))
def PB (A : Mem) (a b i j : Nat) : Bool := mc a i && mc b j && rsB A a b i j 7
def upS (A : Mem) (a b i j : Nat) (s : Nat × Nat × Nat) : Nat × Nat × Nat := if PB A a b i j then (s.1 + 1, if s.1 = 0 then i else s.2.1, if s.1 = 0 then j else s.2.2) else s
def rowS (A : Mem) (a b i : Nat) : Nat → Nat × Nat × Nat → Nat × Nat × Nat
  | 0, s => s
  | j + 1, s => upS A a b i j (rowS A a b i j s)
def allS (A : Mem) (a b : Nat) (m : Nat) : Nat → Nat × Nat × Nat
  | 0 => (0, 0, 0)
  | i + 1 => rowS A a b i m (allS A a b m i)
theorem mc_T {x c T : Nat} (hx : x < 2 ^ T) (h : mc x c = true) : c ≤ T := by
  unfold mc at h
  by_cases e : c = 0
  · omega
  · rw [decide_eq_false e, Bool.false_or] at h
    refine Classical.byContradiction (fun z => ?_)
    rw [Nat.testBit_lt_two_pow (Nat.lt_of_lt_of_le hx (Nat.pow_le_pow_right (by decide) (by omega)))] at h
    cases h
theorem rowS_ext {A : Mem} {a b i n : Nat} (h : ∀ j, n ≤ j → PB A a b i j = false) : ∀ {m : Nat} {s : Nat × Nat × Nat}, n ≤ m → rowS A a b i m s = rowS A a b i n s := by
  intro m s hm
  induction hm with
  | refl => rfl
  | step hm ih =>
    show upS A a b i _ (rowS A a b i _ s) = _
    rw [ih]
    unfold upS
    rw [h _ hm]
    rfl
theorem rsB_step {A : Mem} {a b i j n m : Nat} (hn : n ≤ m) (h : rsB A a b i j n = false) : rsB A a b i j m = false := by
  induction hn with
  | refl => exact h
  | step _ ih =>
    show (rsB A a b i j _ && _ && _) = false
    rw [ih]
    rfl
theorem rsB_ext {A : Mem} {a b i j n m : Nat} (h : ∀ o, n ≤ o → mc a o = false ∧ mc b o = false) (hn : n ≤ m) : rsB A a b i j m = rsB A a b i j n := by
  induction hn with
  | refl => rfl
  | step hm ih =>
    show (rsB A a b i j _ && (!mc a _ || _) && (!mc b _ || _)) = _
    rw [ih, (h _ hm).1, (h _ hm).2]
    simp
theorem sp_K_mayChoose {d : Nat} {σ : Mem} {Q : Int → Mem → Prop} {x c : Nat} (hx : x < 64) (hc : c < 7) (hQ : Q (if mc x c then 1 else 0) σ) : wp (d + 1) m_K_mayChoose [.inr (.inr 45), .inl (x : Int), .inl (c : Int)] σ Q := by
  refine e_K_mayChoose ⟨fun h => ?_, fun h => ?_⟩
  · have : mc x c = true := by unfold mc; rw [decide_eq_true (by omega)]; rfl
    rw [this] at hQ
    exact hQ
  · have e : w32 ((c : Int) - 1) = ((c - 1 : Nat) : Int) := w32_eq (by omega) (by omega)
    have em : mc x c = x.testBit (c - 1) := by unfold mc; rw [decide_eq_false (by omega), Bool.false_or]
    rw [e, bit_eq hx (by omega), ← em]
    refine ⟨fun h2 => ?_, fun h2 => ?_⟩
    · rw [bit0 h2] at hQ; exact hQ
    · rw [bit1 h2] at hQ; exact hQ
theorem sp_M_mayChoose {d : Nat} {σ : Mem} {Q : Int → Mem → Prop} {x c : Nat} (hx : x < 64) (hc : c < 7) (hQ : Q (if mc x c then 1 else 0) σ) : wp (d + 1) m_M_mayChoose [.inl (x : Int), .inl (c : Int)] σ Q := by
  refine e_M_mayChoose ⟨fun h => ?_, fun h => ?_⟩
  · have : mc x c = true := by unfold mc; rw [decide_eq_true (by omega)]; rfl
    rw [this] at hQ
    exact hQ
  · have e : w32 ((c : Int) - 1) = ((c - 1 : Nat) : Int) := w32_eq (by omega) (by omega)
    have em : mc x c = x.testBit (c - 1) := by unfold mc; rw [decide_eq_false (by omega), Bool.false_or]
    rw [e, bit_eq hx (by omega), ← em]
    cases hm : mc x c with
    | true => rw [hm] at hQ; exact ⟨fun _ => hQ, fun h => absurd rfl h⟩
    | false => rw [hm] at hQ; exact ⟨fun h => absurd h (by decide), fun _ => hQ⟩
theorem one1_len {A : Mem} {i : Nat} : (one1 A i).length ≤ 1 := by unfold one1; split <;> simp
theorem ij_len {A : Mem} {i j : Nat} : (ijL A i j).length ≤ 2 := by
  have h1 := one1_len (A := A) (i := i)
  have h2 := one1_len (A := A) (i := j)
  unfold ijL
  rw [List.length_append]
  omega
theorem one1_ok {A : Mem} (hR : RR A) {i : Nat} (hi : i ≤ tsN A) : lksOK A (one1 A i) := by
  unfold one1
  split
  · exact none_lk
  · rename_i h
    have := tsR hR (i := i - 1) (by omega)
    exact one_lk (by omega)
theorem ij_ok {A : Mem} (hR : RR A) {i j : Nat} (hi : i ≤ tsN A) (hj : j ≤ tsN A) : lksOK A (ijL A i j) := fun l hl => by
  rcases List.mem_append.mp hl with h | h
  · exact one1_ok hR hi l h
  · exact one1_ok hR hj l h
theorem brg_rv {A : Mem} {i j : Nat} : brg A 10 11 (ijL A i j) = rv A i j * 60 := by
  have h := ij_len (A := A) (i := i) (j := j)
  unfold brg rv
  rw [show 3 - (ijL A i j).length = (2 - (ijL A i j).length) + 1 by omega, Int.pow_succ, Int.mul_assoc]
theorem rv_w {A : Mem} (hR : RR A) (ho : 1 ≤ A 7 2) {i j : Nat} (hi : i ≤ tsN A) (hj : j ≤ tsN A) : w64 (rv A i j) = rv A i j := by
  have h := brg_bd hR.1 ho (j := 10) (p := 11) (Or.inr (Or.inl rfl)) (ij_ok hR hi hj) (by have := ij_len (A := A) (i := i) (j := j); omega)
  rw [brg_rv] at h
  exact w64_id (by omega) (by omega)
theorem sp_K_bringsBoth {d : Nat} {A σ : Mem} {Q : Int → Mem → Prop} (hR : RR A) (ho : 1 ≤ A 7 2) (hE : Eqv A σ) {i j : Nat} (hi : i ≤ tsN A) (hj : j ≤ tsN A) (hQ : ∀ σ1, XF σ σ1 → Q (rv A i j * 60) σ1) : wp (d + 8) m_K_bringsBoth [.inr (.inr 45), .inl (i : Int), .inl (j : Int)] σ Q := by
  have hT := tsE hR
  have fin : ∀ σ2, XF σ σ2 → chainR σ2 (ijL A i j) → wp (d + 7) m_B_brings [.inr (.inr 35), .inr (.inr 10), .inr (.inr 11)] σ2 (fun r s => Q r s) := fun σ2 hF hc =>
    sp_B_brings hR.1 (hF.eqv hE) ho (Or.inl rfl) (Or.inr (Or.inl rfl)) (ij_ok hR hi hj) (by have := ij_len (A := A) (i := i) (j := j); omega) hc (fun σ3 hB => by rw [brg_rv]; exact hQ σ3 (hF.trans hB.xf))
  refine e_K_bringsBoth (sp_B_attendNone (fun σ1 hF hc => ?_))
  refine ⟨fun h => ?_, fun h => ?_⟩
  · have e1 : w32 ((i : Int) - 1) = ((i - 1 : Nat) : Int) := w32_eq (by omega) (by omega)
    rw [e1]
    refine sp_B_attendTest hR (hF.eqv hE) (by omega) hc (by decide) (fun σ2 hF2 hc2 _ _ => ⟨fun h2 => ?_, fun h2 => fin σ2 (hF.trans hF2) ?_⟩)
    · have e2 : w32 ((j : Int) - 1) = ((j - 1 : Nat) : Int) := w32_eq (by omega) (by omega)
      rw [e2]
      refine sp_B_attendTest hR ((hF.trans hF2).eqv hE) (by omega) hc2 (by simp) (fun σ3 hF3 hc3 _ _ => fin σ3 ((hF.trans hF2).trans hF3) ?_)
      unfold ijL one1
      rw [if_neg (by omega), if_neg (by omega)]
      exact hc3
    · unfold ijL one1
      rw [if_neg (by omega), if_pos (by omega)]
      exact hc2
  · refine ⟨fun h2 => ?_, fun h2 => fin σ1 hF ?_⟩
    · have e2 : w32 ((j : Int) - 1) = ((j - 1 : Nat) : Int) := w32_eq (by omega) (by omega)
      rw [e2]
      refine sp_B_attendTest hR (hF.eqv hE) (by omega) hc (by decide) (fun σ3 hF3 hc3 _ _ => fin σ3 (hF.trans hF3) ?_)
      unfold ijL one1
      rw [if_pos (by omega), if_neg (by omega)]
      exact hc3
    · unfold ijL one1
      rw [if_pos (by omega), if_pos (by omega)]
      exact hc
/-- the class's scratch for rivals -/
def XG (σ σ1 : Mem) : Prop := ∀ k i, ¬ (36 ≤ k ∧ k ≤ 38) → ¬ (k = 35 ∧ i = 4) → k ≠ 46 → ¬ (k = 45 ∧ (i = 3 ∨ i = 4)) → σ1 k i = σ k i
theorem XG.id {σ : Mem} : XG σ σ := fun _ _ _ _ _ _ => rfl
theorem XG.trans {σ σ1 σ2 : Mem} (h1 : XG σ σ1) (h2 : XG σ1 σ2) : XG σ σ2 := fun k i a b c d => (h2 k i a b c d).trans (h1 k i a b c d)
theorem XF.xg {σ σ1 : Mem} (h : XF σ σ1) : XG σ σ1 := fun k i a b _ _ => h k i a b
theorem XG.eqv {A σ σ1 : Mem} (h : XG σ σ1) (hE : Eqv A σ) : Eqv A σ1 := fun k i hl => by
  have n35 := live_x (o := 35) hl rfl
  have n36 := live_x (o := 36) hl rfl
  have n37 := live_x (o := 37) hl rfl
  have n38 := live_x (o := 38) hl rfl
  have n45 := live_x (o := 45) hl rfl
  have n46 := live_x (o := 46) hl rfl
  rw [h k i (by omega) (by omega) (by omega) (by omega)]
  exact hE k i hl
theorem sp_K_weigh {d : Nat} {A σ : Mem} {Q : Int → Mem → Prop} (hR : RR A) (ho : 1 ≤ A 7 2) (hE : Eqv A σ) {a b : Nat} (ha : a < 2 ^ tsN A) (hb : b < 2 ^ tsN A) (hQ : ∀ σ1, XG σ σ1 → (∀ i j, i < 7 → j < 7 → mc a i = true → mc b j = true → σ1 46 (7 * i + j) = rv A i j * 60) → Q 0 σ1) : wp (d + 9) m_K_weighRivals [.inr (.inr 45), .inl (a : Int), .inl (b : Int)] σ Q := by
  have hs := shlT hR
  refine e_K_weighRivals ?_
  refine upto (n := 7) (P := fun i => ∀ σ1, XG σ σ1 → (∀ i2 j, i2 < i → j < 7 → mc a i2 = true → mc b j = true → σ1 46 (7 * i2 + j) = rv A i2 j * 60) → K_K_weighRivals_2 (d + 8) Q (a : Int) (b : Int) ((i : Nat) : Int) σ1) (fun σ1 hF hg => ?_) (fun i hi ih σ1 hF hg => ?_) σ XG.id (fun i2 j h => absurd h (by omega))
  · exact e_K_weighRivals_2 ⟨fun h => by omega, fun _ => hQ σ1 hF hg⟩
  · refine e_K_weighRivals_2 ⟨fun _ => ?_, fun h => by omega⟩
    refine upto (n := 7) (P := fun j => ∀ σ1, XG σ σ1 → (∀ i2 j, i2 < i → j < 7 → mc a i2 = true → mc b j = true → σ1 46 (7 * i2 + j) = rv A i2 j * 60) → (∀ j2, j2 < j → mc a i = true → mc b j2 = true → σ1 46 (7 * i + j2) = rv A i j2 * 60) → K_K_weighRivals_11 (d + 8) Q (a : Int) (b : Int) (i : Int) ((j : Nat) : Int) σ1) (fun σ1 hF hg hg2 => ?_) (fun j hj ih2 σ1 hF hg hg2 => ?_) σ1 hF hg (fun j2 h => absurd h (by omega))
    · refine e_K_weighRivals_11 ⟨fun h => by omega, fun _ => ?_⟩
      have e1 : w32 ((i : Int) + 1) = ((i + 1 : Nat) : Int) := w32_eq (by omega) (by omega)
      rw [e1]
      refine ih σ1 hF (fun i2 j h1 h2 h3 h4 => ?_)
      by_cases e : i2 = i
      · subst e; exact hg2 j h2 h3 h4
      · exact hg i2 j (by omega) h2 h3 h4
    · have e1 : w32 ((j : Int) + 1) = ((j + 1 : Nat) : Int) := w32_eq (by omega) (by omega)
      have skip : (mc a i = false ∨ mc b j = false) → K_K_weighRivals_11 (d + 8) Q (a : Int) (b : Int) (i : Int) ((j + 1 : Nat) : Int) σ1 := fun hs => ih2 σ1 hF hg (fun j2 h1 h2 h3 => by
        by_cases e : j2 = j
        · subst e
          rcases hs with z | z
          · rw [z] at h2; cases h2
          · rw [z] at h3; cases h3
        · exact hg2 j2 (by omega) h2 h3)
      refine e_K_weighRivals_11 ⟨fun _ => ?_, fun h => by omega⟩
      rw [e1]
      refine sp_K_mayChoose (by omega) hi ⟨fun h => skip (Or.inl (bit0 h)), fun h => sp_K_mayChoose (by omega) hj ⟨fun h2 => skip (Or.inr (bit0 h2)), fun h2 => ?_⟩⟩
      refine sp_K_bringsBoth hR ho (hF.eqv hE) (mc_T ha (bit1 h)) (mc_T hb (bit1 h2)) (fun σ2 hF2 => ?_)
      have e2 : w32 ((i : Int) * 7) = ((7 * i : Nat) : Int) := w32_eq (by omega) (by omega)
      have e3 : w32 (((7 * i : Nat) : Int) + (j : Int)) = ((7 * i + j : Nat) : Int) := w32_eq (by omega) (by omega)
      rw [e2, e3, Int.toNat_natCast]
      refine ⟨⟨by omega, by omega⟩, ih2 _ (fun k q a1 a2 a3 a4 => ?_) (fun i2 j2 h3 h4 h5 h6 => ?_) (fun j2 h3 h4 h5 => ?_)⟩
      · rw [ms_nk a3, hF2 k q a1 a2]
        exact hF k q a1 a2 a3 a4
      · rw [ms_ni (by omega), hF2 46 _ (by omega) (by omega)]
        exact hg i2 j2 h3 h4 h5 h6
      · by_cases e : j2 = j
        · subst e; exact ms_eq
        · rw [ms_ni (by omega), hF2 46 _ (by omega) (by omega)]
          exact hg2 j2 (by omega) h4 h5
theorem sp_K_isRest {d : Nat} {A σ : Mem} {Q : Int → Mem → Prop} {a b i j : Nat} (ha : a < 64) (hb : b < 64) (hi : i < 7) (hj : j < 7) (hmi : mc a i = true) (hmj : mc b j = true) (hw : ∀ i j, i < 7 → j < 7 → mc a i = true → mc b j = true → σ 46 (7 * i + j) = rv A i j * 60) (hQ : Q (if rsB A a b i j 7 then 1 else 0) σ) : wp (d + 2) m_K_isRest [.inr (.inr 45), .inl (a : Int), .inl (b : Int), .inl (i : Int), .inl (j : Int)] σ Q := by
  have e2 : w32 ((i : Int) * 7) = ((7 * i : Nat) : Int) := w32_eq (by omega) (by omega)
  have e3 : w32 (((7 * i : Nat) : Int) + (j : Int)) = ((7 * i + j : Nat) : Int) := w32_eq (by omega) (by omega)
  refine e_K_isRest ?_
  rw [e2, e3, Int.toNat_natCast, hw i j hi hj hmi hmj]
  refine ⟨⟨by omega, by omega⟩, ?_⟩
  refine upto (n := 7) (P := fun o => rsB A a b i j o = true → K_K_isRest_17 (d + 1) Q (a : Int) (b : Int) (i : Int) (j : Int) (rv A i j * 60) ((o : Nat) : Int) σ) (fun h => ?_) (fun o ho ih h => ?_) rfl
  · rw [h] at hQ
    exact e_K_isRest_17 ⟨fun h => by omega, fun _ => hQ⟩
  · have e1 : w32 ((o : Int) + 1) = ((o + 1 : Nat) : Int) := w32_eq (by omega) (by omega)
    have e4 : w32 (((7 * i : Nat) : Int) + (o : Int)) = ((7 * i + o : Nat) : Int) := w32_eq (by omega) (by omega)
    have e5 : w32 ((o : Int) * 7) = ((7 * o : Nat) : Int) := w32_eq (by omega) (by omega)
    have e6 : w32 (((7 * o : Nat) : Int) + (j : Int)) = ((7 * o + j : Nat) : Int) := w32_eq (by omega) (by omega)
    have es : rsB A a b i j (o + 1) = (rsB A a b i j o && (!mc a o || decide (rv A o j ≤ rv A i j)) && (!mc b o || decide (rv A i j ≤ rv A i o))) := rfl
    have bad : rsB A a b i j (o + 1) = false → Q 0 σ := fun hz => by
      rw [rsB_step (show o + 1 ≤ 7 by omega) hz] at hQ
      exact hQ
    refine e_K_isRest_17 ⟨fun _ => ?_, fun h => by omega⟩
    rw [e1, e2, e4, e5, e6, Int.toNat_natCast, Int.toNat_natCast]
    refine sp_K_mayChoose ha ho ⟨fun h1 => ?_, fun h1 => ⟨⟨by omega, by omega⟩, ?_⟩⟩
    · have m1 := bit0 h1
      refine sp_K_mayChoose hb ho ⟨fun h2 => ?_, fun h2 => ⟨⟨by omega, by omega⟩, ?_⟩⟩
      · exact ih (by rw [es, h, m1, bit0 h2]; rfl)
      · have m2 := bit1 h2
        rw [hw i o hi ho hmi m2]
        refine ⟨fun h3 => bad ?_, fun h3 => ih ?_⟩
        · rw [es, m2, decide_eq_false (p := rv A i j ≤ rv A i o) (by omega)]; simp
        · rw [es, h, m1, m2, decide_eq_true (p := rv A i j ≤ rv A i o) (by omega)]; rfl
    · have m1 := bit1 h1
      rw [hw o j ho hj m1 hmj]
      refine ⟨fun h3 => bad ?_, fun h3 => sp_K_mayChoose hb ho ⟨fun h2 => ih ?_, fun h2 => ⟨⟨by omega, by omega⟩, ?_⟩⟩⟩
      · rw [es, m1, decide_eq_false (p := rv A o j ≤ rv A i j) (by omega)]; simp
      · rw [es, h, m1, bit0 h2, decide_eq_true (p := rv A o j ≤ rv A i j) (by omega)]; rfl
      · have m2 := bit1 h2
        rw [hw i o hi ho hmi m2]
        refine ⟨fun h4 => bad ?_, fun h4 => ih ?_⟩
        · rw [es, m2, decide_eq_false (p := rv A i j ≤ rv A i o) (by omega)]; simp
        · rw [es, h, m1, m2, decide_eq_true (p := rv A o j ≤ rv A i j) (by omega), decide_eq_true (p := rv A i j ≤ rv A i o) (by omega)]; rfl
