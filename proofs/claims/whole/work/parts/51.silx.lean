-- PURE, 22: what is kept back, by the class
def swP (A : Mem) (l x t : Nat) : Int := sumN (sg A l) (fun s => if x.testBit s then 0 else pt A l t s)
/-- weights that silence leaves when x is shown -/
def sw (A : Mem) (l x t : Nat) : Int := A 9 t * swP A l x t
def comB (A : Mem) (l s : Nat) : Bool := decide (0 < sumN (tN A) (lvs A l s))
def Ex (A : Mem) (w : Nat → Int) : Int := gath A 10 11 [] w
def moreB (A : Mem) (l x s : Nat) : Bool := !x.testBit s && comB A l s && decide (Ex A (sw A l x) * sumN (tN A) (lvs A l s) < Ex A (lvs A l s) * sumN (tN A) (sw A l x))
/-- the signs that are shown from now on, when x is shown -/
def mb (A : Mem) (l x : Nat) : Nat := if 0 < sumN (tN A) (sw A l x) then bitsOf (moreB A l x) (sg A l) else 0
def stl (A : Mem) (l : Nat) : Nat → Nat → Nat
  | 0, x => x
  | n + 1, x => if mb A l x = 0 then x else stl A l n (x ||| mb A l x)
theorem sgN {ms : Nat → Nat → Int} {A : Mem} (hR : SR 7 ms A) {l : Nat} (hl : (l : Int) < A 7 10) : A 13 l = ((sg A l : Nat) : Int) ∧ 1 ≤ sg A l ∧ sg A l ≤ 6 := by
  have := hR.sgn hl
  unfold sg
  omega
theorem pt_bd {ms : Nat → Nat → Int} {A : Mem} (hR : SR 7 ms A) {l t s : Nat} (hl : (l : Int) < A 7 10) (ht : t < tN A) (hs : s < sg A l) : 0 ≤ pt A l t s ∧ pt A l t s ≤ 60 := (hR.prt hl (lt_tN ht) (by have := (sgN hR hl).1; omega)).2
theorem swP_bd {ms : Nat → Nat → Int} {A : Mem} (hR : SR 7 ms A) {l x t : Nat} (hl : (l : Int) < A 7 10) (ht : t < tN A) : 0 ≤ swP A l x t ∧ swP A l x t ≤ 60 := by
  have h1 : ∀ k, k ≤ sg A l → 0 ≤ sumN k (fun s => if x.testBit s then 0 else pt A l t s) ∧ sumN k (fun s => if x.testBit s then 0 else pt A l t s) ≤ sumN k (fun s => pt A l t s) := by
    intro k
    induction k with
    | zero => intro _; exact ⟨Int.le_refl _, Int.le_refl _⟩
    | succ k ih =>
      intro hk
      have := ih (by omega)
      have b := pt_bd hR (s := k) hl ht (by omega)
      show 0 ≤ sumN k _ + (if x.testBit k then 0 else pt A l t k) ∧ sumN k _ + (if x.testBit k then 0 else pt A l t k) ≤ sumN k _ + pt A l t k
      split <;> omega
  have := h1 (sg A l) (Nat.le_refl _)
  rw [hR.sum60 hl ht] at this
  exact this
theorem sw_B {ms : Nat → Nat → Int} {A : Mem} (hR : SR 7 ms A) {l x : Nat} (hl : (l : Int) < A 7 10) : wB A 1 (sw A l x) := fun t ht => by
  have h1 := hR.pr (lt_tN ht)
  have h2 := swP_bd hR (x := x) hl ht
  refine ⟨Int.mul_nonneg (by omega) h2.1, ?_⟩
  have : A 9 t * swP A l x t ≤ 99 * 60 := Int.mul_le_mul h1.2.2 h2.2 h2.1 (by omega)
  exact this
theorem Ex_bd {ms : Nat → Nat → Int} {A : Mem} (hR : SR 7 ms A) (ho : 1 ≤ A 7 2) {w : Nat → Int} (hw : wB A 1 w) {j p : Nat} (hp : isPay p) : -2352240 ≤ gath A j p [] w ∧ gath A j p [] w ≤ 2352240 := by
  have h1 := sumN_bd (f := fun t => w t * A p (4 * (act A w j) + t)) (B := 5940 * 99) (n := tN A) (fun t ht => mul_bd (by have := hw t ht; constructor <;> omega) (pay_bd hR hp (act_lt hR ho) ht))
  have h4 := tN4 hR
  have e : (tN A : Int) * (5940 * 99) ≤ 2352240 := by omega
  show -2352240 ≤ sumN _ _ ∧ sumN _ _ ≤ 2352240
  omega
theorem Ms_bd {ms : Nat → Nat → Int} {A : Mem} (hR : SR 7 ms A) {w : Nat → Int} (hw : wB A 1 w) : 0 ≤ sumN (tN A) w ∧ sumN (tN A) w ≤ 23760 := by
  have h1 := sumN_bd (f := w) (B := 5940) (n := tN A) (fun t ht => by have := hw t ht; constructor <;> omega)
  have h2 := sumN_nn (f := w) (n := tN A) (fun t ht => (hw t ht).1)
  have h4 := tN4 hR
  have e : (tN A : Int) * 5940 ≤ 23760 := by omega
  omega
theorem lvs_B2 {ms : Nat → Nat → Int} {A : Mem} (hR : SR 7 ms A) {l s : Nat} (hl : (l : Int) < A 7 10) (hs : s < sg A l) : wB A 1 (lvs A l s) := lvs_B hR hl (by have := (sgN hR hl).1; omega)
theorem com_f {ms : Nat → Nat → Int} {A : Mem} (hR : SR 7 ms A) {l s : Nat} (hl : (l : Int) < A 7 10) (hs : s < sg A l) (h : comB A l s = false) {t : Nat} (ht : t < tN A) : lvs A l s t = 0 := by
  refine Classical.byContradiction (fun z => ?_)
  have := (com_pos (lvs_B2 hR hl hs)).mpr ⟨t, ht, z⟩
  unfold comB at h
  rw [decide_eq_true this] at h
  cases h
theorem com_of {ms : Nat → Nat → Int} {A : Mem} (hR : SR 7 ms A) {l s : Nat} (hl : (l : Int) < A 7 10) (hs : s < sg A l) {r : Int} (hr : (r = 0 ∧ ∀ t, t < tN A → lvs A l s t = 0) ∨ (r = 1 ∧ ∃ t, t < tN A ∧ ¬ lvs A l s t = 0)) : (r = 0 ∧ comB A l s = false) ∨ (r = 1 ∧ comB A l s = true) := by
  rcases hr with h | h
  · refine Or.inl ⟨h.1, ?_⟩
    unfold comB
    rw [sumN_z h.2]
    rfl
  · exact Or.inr ⟨h.1, decide_eq_true ((com_pos (lvs_B2 hR hl hs)).mpr h.2)⟩
def silB (A : Mem) (l x s : Nat) : Bool := !x.testBit s && comB A l s
theorem sil_sum {ms : Nat → Nat → Int} {A : Mem} (hR : SR 7 ms A) {l x t : Nat} (hl : (l : Int) < A 7 10) (ht : t < tN A) : sumN (sg A l) (fun s => if (bitsOf (silB A l x) (sg A l)).testBit s then pt A l t s else 0) = swP A l x t := by
  refine sumN_congr (fun s hs => ?_)
  rw [bitsOf_test, decide_eq_true hs, Bool.true_and]
  unfold silB
  cases hx : x.testBit s with
  | true => simp
  | false =>
    cases hc : comB A l s with
    | true => simp
    | false =>
      have := com_f hR hl hs hc ht
      have h1 := hR.pr (lt_tN ht)
      have h2 := pt_bd hR hl ht hs
      unfold lvs at this
      rcases Int.mul_eq_zero.mp this with h | h
      · omega
      · simp [h]
theorem bit0 {b : Bool} (h : (if b = true then (1 : Int) else 0) = 0) : b = false := by
  cases b with
  | false => rfl
  | true => rw [if_pos rfl] at h; cases h
theorem bit1 {b : Bool} (h : ¬ (if b = true then (1 : Int) else 0) = 0) : b = true := by
  cases b with
  | true => rfl
  | false => exact absurd (if_neg (by decide)) h
theorem lt64 {A : Mem} {l : Nat} {p : Nat → Bool} (h : sg A l ≤ 6) : bitsOf p (sg A l) < 64 := Nat.lt_of_lt_of_le bitsOf_lt (p2_64 h)
theorem bits64 {p : Nat → Bool} {k : Nat} (h : k ≤ 6) : bitsOf p k < 64 := Nat.lt_of_lt_of_le bitsOf_lt (p2_64 h)
theorem orb {p : Nat → Bool} {s : Nat} (hs : s < 6) (h : p s = true) : orI ((bitsOf p s : Nat) : Int) (shlI 1 (s : Int)) = ((bitsOf p (s + 1) : Nat) : Int) := by
  rw [shl_eq (by omega), or_eq (bits64 (by omega)) (Nat.lt_of_lt_of_le (Nat.pow_lt_pow_right (by decide) hs) (Nat.le_refl _)), bitsOf_t h]
theorem sp_Z_silentBits {d : Nat} {A σ : Mem} {Q : Int → Mem → Prop} {ms : Nat → Nat → Int} (hR : SR 7 ms A) (hE : Eqv A σ) {l x : Nat} (hl : (l : Int) < A 7 10) (hx : x < 64) (hQ : ∀ σ1, BF 0 σ σ1 → Q ((bitsOf (silB A l x) (sg A l) : Nat) : Int) σ1) : wp (d + 4) m_Z_silentBits [.inr (.inr 47), .inl (l : Int), .inl (x : Int)] σ Q := by
  have hS := sgN hR hl
  have hLk := hR.lk
  refine e_Z_silentBits ?_
  refine upto (n := sg A l) (P := fun s => ∀ σ1, BF 0 σ σ1 → K_Z_silentBits_5 (d + 3) Q (l : Int) (x : Int) ((bitsOf (silB A l x) s : Nat) : Int) ((s : Nat) : Int) σ1) (fun σ1 hF => ?_) (fun s hs ih σ1 hF => ?_) σ BF.rfl
  · exact e_Z_silentBits_5 ⟨⟨by omega, by omega⟩, fun h => by rw [Int.toNat_natCast, hF.eqv hE 13 l rfl] at h; omega, fun _ => hQ σ1 hF⟩
  · have e1 : w32 ((s : Int) + 1) = ((s + 1 : Nat) : Int) := w32_eq (by omega) (by omega)
    refine e_Z_silentBits_5 ⟨⟨by omega, by omega⟩, fun _ => ?_, fun h => by rw [Int.toNat_natCast, hF.eqv hE 13 l rfl] at h; omega⟩
    rw [bit_eq hx (by omega), e1]
    refine ⟨fun h => ?_, fun h => ?_⟩
    · have hb : x.testBit s = false := bit0 h
      refine sp_B_seeOne hR (hF.eqv hE) hl (by omega) (fun r σ2 hF2 _ hr => ?_)
      rcases com_of hR hl hs hr with h2 | h2
      · refine ⟨fun _ => ?_, fun h3 => absurd h2.1 h3⟩
        have := ih σ2 (hF.trans hF2)
        rw [bitsOf_f (by unfold silB; rw [h2.2, Bool.and_false])] at this
        exact this
      · refine ⟨fun h3 => by omega, fun _ => ?_⟩
        rw [orb (by omega) (by unfold silB; rw [hb, h2.2]; rfl)]
        exact ih σ2 (hF.trans hF2)
    · have hb : x.testBit s = true := bit1 h
      have := ih σ1 hF
      rw [bitsOf_f (by unfold silB; rw [hb]; rfl)] at this
      exact this
theorem sp_B_seeMany {d : Nat} {A σ : Mem} {Q : Int → Mem → Prop} {ms : Nat → Nat → Int} (hR : SR 7 ms A) (hE : Eqv A σ) {l y : Nat} {w : Nat → Int} (hl : (l : Int) < A 7 10) (hy : y < 64) (hB : wB A 1 w) (hw : ∀ t, t < tN A → w t = A 9 t * sumN (sg A l) (fun s => if y.testBit s then pt A l t s else 0))
    (hQ : ∀ r σ1, BF 0 σ σ1 → (∀ t, t < tN A → σ1 36 (4 * 1 + t) = w t) → ((r = 1 ∧ 0 < sumN (tN A) w) ∨ (r = 0 ∧ ¬ 0 < sumN (tN A) w)) → Q r σ1) : wp (d + 2) m_B_seeMany [.inr (.inr 35), .inl (l : Int), .inl (y : Int)] σ Q := by
  have hS := sgN hR hl
  have hLk := hR.lk
  have h4 := tN4 hR
  have hTe := tNe hR
  refine e_B_seeMany (sp_B_layBefore hR hE (fun σ1 hF hl0 => ?_))
  refine upto (n := tN A) (P := fun t => ∀ σ1, BF 0 σ σ1 → (∀ t2, t2 < tN A → σ1 36 t2 = A 9 t2) → (∀ t2, t2 < t → σ1 36 (4 * 1 + t2) = w t2) → K_B_seeMany_6 (d + 1) Q (l : Int) (y : Int) ((t : Nat) : Int) σ1) (fun σ1 hF h0 h1 => ?_) (fun t ht ih σ1 hF h0 h1 => ?_) σ1 hF hl0 (fun t2 h => absurd h (by omega))
  · refine e_B_seeMany_6 ⟨fun h => by rw [hF.eqv hE 7 1 rfl] at h; omega, fun _ => ?_⟩
    refine sp_B_any (lv := 1) hR (hF.eqv hE) (by omega) h1 (fun hz => ⟨isB1, hQ 1 σ1 hF h1 (Or.inl ⟨rfl, (com_pos hB).mpr hz⟩)⟩) (fun hz => ⟨isB0, hQ 0 σ1 hF h1 (Or.inr ⟨rfl, ?_⟩)⟩)
    rw [sumN_z hz]
    decide
  · refine e_B_seeMany_6 ⟨fun _ => ?_, fun h => by rw [hF.eqv hE 7 1 rfl] at h; omega⟩
    have pb : ∀ k, k ≤ sg A l → -360 ≤ sumN k (fun s => if y.testBit s then pt A l t s else 0) ∧ sumN k (fun s => if y.testBit s then pt A l t s else 0) ≤ 360 := fun k hk => by
      have := sumN_bd (n := k) (f := fun s => if y.testBit s then pt A l t s else 0) (B := 60) (fun i hi => by
        have := pt_bd hR hl ht (s := i) (by omega)
        split <;> constructor <;> omega)
      have e : (k : Int) * 60 ≤ 360 := by omega
      omega
    have key := upto (n := sg A l) (P := fun s => K_B_seeMany_23 (d + 1) Q (l : Int) (y : Int) (t : Int) (sumN s (fun s => if y.testBit s then pt A l t s else 0)) ((s : Nat) : Int) σ1) ?_ (fun s hs ih2 => ?_)
    · exact key
    · refine e_B_seeMany_23 ⟨⟨by omega, by omega⟩, fun h => by rw [Int.toNat_natCast, hF.eqv hE 13 l rfl] at h; omega, fun _ => ?_⟩
      have e1 : w32 ((t : Int) + 1) = ((t + 1 : Nat) : Int) := w32_eq (by omega) (by omega)
      have e2 : w32 (4 + (t : Int)) = ((4 * 1 + t : Nat) : Int) := w32_eq (by omega) (by omega)
      have bw := hB t ht
      have e3 : w64 (A 9 t * sumN (sg A l) (fun s => if y.testBit s then pt A l t s else 0)) = w t := by rw [← hw t ht]; exact w64_id (by omega) (by omega)
      rw [e1, e2, Int.toNat_natCast, Int.toNat_natCast, h0 t ht, e3]
      refine ⟨⟨by omega, by omega⟩, ⟨by omega, by omega⟩, ih _ (hF.trans (BF.set (by omega))) (fun t2 h2 => ?_) (fun t2 h2 => ?_)⟩
      · rw [ms_ni (by omega)]; exact h0 t2 h2
      · by_cases e : t2 = t
        · subst e; exact ms_eq
        · rw [ms_ni (by omega)]; exact h1 t2 (by omega)
    · have e1 : w32 ((s : Int) + 1) = ((s + 1 : Nat) : Int) := w32_eq (by omega) (by omega)
      have b1 := pb s (by omega)
      have b2 := pb (s + 1) (by omega)
      have es : sumN (s + 1) (fun s => if y.testBit s then pt A l t s else 0) = sumN s (fun s => if y.testBit s then pt A l t s else 0) + (if y.testBit s then pt A l t s else 0) := rfl
      refine e_B_seeMany_23 ⟨⟨by omega, by omega⟩, fun _ => ?_, fun h => by rw [Int.toNat_natCast, hF.eqv hE 13 l rfl] at h; omega⟩
      rw [bit_eq hy (by omega), e1]
      refine ⟨fun h => ?_, fun h => ?_⟩
      · have hb : y.testBit s = false := bit0 h
        rw [w32_id (by omega) (by omega)]
        rw [es, hb] at ih2
        exact ih2
      · have hb : y.testBit s = true := bit1 h
        refine sp_S_partOf (hF.eqv hE) (by omega) (by omega) (by omega) ?_
        rw [es, hb] at ih2 b2
        simp only [if_true] at ih2 b2
        rw [w32_id (by omega) (by omega)]
        exact ih2
theorem gath_nil_bd {ms : Nat → Nat → Int} {A : Mem} (hR : SR 7 ms A) {l s : Nat} (hl : (l : Int) < A 7 10) (hs : s < sg A l) : bdW A (lvs A l s) := (lvs_B2 hR hl hs).bd (by omega)
theorem sp_Z_expected {d : Nat} {A σ : Mem} {Q : Int → Mem → Prop} {ms : Nat → Nat → Int} (hR : SR 7 ms A) (hE : Eqv A σ) (ho : 1 ≤ A 7 2) {w : Nat → Int} (hb : bdW A w) (hw : ∀ t, t < tN A → σ 36 (4 * 1 + t) = w t) (hQ : Q (Ex A w) σ) : wp (d + 4) m_Z_expected [.inr (.inr 47)] σ Q :=
  e_Z_expected (sp_B_outcome (lv := 1) hR hE ho (by omega) (Or.inl rfl) (Or.inr (Or.inl rfl)) hb hw hQ)
theorem mul_small {a b : Int} (ha : -2352240 ≤ a ∧ a ≤ 2352240) (hb : 0 ≤ b ∧ b ≤ 23760) : w64 (a * b) = a * b := by
  have := mul_bd (x := a) (y := b) (X := 2352240) (Y := 23760) ha ⟨by omega, hb.2⟩
  exact w64_id (by omega) (by omega)
theorem sp_Z_shownNow {d : Nat} {A σ : Mem} {Q : Int → Mem → Prop} {ms : Nat → Nat → Int} (hR : SR 7 ms A) (hE : Eqv A σ) (ho : 1 ≤ A 7 2) {l x : Nat} (hl : (l : Int) < A 7 10) (hQ : ∀ σ1, BF 0 σ σ1 → Q ((mb A l x : Nat) : Int) σ1) : wp (d + 5) m_Z_shownNow [.inr (.inr 47), .inl (l : Int), .inl ((bitsOf (silB A l x) (sg A l) : Nat) : Int)] σ Q := by
  have hS := sgN hR hl
  have hLk := hR.lk
  have hBs := sw_B hR (x := x) hl
  have y64 : bitsOf (silB A l x) (sg A l) < 64 := lt64 hS.2.2
  refine e_Z_shownNow (sp_B_seeMany hR hE hl y64 hBs (fun t ht => by rw [sil_sum hR hl ht]; rfl) (fun r σ1 hF hw hr => ⟨fun h => ?_, fun h => ?_⟩))
  · have : mb A l x = 0 := by
      rcases hr with h2 | h2
      · omega
      · exact if_neg h2.2
    have q := hQ σ1 hF
    rw [this] at q
    exact q
  · have hp : 0 < sumN (tN A) (sw A l x) := by
      rcases hr with h2 | h2
      · exact h2.2
      · exact absurd h2.1 h
    have hm : mb A l x = bitsOf (moreB A l x) (sg A l) := if_pos hp
    rw [hm] at hQ
    refine sp_Z_expected hR (hF.eqv hE) ho (hBs.bd (by omega)) hw (sp_B_mass (lv := 1) hR (hF.eqv hE) (by omega) (hBs.bd (by omega)) hw ?_)
    refine upto (n := sg A l) (P := fun s => ∀ σ1, BF 0 σ σ1 → K_Z_shownNow_35 (d + 4) Q (l : Int) ((bitsOf (silB A l x) (sg A l) : Nat) : Int) (Ex A (sw A l x)) (sumN (tN A) (sw A l x)) ((bitsOf (moreB A l x) s : Nat) : Int) ((s : Nat) : Int) σ1) (fun σ1 hF => ?_) (fun s hs ih σ1 hF => ?_) σ1 hF
    · exact e_Z_shownNow_35 ⟨⟨by omega, by omega⟩, fun h => by rw [Int.toNat_natCast, hF.eqv hE 13 l rfl] at h; omega, fun _ => hQ σ1 hF⟩
    · have e1 : w32 ((s : Int) + 1) = ((s + 1 : Nat) : Int) := w32_eq (by omega) (by omega)
      refine e_Z_shownNow_35 ⟨⟨by omega, by omega⟩, fun _ => ?_, fun h => by rw [Int.toNat_natCast, hF.eqv hE 13 l rfl] at h; omega⟩
      rw [bit_eq y64 (by omega), e1, bitsOf_test, decide_eq_true hs, Bool.true_and]
      refine ⟨fun h => ?_, fun h => ?_⟩
      · have hb := bit0 h
        have := ih σ1 hF
        rw [bitsOf_f (by unfold moreB; unfold silB at hb; rw [hb]; rfl)] at this
        exact this
      · have hb := bit1 h
        have hLs := lvs_B2 hR hl hs
        refine sp_B_seeOne hR (hF.eqv hE) hl (by omega) (fun r σ2 hF2 hw2 hr2 => ?_)
        have hE2 := (hF.trans hF2).eqv hE
        rcases com_of hR hl hs hr2 with h2 | h2
        · unfold silB at hb
          rw [h2.2, Bool.and_false] at hb
          cases hb
        · refine ⟨fun h3 => by omega, fun _ => sp_Z_expected hR hE2 ho (hLs.bd (by omega)) hw2 (sp_B_mass (lv := 1) hR hE2 (by omega) (hLs.bd (by omega)) hw2 ?_)⟩
          rw [mul_small (a := Ex A (sw A l x)) (Ex_bd hR ho hBs (Or.inr (Or.inl rfl))) (Ms_bd hR hLs), mul_small (a := Ex A (lvs A l s)) (Ex_bd hR ho hLs (Or.inr (Or.inl rfl))) (Ms_bd hR hBs)]
          refine ⟨fun h4 => ?_, fun h4 => ?_⟩
          · rw [orb (by omega) (by unfold moreB; unfold silB at hb; rw [hb, decide_eq_true h4]; rfl)]
            exact ih σ2 (hF.trans hF2)
          · have := ih σ2 (hF.trans hF2)
            rw [bitsOf_f (by unfold moreB; rw [decide_eq_false (by omega), Bool.and_false])] at this
            exact this
theorem mb_lt {A : Mem} {l x : Nat} (h : sg A l ≤ 6) : mb A l x < 64 := by
  unfold mb
  split
  · exact lt64 h
  · decide
theorem or64 {x y : Nat} (hx : x < 64) (hy : y < 64) : x ||| y < 64 := Nat.or_lt_two_pow (n := 6) hx hy
theorem sp_Z_settle {d : Nat} {A σ : Mem} {Q : Int → Mem → Prop} {ms : Nat → Nat → Int} (hR : SR 7 ms A) (hE : Eqv A σ) (ho : 1 ≤ A 7 2) {l : Nat} (hl : (l : Int) < A 7 10) (hQ : ∀ σ1, BF 0 σ σ1 → Q ((stl A l 7 0 : Nat) : Int) σ1) : wp (d + 6) m_Z_settle [.inr (.inr 47), .inl (l : Int)] σ Q := by
  have hS := sgN hR hl
  refine e_Z_settle ?_
  have loop : ∀ n x : Nat, x < 64 → n ≤ 7 → ∀ σ1, BF 0 σ σ1 → (∀ σ1, BF 0 σ σ1 → Q ((stl A l n x : Nat) : Int) σ1) → K_Z_settle_4 (d + 5) Q (l : Int) (x : Int) ((7 - n : Nat) : Int) σ1 := by
    intro n
    induction n with
    | zero => intro x hx _ σ1 hF hq; exact e_Z_settle_4 ⟨fun _ => hq σ1 hF, fun h => by omega⟩
    | succ n ih =>
      intro x hx hn σ1 hF hq
      have e1 : w32 (((7 - (n + 1) : Nat) : Int) + 1) = ((7 - n : Nat) : Int) := w32_eq (by omega) (by omega)
      refine e_Z_settle_4 ⟨fun h => by omega, fun _ => ?_⟩
      rw [e1]
      refine sp_Z_silentBits hR (hF.eqv hE) hl hx (fun σ2 hF2 => sp_Z_shownNow hR ((hF.trans hF2).eqv hE) ho hl (fun σ3 hF3 => ⟨fun h => ?_, fun h => ?_⟩))
      · have : mb A l x = 0 := by omega
        have q := hq σ3 ((hF.trans hF2).trans hF3)
        unfold stl at q
        rw [if_pos this] at q
        exact q
      · rw [or_eq hx (mb_lt hS.2.2)]
        refine ih _ (or64 hx (mb_lt hS.2.2)) (by omega) σ3 ((hF.trans hF2).trans hF3) (fun σ4 hF4 => ?_)
        have q := hq σ4 hF4
        unfold stl at q
        rw [if_neg (by omega)] at q
        exact q
  exact loop 7 0 (by decide) (by decide) σ BF.rfl hQ
def Dx (A : Mem) (w : Nat → Int) : Int := gath A 10 10 [] w
def lost (A : Mem) (l x : Nat) : Int := sumN (sg A l) (fun s => if x.testBit s then 0 else Dx A (lvs A l s)) - Dx A (sw A l x)
theorem sw_0 {ms : Nat → Nat → Int} {A : Mem} (hR : SR 7 ms A) {l x : Nat} (hl : (l : Int) < A 7 10) (h : ¬ 0 < sumN (tN A) (sw A l x)) : (∀ t, t < tN A → sw A l x t = 0) ∧ ∀ s, s < sg A l → x.testBit s = false → ∀ t, t < tN A → lvs A l s t = 0 := by
  have z : ∀ t, t < tN A → sw A l x t = 0 := fun t ht => Classical.byContradiction (fun z => h ((com_pos (sw_B hR hl)).mpr ⟨t, ht, z⟩))
  refine ⟨z, fun s hs hb t ht => ?_⟩
  have h1 := hR.pr (lt_tN ht)
  have h2 := z t ht
  unfold sw at h2
  have h3 : swP A l x t = 0 := by
    rcases Int.mul_eq_zero.mp h2 with h | h
    · omega
    · exact h
  have h4 : (if x.testBit s then 0 else pt A l t s) ≤ swP A l x t := sumN_le (f := fun s => if x.testBit s then 0 else pt A l t s) (k := s) (fun i hi => by
    have := pt_bd hR hl ht hi
    split <;> omega) hs
  have h5 := pt_bd hR hl ht hs
  rw [hb, h3] at h4
  have : pt A l t s = 0 := by
    have h6 : pt A l t s ≤ 0 := h4
    omega
  unfold lvs
  rw [this, Int.mul_zero]
theorem sp_Z_lost {d : Nat} {A σ : Mem} {Q : Int → Mem → Prop} {ms : Nat → Nat → Int} (hR : SR 7 ms A) (hE : Eqv A σ) (ho : 1 ≤ A 7 2) {l x : Nat} (hl : (l : Int) < A 7 10) (hx : x < 64) (hQ : ∀ σ1, BF 0 σ σ1 → Q (lost A l x) σ1) : wp (d + 5) m_Z_lostByJudge [.inr (.inr 47), .inl (l : Int), .inl (x : Int)] σ Q := by
  have hS := sgN hR hl
  have hLk := hR.lk
  have hBs := sw_B hR (x := x) hl
  have y64 : bitsOf (silB A l x) (sg A l) < 64 := lt64 hS.2.2
  have bD : ∀ s, s < sg A l → -2352240 ≤ Dx A (lvs A l s) ∧ Dx A (lvs A l s) ≤ 2352240 := fun s hs => Ex_bd hR ho (lvs_B2 hR hl hs) (Or.inl rfl)
  have bS : ∀ k, k ≤ sg A l → -20000000 ≤ sumN k (fun s => if x.testBit s then 0 else Dx A (lvs A l s)) ∧ sumN k (fun s => if x.testBit s then 0 else Dx A (lvs A l s)) ≤ 20000000 := fun k hk => by
    have := sumN_bd (n := k) (f := fun s => if x.testBit s then 0 else Dx A (lvs A l s)) (B := 2352240) (fun i hi => by
      have := bD i (by omega)
      split <;> constructor <;> omega)
    have e : (k : Int) * 2352240 ≤ 20000000 := by omega
    omega
  refine e_Z_lostByJudge (sp_Z_silentBits hR hE hl hx (fun σ1 hF => ?_))
  refine upto (n := sg A l) (P := fun s => ∀ σ1, BF 0 σ σ1 → K_Z_lostByJudge_13 (d + 4) Q (l : Int) ((bitsOf (silB A l x) (sg A l) : Nat) : Int) (sumN s (fun s => if x.testBit s then 0 else Dx A (lvs A l s))) ((s : Nat) : Int) σ1) (fun σ1 hF => ?_) (fun s hs ih σ1 hF => ?_) σ1 hF
  · refine e_Z_lostByJudge_13 ⟨⟨by omega, by omega⟩, fun h => by rw [Int.toNat_natCast, hF.eqv hE 13 l rfl] at h; omega, fun _ => ?_⟩
    refine sp_B_seeMany hR (hF.eqv hE) hl y64 hBs (fun t ht => by rw [sil_sum hR hl ht]; rfl) (fun r σ2 hF2 hw hr => ⟨fun h => ?_, fun h => ?_⟩)
    · have hz : ¬ 0 < sumN (tN A) (sw A l x) := by
        rcases hr with h2 | h2
        · omega
        · exact h2.2
      have z := sw_0 hR hl hz
      have : lost A l x = 0 := by
        unfold lost
        have e1 : Dx A (sw A l x) = 0 := gath_0 z.1
        rw [e1, sumN_z (fun s hs => ?_)]
        · rfl
        · split
          · rfl
          · rename_i hb
            exact gath_0 (z.2 s hs (by simpa using hb))
      have q := hQ σ2 (hF.trans hF2)
      rw [this] at q
      exact q
    · have b1 := bS (sg A l) (Nat.le_refl _)
      have b2 := Ex_bd hR ho hBs (j := 10) (p := 10) (Or.inl rfl)
      refine sp_B_outcome (lv := 1) hR ((hF.trans hF2).eqv hE) ho (by omega) (Or.inl rfl) (Or.inl rfl) (hBs.bd (by omega)) hw ?_
      rw [w64_id (by omega) (by omega)]
      exact hQ σ2 (hF.trans hF2)
  · have e1 : w32 ((s : Int) + 1) = ((s + 1 : Nat) : Int) := w32_eq (by omega) (by omega)
    have es : sumN (s + 1) (fun s => if x.testBit s then 0 else Dx A (lvs A l s)) = sumN s (fun s => if x.testBit s then 0 else Dx A (lvs A l s)) + (if x.testBit s then 0 else Dx A (lvs A l s)) := rfl
    have b1 := bS s (by omega)
    have b2 := bD s hs
    refine e_Z_lostByJudge_13 ⟨⟨by omega, by omega⟩, fun _ => ?_, fun h => by rw [Int.toNat_natCast, hF.eqv hE 13 l rfl] at h; omega⟩
    rw [bit_eq y64 (by omega), e1, bitsOf_test, decide_eq_true hs, Bool.true_and]
    refine ⟨fun h => ?_, fun h => ?_⟩
    · have hb := bit0 h
      have hz : (if x.testBit s then 0 else Dx A (lvs A l s)) = 0 := by
        unfold silB at hb
        cases hx : x.testBit s with
        | true => rfl
        | false =>
          rw [hx] at hb
          simp only [Bool.not_false, Bool.true_and] at hb
          exact gath_0 (fun t ht => com_f hR hl hs hb ht)
      have := ih σ1 hF
      rw [es, hz, Int.add_zero] at this
      exact this
    · have hb := bit1 h
      have hLs := lvs_B2 hR hl hs
      refine sp_B_seeOne hR (hF.eqv hE) hl (by omega) (fun r σ2 hF2 hw2 hr2 => ?_)
      have hE2 := (hF.trans hF2).eqv hE
      rcases com_of hR hl hs hr2 with h2 | h2
      · unfold silB at hb
        rw [h2.2, Bool.and_false] at hb
        cases hb
      · refine ⟨fun h3 => by omega, fun _ => sp_B_outcome (lv := 1) hR hE2 ho (by omega) (Or.inl rfl) (Or.inl rfl) (hLs.bd (by omega)) hw2 ?_⟩
        have hxf : x.testBit s = false := by
          unfold silB at hb
          cases hx : x.testBit s with
          | true => rw [hx] at hb; cases hb
          | false => rfl
        have e5 : gath A 10 10 [] (lvs A l s) = Dx A (lvs A l s) := rfl
        rw [e5, w64_id (by omega) (by omega)]
        have := ih σ2 (hF.trans hF2)
        rw [es, hxf] at this
        exact this
