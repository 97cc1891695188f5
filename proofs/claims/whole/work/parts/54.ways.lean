-- PURE, 25: looks heard together, by the reference
def wyN (A : Mem) (h : Nat → Nat) : Nat → Nat
  | 0 => 1
  | n + 1 => wyN A h n * sg A (h n)
/-- the weights that way v of the looks h 0 .. h (n - 1) leaves -/
def fm (A : Mem) (h : Nat → Nat) : Nat → Nat → (Nat → Int) → Nat → Int
  | 0, _, w => w
  | n + 1, v, w => fm A h n (v / sg A (h n)) (fun t => w t * pt A (h n) t (v % sg A (h n)))
def hl (h : Nat → Nat) (n : Nat) : List Nat := match n with
  | 0 => []
  | 1 => [h 0]
  | 2 => [h 0, h 1]
  | _ => [h 0, h 1, h 2]
def hOK (A : Mem) (h : Nat → Nat) (n : Nat) : Prop := ∀ i, i < n → (h i : Int) < A 7 10
def heardR (σ : Mem) (h : Nat → Nat) (n : Nat) : Prop := ∀ i, i < n → σ 76 i = ((h i : Nat) : Int)
theorem sumN_len {f : Nat → Int} {m : Nat} : ∀ {n : Nat}, sumN (m + n) f = sumN m f + sumN n (fun j => f (m + j))
  | 0 => (Int.add_zero _).symm
  | n + 1 => by
    show sumN (m + n) f + f (m + n) = sumN m f + (sumN n (fun j => f (m + j)) + f (m + n))
    rw [sumN_len]
    omega
theorem sumN_dm {F : Nat → Nat → Int} {b : Nat} (hb : 0 < b) : ∀ {a : Nat}, sumN (a * b) (fun v => F (v / b) (v % b)) = sumN a (fun i => sumN b (fun j => F i j))
  | 0 => by rw [Nat.zero_mul]; rfl
  | a + 1 => by
    rw [Nat.succ_mul, sumN_len, sumN_dm hb]
    show _ = sumN a (fun i => sumN b (fun j => F i j)) + sumN b (fun j => F a j)
    congr 1
    refine sumN_congr (fun j hj => ?_)
    rw [Nat.mul_comm a b, Nat.mul_add_div hb, Nat.mul_add_mod, Nat.div_eq_of_lt hj, Nat.mod_eq_of_lt hj, Nat.add_zero]
theorem ways_sum {A : Mem} (hR : RR A) {h : Nat → Nat} {j p : Nat} {w : Nat → Int} : ∀ {n : Nat}, n ≤ 3 → hOK A h n → sumN (wyN A h n) (fun v => gath A j p [] (fm A h n v w)) = gath A j p (hl h n) w
  | 0, _, _ => by
    show 0 + gath A j p [] w = gath A j p [] w
    omega
  | 1, _, hk => by
    show sumN (1 * sg A (h 0)) (fun v => gath A j p [] (fun t => w t * pt A (h 0) t (v % sg A (h 0)))) = sumN (sg A (h 0)) (fun s => gath A j p [] (fun t => w t * pt A (h 0) t s))
    rw [Nat.one_mul]
    exact sumN_congr (fun v hv => by rw [Nat.mod_eq_of_lt hv])
  | 2, _, hk => by
    have h1 := (sgI hR (hk 1 (by omega))).2.1
    show sumN (1 * sg A (h 0) * sg A (h 1)) (fun v => gath A j p [] (fun t => (w t * pt A (h 1) t (v % sg A (h 1))) * pt A (h 0) t (v / sg A (h 1) % sg A (h 0)))) = sumN (sg A (h 0)) (fun s => sumN (sg A (h 1)) (fun s1 => gath A j p [] (fun t => (w t * pt A (h 0) t s) * pt A (h 1) t s1)))
    rw [Nat.one_mul, sumN_dm (F := fun i k => gath A j p [] (fun t => (w t * pt A (h 1) t k) * pt A (h 0) t (i % sg A (h 0)))) h1]
    refine sumN_congr (fun i hi => sumN_congr (fun k _ => gath_congr (fun t _ => ?_)))
    rw [Nat.mod_eq_of_lt hi, Int.mul_assoc, Int.mul_comm (pt A (h 1) t k), ← Int.mul_assoc]
  | 3, _, hk => by
    have h1 := (sgI hR (hk 1 (by omega))).2.1
    have h2 := (sgI hR (hk 2 (by omega))).2.1
    show sumN (1 * sg A (h 0) * sg A (h 1) * sg A (h 2)) (fun v => gath A j p [] (fun t => ((w t * pt A (h 2) t (v % sg A (h 2))) * pt A (h 1) t (v / sg A (h 2) % sg A (h 1))) * pt A (h 0) t (v / sg A (h 2) / sg A (h 1) % sg A (h 0)))) = sumN (sg A (h 0)) (fun s => sumN (sg A (h 1)) (fun s1 => sumN (sg A (h 2)) (fun s2 => gath A j p [] (fun t => ((w t * pt A (h 0) t s) * pt A (h 1) t s1) * pt A (h 2) t s2))))
    rw [Nat.one_mul, sumN_dm (F := fun i k => gath A j p [] (fun t => ((w t * pt A (h 2) t k) * pt A (h 1) t (i % sg A (h 1))) * pt A (h 0) t (i / sg A (h 1) % sg A (h 0)))) h2, sumN_dm (F := fun i q => sumN (sg A (h 2)) (fun k => gath A j p [] (fun t => ((w t * pt A (h 2) t k) * pt A (h 1) t q) * pt A (h 0) t (i % sg A (h 0))))) h1]
    refine sumN_congr (fun i hi => sumN_congr (fun q _ => sumN_congr (fun k _ => gath_congr (fun t _ => ?_))))
    rw [Nat.mod_eq_of_lt hi]
    grind
theorem fm_B {A : Mem} (hR : RR A) {h : Nat → Nat} : ∀ {n m v : Nat} {w : Nat → Int}, hOK A h n → wB A m w → wB A (m + n) (fm A h n v w)
  | 0, _, _, _, _, hw => hw
  | n + 1, m, v, w, hk, hw => by
    have hs := sgI hR (hk n (by omega))
    have h1 : wB A (m + 1) (fun t => w t * pt A (h n) t (v % sg A (h n))) := hw.st hR.1 (hk n (by omega)) (by have := Nat.mod_lt v (show 0 < sg A (h n) by omega); omega)
    have := fm_B hR (n := n) (v := v / sg A (h n)) (fun i hi => hk i (by omega)) h1
    rw [show m + 1 + n = m + (n + 1) by omega] at this
    exact this
theorem wyN_pos {A : Mem} (hR : RR A) {h : Nat → Nat} : ∀ {n : Nat}, hOK A h n → 1 ≤ wyN A h n
  | 0, _ => Nat.le_refl _
  | n + 1, hk => Nat.mul_pos (wyN_pos hR (fun i hi => hk i (by omega))) (sgI hR (hk n (by omega))).2.1
theorem wyN_le {A : Mem} (hR : RR A) {h : Nat → Nat} : ∀ {n : Nat}, n ≤ 3 → hOK A h n → wyN A h n ≤ 6 ^ n
  | 0, _, _ => Nat.le_refl _
  | n + 1, hn, hk => by
    rw [Nat.pow_succ]
    exact Nat.mul_le_mul (wyN_le hR (by omega) (fun i hi => hk i (by omega))) (sgI hR (hk n (by omega))).2.2.1
theorem wy216 {A : Mem} (hR : RR A) {h : Nat → Nat} {n : Nat} (hn : n ≤ 3) (hk : hOK A h n) : wyN A h n ≤ 216 := Nat.le_trans (wyN_le hR hn hk) (Nat.pow_le_pow_right (n := 6) (by decide) hn)
theorem sp_M_waysOf {d : Nat} {A σ : Mem} {Q : Int → Mem → Prop} (hR : RR A) (hE : Eqv A σ) {h : Nat → Nat} {n : Nat} (hn : n ≤ 3) (hk : hOK A h n) (hh : heardR σ h n) (hQ : Q ((wyN A h n : Nat) : Int) σ) : wp (d + 1) m_M_waysOf [.inr (.inr 49), .inl (n : Int)] σ Q := by
  have hLk := hR.1.lk
  refine e_M_waysOf ?_
  refine upto (n := n) (P := fun k => K_M_waysOf_4 d Q (n : Int) ((wyN A h k : Nat) : Int) ((k : Nat) : Int) σ) ?_ (fun k hk2 ih => ?_)
  · exact e_M_waysOf_4 ⟨fun h => by omega, fun _ => hQ⟩
  · have hs := sgI hR (hk k hk2)
    have e1 : w32 ((k : Int) + 1) = ((k + 1 : Nat) : Int) := w32_eq (by omega) (by omega)
    have e53 : σ 53 (h k) = ((sg A (h k) : Nat) : Int) := (hE 53 _ rfl).trans hs.2.2.2
    have hl := hk k hk2
    have hw := wy216 hR (n := k + 1) (by omega) (fun i hi => hk i (by omega))
    refine e_M_waysOf_4 ⟨fun _ => ?_, fun h => by omega⟩
    rw [e1, Int.toNat_natCast, hh k hk2, Int.toNat_natCast, e53, ← Int.natCast_mul, w32_eq rfl (by show wyN A h (k + 1) < 2147483648; omega)]
    exact ⟨⟨by omega, by omega⟩, ⟨by omega, by omega⟩, ih⟩
theorem sp_M_hearWay {d : Nat} {A σ : Mem} {Q : Int → Mem → Prop} (hR : RR A) (hE : Eqv A σ) {h : Nat → Nat} {n v : Nat} (hn : n ≤ 3) (hv : v < 216) (hk : hOK A h n) (hh : heardR σ h n)
    (hQ : ∀ r σ1, MF σ σ1 → (∀ t, t < tN A → σ1 67 t = fm A h n v (fun t => A 9 t) t) → ((r = 1 ∧ 0 < sumN (tN A) (fm A h n v (fun t => A 9 t))) ∨ (r = 0 ∧ ∀ t, t < tN A → fm A h n v (fun t => A 9 t) t = 0)) → Q r σ1) : wp (d + 2) m_M_hearWay [.inr (.inr 49), .inl (v : Int), .inl (n : Int)] σ Q := by
  have h4 := tN4 hR.1
  have hLk := hR.1.lk
  refine e_M_hearWay ?_
  have tail : ∀ k : Nat, k ≤ n → ∀ (u : Nat) (w : Nat → Int) (σ1 : Mem), u < 216 → wB A (n - k) w → MF σ σ1 → (∀ t, t < tN A → σ1 67 t = w t) → (∀ r σ2, MF σ σ2 → (∀ t, t < tN A → σ2 67 t = fm A h k u w t) → ((r = 1 ∧ 0 < sumN (tN A) (fm A h k u w)) ∨ (r = 0 ∧ ∀ t, t < tN A → fm A h k u w t = 0)) → Q r σ2) → K_M_hearWay_45 (d + 1) Q (u : Int) ((k : Int) - 1) σ1 := by
    intro k
    induction k with
    | zero =>
      intro hk0 u w σ1 hu hB hF hw hq
      refine e_M_hearWay_45 ⟨fun _ => ?_, fun h => by omega⟩
      refine sp_M_allMass hR.1 (hF.eqv hE) (hB.bd (by omega)) hw ⟨fun h => hq 1 σ1 hF hw (Or.inl ⟨rfl, h⟩), fun h => hq 0 σ1 hF hw (Or.inr ⟨rfl, fun t ht => ?_⟩)⟩
      refine Classical.byContradiction (fun z => ?_)
      have := (com_pos hB).mpr ⟨t, ht, z⟩
      omega
    | succ k ih =>
      intro hk1 u w σ1 hu hB hF hw hq
      have hl := hk k (by omega)
      have hs := sgI hR hl
      have e53 : σ1 53 (h k) = ((sg A (h k) : Nat) : Int) := ((hF.eqv hE) 53 _ rfl).trans hs.2.2.2
      have e76 : ∀ σ2, MF σ σ2 → σ2 76 k = ((h k : Nat) : Int) := fun σ2 hF2 => by rw [hF2 76 k (by decide)]; exact hh k (by omega)
      have eK : ((k + 1 : Nat) : Int) - 1 = (k : Int) := by omega
      rw [eK]
      refine e_M_hearWay_45 ⟨fun h => by omega, fun _ => ?_⟩
      rw [Int.toNat_natCast, e76 σ1 hF, Int.toNat_natCast, e53, ← Int.ofNat_tdiv, ← Int.ofNat_tmod]
      have hd : u / sg A (h k) ≤ u := Nat.div_le_self _ _
      have hm : u % sg A (h k) < sg A (h k) := Nat.mod_lt _ (by omega)
      generalize hgd : u / sg A (h k) = q at hd
      generalize hgm : u % sg A (h k) = s at hm
      rw [w32_eq (n := q) rfl (by omega)]
      refine ⟨⟨by omega, by omega⟩, ⟨by omega, by omega⟩, by omega, ⟨by omega, by omega⟩, ⟨by omega, by omega⟩, by omega, ?_⟩
      have hs13 : (s : Int) < A 13 (h k) := by omega
      have hB2 : wB A (n - k) (fun t => w t * pt A (h k) t s) := by
        have := hB.st hR.1 hl hs13
        rw [show n - (k + 1) + 1 = n - k by omega] at this
        exact this
      refine upto (n := tN A) (P := fun t => ∀ σ2, MF σ σ2 → (∀ t2, t2 < tN A → σ2 67 t2 = if t2 < t then w t2 * pt A (h k) t2 s else w t2) → K_M_hearWay_84 (d + 1) Q (q : Int) (k : Int) (s : Int) ((t : Nat) : Int) σ2) (fun σ2 hF2 hw2 => ?_) (fun t ht ih2 σ2 hF2 hw2 => ?_) σ1 hF (fun t2 h2 => by rw [if_neg (by omega)]; exact hw t2 h2)
      · refine e_M_hearWay_84 ⟨fun h => by rw [m490 hR.1 (hF2.eqv hE)] at h; omega, fun _ => ?_⟩
        have e9 : w32 ((k : Int) + -1) = (k : Int) - 1 := by
          have : (k : Int) + -1 = (k : Int) - 1 := by omega
          rw [this]; exact w32_id (by omega) (by omega)
        rw [e9]
        refine ih (by omega) q (fun t => w t * pt A (h k) t s) σ2 (by omega) hB2 hF2 (fun t ht => by rw [hw2 t ht, if_pos ht]) (fun r σ3 hF3 hw3 hr3 => hq r σ3 hF3 ?_ ?_)
        · unfold fm; rw [hgd, hgm]; exact hw3
        · unfold fm; rw [hgd, hgm]; exact hr3
      · have e1 : w32 ((t : Int) + 1) = ((t + 1 : Nat) : Int) := w32_eq (by omega) (by omega)
        have e0 := m490 hR.1 (hF2.eqv hE)
        refine e_M_hearWay_84 ⟨fun _ => ?_, fun h => by omega⟩
        rw [Int.toNat_natCast, e76 σ2 hF2, e1, Int.toNat_natCast]
        refine ⟨⟨by omega, by omega⟩, ⟨by omega, by omega⟩, sp_M_place (by omega) (by omega) (by omega) ⟨⟨by omega, by omega⟩, ⟨by omega, by omega⟩, ?_⟩⟩
        have e54 : σ2 54 (24 * h k + 6 * t + s) = pt A (h k) t s := ((hF2.eqv hE) 54 _ rfl).trans (hR.1.prt hl (lt_tN ht) hs13).1
        have bb : 0 ≤ w t * pt A (h k) t s ∧ w t * pt A (h k) t s ≤ 99 * 60 ^ (n - k) := hB2 t ht
        have p3 := p60 (n := n - k) (by omega)
        have e67 : σ2 67 t = w t := by rw [hw2 t ht, if_neg (by omega)]
        rw [Int.toNat_natCast, e54, e67, w64_id (x := w t * pt A (h k) t s) (by omega) (by omega)]
        refine ih2 _ hF2.set (fun t2 h2 => ?_)
        by_cases e : t2 = t
        · subst e; rw [ms_eq, if_pos (by omega)]
        · rw [ms_ni e, hw2 t2 h2]
          by_cases e2 : t2 < t
          · rw [if_pos e2, if_pos (by omega)]
          · rw [if_neg e2, if_neg (by omega)]
  refine upto (n := 4) (P := fun t => ∀ σ1, MF σ σ1 → (∀ t2, t2 < t → t2 < tN A → σ1 67 t2 = A 9 t2) → K_M_hearWay_2 (d + 1) Q (v : Int) (n : Int) ((t : Nat) : Int) σ1) (fun σ1 hF h1 => ?_) (fun t ht ih σ1 hF h1 => ?_) σ MF.rfl (fun t2 h => absurd h (by omega))
  · refine e_M_hearWay_2 ⟨fun h => by omega, fun _ => ?_⟩
    rw [w32_id (by omega) (by omega)]
    exact tail n (Nat.le_refl _) v (fun t => A 9 t) σ1 hv (by rw [Nat.sub_self]; exact wB.pr hR.1) hF (fun t ht => h1 t (by omega) ht) hQ
  · have e1 : w32 ((t : Int) + 1) = ((t + 1 : Nat) : Int) := w32_eq (by omega) (by omega)
    have e0 : σ1 49 0 = ((tN A : Nat) : Int) := m490 hR.1 (hF.eqv hE)
    refine e_M_hearWay_2 ⟨fun _ => ⟨fun h => ⟨⟨by omega, by omega⟩, ⟨by omega, by omega⟩, ?_⟩, fun h => ⟨⟨by omega, by omega⟩, ?_⟩⟩, fun h => by omega⟩
    · have ht2 : t < tN A := by omega
      have e2 : σ1 51 t = A 9 t := ((hF.eqv hE) 51 t rfl).trans (hR.1.pr (lt_tN ht2)).1
      rw [Int.toNat_natCast, e2, e1]
      refine ih _ hF.set (fun t2 h3 h4 => ?_)
      by_cases e : t2 = t
      · subst e; exact ms_eq
      · rw [ms_ni e]; exact h1 t2 (by omega) h4
    · rw [e1, Int.toNat_natCast]
      refine ih _ hF.set (fun t2 h3 h4 => ?_)
      rw [ms_ni (by omega)]; exact h1 t2 (by omega) h4
theorem sp_M_gotTogether {d : Nat} {A σ : Mem} {Q : Int → Mem → Prop} (hR : RR A) (ho : 1 ≤ A 7 2) (hE : Eqv A σ) {h : Nat → Nat} {n wi p : Nat} {wI : Int} (hwI : wI = (wi : Int)) (hwi : wi ≤ 2) (hp : p = 10 + wi) (hn : n ≤ 3) (hk : hOK A h n) (hh : heardR σ h n) (h48 : σ 49 48 = (n : Int)) (hQ : ∀ σ1, MF σ σ1 → Q (gath A 10 p (hl h n) (fun t => A 9 t)) σ1) : wp (d + 3) m_M_gotTogether [.inr (.inr 49), .inl wI] σ Q := by
  subst hwI hp
  refine e_M_gotTogether ?_
  rw [← ways_sum hR hn hk] at hQ
  have hip := payW hwi
  have bb : ∀ v, -396000000000 ≤ gath A 10 (10 + wi) [] (fm A h n v (fun t => A 9 t)) ∧ gath A 10 (10 + wi) [] (fm A h n v (fun t => A 9 t)) ≤ 396000000000 := fun v => by
    have := gath_bd hR.1 ho hip (j := 10) (ls := []) (n := 0 + n) (w := fm A h n v (fun t => A 9 t)) none_lk (by simp; omega) (fm_B hR hk (wB.pr hR.1))
    simpa using this
  have w216 := wy216 hR hn hk
  refine upto (n := wyN A h n) (P := fun v => ∀ σ1, MF σ σ1 → K_M_gotTogether_5 (d + 2) Q (wi : Int) (sumN v (fun v => gath A 10 (10 + wi) [] (fm A h n v (fun t => A 9 t)))) ((v : Nat) : Int) σ1) (fun σ1 hF => ?_) (fun v hv ih σ1 hF => ?_) σ MF.rfl
  · refine e_M_gotTogether_5 ?_
    rw [hF 49 48 (by decide), h48]
    exact sp_M_waysOf hR (hF.eqv hE) hn hk (fun i hi => by rw [hF 76 i (by decide)]; exact hh i hi) ⟨fun h => by omega, fun _ => hQ σ1 hF⟩
  · have e1 : w32 ((v : Int) + 1) = ((v + 1 : Nat) : Int) := w32_eq (by omega) (by omega)
    have hh1 : heardR σ1 h n := fun i hi => by rw [hF 76 i (by decide)]; exact hh i hi
    have b1 := sumN_bd (n := v) (f := fun v => gath A 10 (10 + wi) [] (fm A h n v (fun t => A 9 t))) (B := 396000000000) (fun i _ => bb i)
    have b2 := bb v
    have b3 : (v : Int) * 396000000000 ≤ 100000000000000 := by omega
    have es : sumN (v + 1) (fun v => gath A 10 (10 + wi) [] (fm A h n v (fun t => A 9 t))) = sumN v (fun v => gath A 10 (10 + wi) [] (fm A h n v (fun t => A 9 t))) + gath A 10 (10 + wi) [] (fm A h n v (fun t => A 9 t)) := rfl
    refine e_M_gotTogether_5 ?_
    rw [hF 49 48 (by decide), h48]
    refine sp_M_waysOf hR (hF.eqv hE) hn hk hh1 ⟨fun _ => ?_, fun h => by omega⟩
    rw [hF 49 48 (by decide), h48, e1]
    refine sp_M_hearWay hR (hF.eqv hE) hn (by omega) hk hh1 (fun r σ2 hF2 hw hr => ⟨fun hr0 => ?_, fun hr0 => ?_⟩)
    · have hz : gath A 10 (10 + wi) [] (fm A h n v (fun t => A 9 t)) = 0 := by
        rcases hr with h2 | h2
        · omega
        · exact gath_0 h2.2
      rw [w64_id (by omega) (by omega), Int.add_zero]
      have := ih σ2 (hF.trans hF2)
      rw [es, hz, Int.add_zero] at this
      exact this
    · refine sp_M_Ex (wi := wi) hR.1 ((hF.trans hF2).eqv hE) ho rfl hwi rfl ((fm_B hR hk (wB.pr hR.1)).bd (by omega)) hw ?_
      rw [w64_id (by omega) (by omega)]
      exact ih σ2 (hF.trans hF2)
theorem sp_M_power {d : Nat} {σ : Mem} {Q : Int → Mem → Prop} {n : Nat} (hn : n ≤ 3) (hQ : Q (60 ^ n) σ) : wp (d + 1) m_M_power [.inl (n : Int)] σ Q := by
  refine e_M_power ?_
  have key := upto (n := n) (P := fun i => K_M_power_4 d Q (n : Int) (60 ^ i) ((i : Nat) : Int) σ) ?_ (fun i hi ih => ?_)
  · rw [Int.pow_zero] at key
    exact key
  · exact e_M_power_4 ⟨fun h => by omega, fun _ => hQ⟩
  · have e1 : w32 ((i : Int) + 1) = ((i + 1 : Nat) : Int) := w32_eq (by omega) (by omega)
    have p1 := p60 (n := i) (by omega)
    refine e_M_power_4 ⟨fun _ => ?_, fun h => by omega⟩
    rw [e1, w64_id (by omega) (by omega), ← Int.pow_succ]
    exact ih
