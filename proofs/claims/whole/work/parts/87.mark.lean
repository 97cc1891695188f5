-- two truths: what is marked of a rising row of crossings
def CSx (A : Mem) (a b : Nat → Int) (n : Nat) : Prop := SL a b n ∧ 2 ≤ n ∧ a 0 = 0 ∧ a (n - 1) = b (n - 1) ∧ ∀ x y : Nat, y < x → (x : Int) < A 7 2 → hasP A a b n x y 10 ∧ (dd A 10 x y 0 = 0 → dd A 10 x y 1 = 0 → hasP A a b n x y 11)
theorem SL.nox {a b : Nat → Int} {n i : Nat} {x y : Int} (h : SL a b n) (hi : i + 1 < n) (hh : opp x y → has a b n (rA x) (rB x y)) : NoX x y (a i) (b i) (a (i + 1)) (b (i + 1)) := fun ho => by
  obtain ⟨j, j1, j2⟩ := hh ho
  have hr := rB_pos ho
  have bj := h.1 j j1
  have bi := h.1 i (by omega)
  have bi1 := h.1 (i + 1) hi
  by_cases z : j ≤ i
  · refine Or.inl ?_
    have e : a j * b i ≤ a i * b j := by
      rcases Nat.lt_or_eq_of_le z with z | z
      · exact Int.le_of_lt (h.2 j i z (by omega))
      · subst z; exact Int.le_refl _
    exact fr_le_le hr.2.2 (by omega) (by omega) (Int.le_of_eq j2.symm) e
  · refine Or.inr ?_
    have e : a (i + 1) * b j ≤ a j * b (i + 1) := by
      rcases Nat.lt_or_eq_of_le (show i + 1 ≤ j by omega) with z | z
      · exact Int.le_of_lt (h.2 (i + 1) j z j1)
      · subst z; exact Int.le_refl _
    exact fr_le_le (by omega) (by omega) hr.2.2 e (Int.le_of_eq j2)
theorem CSx.gap {A : Mem} {a b : Nat → Int} {n i : Nat} (h : CSx A a b n) (hi : i + 1 < n) : Gap A (a i) (b i) (a (i + 1)) (b (i + 1)) := fun x y hxy hx =>
  ⟨h.1.nox hi (h.2.2.2.2 x y hxy hx).1, fun z1 z2 => h.1.nox hi ((h.2.2.2.2 x y hxy hx).2 z1 z2)⟩
theorem CSx.in01 {A : Mem} {a b : Nat → Int} {n i : Nat} (h : CSx A a b n) (h0 : 0 < i) (hi : i + 1 < n) : 0 < a i ∧ a i < b i := by
  have r1 := h.1.2 0 i h0 (by omega)
  have r2 := h.1.2 i (n - 1) (by omega) (by omega)
  have b0 := h.1.1 0 (by omega)
  have bi := h.1.1 i (by omega)
  have bl := h.1.1 (n - 1) (by omega)
  rw [h.2.2.1, Int.zero_mul] at r1
  rw [h.2.2.2.1] at r2
  rw [Int.mul_comm] at r1
  rw [Int.mul_comm (a i), ] at r2
  have s1 := mp_pos (s := b 0) (x := a i) (by omega)
  have r3 := Int.lt_of_mul_lt_mul_left r2 (by omega)
  omega
theorem CSx.nb {A : Mem} {a b : Nat → Int} {n i : Nat} (h : CSx A a b n) (h0 : 0 < i) (hi : i + 1 < n) : NB A (a (i - 1)) (b (i - 1)) (a i) (b i) (a (i + 1)) (b (i + 1)) := by
  have b0 := h.1.1 (i - 1) (by omega)
  have b2 := h.1.1 (i + 1) (by omega)
  refine ⟨⟨b0.1, by omega, b2.2.1, by omega⟩, h.in01 h0 hi, h.1.2 (i - 1) i (by omega) (by omega), h.1.2 i (i + 1) (by omega) hi, ?_, h.gap hi⟩
  have g := h.gap (i := i - 1) (by omega)
  rw [show i - 1 + 1 = i by omega] at g
  exact g
def mX (A : Mem) (a b : Nat → Int) (i : Nat) : Nat := fX A (a i * b (i + 1) + a (i + 1) * b i) (2 * b i * b (i + 1))
def mkd (A : Mem) (a b : Nat → Int) (i : Nat) : Prop := ¬ (mX A a b (i - 1) = fX A (a i) (b i) ∧ mX A a b i = fX A (a i) (b i))
theorem mkd_MK {A : Mem} {a b : Nat → Int} {i : Nat} (h0 : 0 < i) : mkd A a b i ↔ MK A (a (i - 1)) (b (i - 1)) (a i) (b i) (a (i + 1)) (b (i + 1)) := by
  unfold mkd MK mX
  rw [show i - 1 + 1 = i by omega]
/-- the first e marks of crossings below i -/
def MS (A : Mem) (a b : Nat → Int) (i : Nat) (u v : Nat → Int) (e : Nat) : Prop := 1 ≤ e ∧ e ≤ i ∧ (u 0 = 0 ∧ v 0 = 1) ∧ (∀ j, 0 < j → j < e → ∃ k, 0 < k ∧ k < i ∧ u j = a k ∧ v j = b k ∧ mkd A a b k) ∧ (∀ j l, j < l → l < e → u j * v l < u l * v j) ∧ (∀ k, 0 < k → k < i → mkd A a b k → ∃ j, 0 < j ∧ j < e ∧ u j = a k ∧ v j = b k)
theorem MS.start {A : Mem} {a b u v : Nat → Int} (h : u 0 = 0 ∧ v 0 = 1) : MS A a b 1 u v 1 := ⟨Nat.le_refl 1, Nat.le_refl 1, h, fun j h1 h2 => by omega, fun j l h1 h2 => by omega, fun k h1 h2 => by omega⟩
theorem MS.no {A : Mem} {a b u v : Nat → Int} {i e : Nat} (h : MS A a b i u v e) (hn : ¬ mkd A a b i) : MS A a b (i + 1) u v e := by
  obtain ⟨h1, h2, h3, h4, h5, h6⟩ := h
  refine ⟨h1, by omega, h3, fun j j1 j2 => ?_, h5, fun k k1 k2 hk => ?_⟩
  · obtain ⟨k, g1, g2, g3⟩ := h4 j j1 j2
    exact ⟨k, g1, by omega, g3⟩
  · by_cases z : k = i
    · subst z; exact absurd hk hn
    · exact h6 k k1 (by omega) hk
theorem MS.below {A : Mem} {a b u v : Nat → Int} {n i e j : Nat} {p q : Int} (hC : CSx A a b n) (h : MS A a b i u v e) (hin : i < n) (hp : 0 < p ∧ 0 < q) (hpq : ∀ k, k < i → a k * q < p * b k) (hj : j < e) : u j * q < p * v j := by
  obtain ⟨h1, h2, h3, h4, h5, h6⟩ := h
  by_cases z : j = 0
  · subst z
    rw [h3.1, h3.2]; omega
  · obtain ⟨k, g1, g2, g3, g4, g5⟩ := h4 j (by omega) hj
    rw [g3, g4]; exact hpq k g2
theorem MS.add {A : Mem} {a b u v u2 v2 : Nat → Int} {n i e : Nat} (hC : CSx A a b n) (h : MS A a b i u v e) (h0 : 0 < i) (hi : i + 1 < n) (hm : mkd A a b i) (e1 : ∀ j, j < e → u2 j = u j ∧ v2 j = v j) (e2 : u2 e = a i ∧ v2 e = b i) : MS A a b (i + 1) u2 v2 (e + 1) := by
  have hin := hC.in01 h0 hi
  have hb := fun j hj => h.below (j := j) (p := a i) (q := b i) hC (by omega) ⟨hin.1, by omega⟩ (fun k hk => hC.1.2 k i hk (by omega)) hj
  obtain ⟨h1, h2, h3, h4, h5, h6⟩ := h
  refine ⟨by omega, by omega, by rw [(e1 0 (by omega)).1, (e1 0 (by omega)).2]; exact h3, fun j j1 j2 => ?_, fun j l jl l2 => ?_, fun k k1 k2 hk => ?_⟩
  · by_cases z : j = e
    · subst z; exact ⟨i, h0, by omega, e2.1, e2.2, hm⟩
    · obtain ⟨k, g1, g2, g3⟩ := h4 j j1 (by omega)
      rw [(e1 j (by omega)).1, (e1 j (by omega)).2]
      exact ⟨k, g1, by omega, g3⟩
  · rw [(e1 j (by omega)).1, (e1 j (by omega)).2]
    by_cases z : l = e
    · subst z; rw [e2.1, e2.2]; exact hb j jl
    · rw [(e1 l (by omega)).1, (e1 l (by omega)).2]; exact h5 j l jl (by omega)
  · by_cases z : k = i
    · subst z; exact ⟨e, by omega, by omega, e2⟩
    · obtain ⟨j, g1, g2, g3⟩ := h6 k k1 (by omega) hk
      refine ⟨j, g1, by omega, ?_⟩
      rw [(e1 j g2).1, (e1 j g2).2]; exact g3
theorem MS.fin {A : Mem} (h2 : A 7 1 = 2) {a b u v u2 v2 : Nat → Int} {n e : Nat} (hC : CSx A a b n) (h : MS A a b (n - 1) u v e) (e1 : ∀ j, j < e → u2 j = u j ∧ v2 j = v j) (e2 : u2 e = 1 ∧ v2 e = 1) : ES A u2 v2 (e + 1) := by
  have hn := hC.2.1
  have hb := fun j hj => h.below (j := j) (p := 1) (q := 1) hC (by omega) ⟨by decide, by decide⟩ (fun k hk => by
    have r := hC.1.2 k (n - 1) hk (by omega)
    have b1 := hC.1.1 (n - 1) (by omega)
    rw [hC.2.2.2.1, Int.mul_comm (a k)] at r
    have := Int.lt_of_mul_lt_mul_left r (by omega)
    omega) hj
  obtain ⟨h1, h2', h3, h4, h5, h6⟩ := h
  refine ⟨by omega, by rw [(e1 0 (by omega)).1, (e1 0 (by omega)).2]; exact h3, by rw [Nat.add_sub_cancel]; exact e2, fun i hi => ?_, fun j l jl l2 => ?_, fun i i0 i1 => ?_, fun p q hE => ?_⟩
  · by_cases z : i = e
    · subst z; rw [e2.1, e2.2]; omega
    · rw [(e1 i (by omega)).1, (e1 i (by omega)).2]
      by_cases z0 : i = 0
      · subst z0; rw [h3.1, h3.2]; omega
      · obtain ⟨k, g1, g2, g3, g4, g5⟩ := h4 i (by omega) (by omega)
        rw [g3, g4]; exact hC.1.1 k (by omega)
  · rw [(e1 j (by omega)).1, (e1 j (by omega)).2]
    by_cases z : l = e
    · subst z; rw [e2.1, e2.2]; exact hb j jl
    · rw [(e1 l (by omega)).1, (e1 l (by omega)).2]; exact h5 j l jl (by omega)
  · obtain ⟨k, g1, g2, g3, g4, g5⟩ := h4 i i0 (by omega)
    rw [(e1 i (by omega)).1, (e1 i (by omega)).2, g3, g4]
    exact ⟨_, _, _, _, hC.nb g1 (by omega), (mkd_MK g1).mp g5⟩
  · obtain ⟨lp, lq, rp, rq, nb, m⟩ := hE
    have hp := nb.2.1
    have hasX : ∀ x y : Int, opp x y → has a b n (rA x) (rB x y) → rA x * q = p * rB x y → ∃ k, 0 < k ∧ k + 1 < n ∧ a k * q = p * b k := fun x y ho hh he => by
      obtain ⟨k, k1, k2⟩ := hh
      have hr := rB_pos ho
      have bk := hC.1.1 k k1
      have ek : a k * q = p * b k := fr_eq_eq (by omega) hr.2.2 (by omega) k2 he
      refine ⟨k, ?_, ?_, ek⟩
      · refine Nat.pos_of_ne_zero (fun z => ?_)
        subst z
        rw [hC.2.2.1, Int.zero_mul] at ek
        have := Int.mul_pos hp.1 (show 0 < b 0 by omega)
        omega
      · refine Nat.lt_of_not_le (fun z => ?_)
        have z2 : k = n - 1 := by omega
        subst z2
        rw [hC.2.2.2.1, Int.mul_comm p] at ek
        have := Int.eq_of_mul_eq_mul_left (show b (n - 1) ≠ 0 by omega) ek
        omega
    have hk : ∃ k, 0 < k ∧ k + 1 < n ∧ a k * q = p * b k := by
      obtain ⟨x, y, xy, hx, hh⟩ := MK.isX h2 nb m
      have hP := hC.2.2.2.2 x y xy hx
      rcases hh with ⟨ho, he⟩ | ⟨⟨z1, z2⟩, ho, he⟩
      · exact hasX _ _ ho (hP.1 ho) he
      · exact hasX _ _ ho (hP.2 z1 z2 ho) he
    obtain ⟨k, k0, k1, k2⟩ := hk
    have mkk : mkd A a b k := (mkd_MK k0).mpr (MK.tr h2 nb (hC.nb k0 k1) k2.symm m)
    obtain ⟨j, j0, j1, j2, j3⟩ := h6 k k0 (by omega) mkk
    refine ⟨j, j0, by omega, ?_⟩
    rw [(e1 j j1).1, (e1 j j1).2, j2, j3]
    exact k2
