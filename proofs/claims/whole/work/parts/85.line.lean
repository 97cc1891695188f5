-- PURE: two truths: fractions, signs, what is done between crossings
theorem fr_le_lt {a b c d e f : Int} (hb : 0 < b) (hd : 0 < d) (hf : 0 < f) (h1 : a * d ≤ c * b) (h2 : c * f < e * d) : a * f < e * b := by
  have x1 := Int.mul_le_mul_of_nonneg_right h1 (Int.le_of_lt hf)
  have x2 := Int.mul_lt_mul_of_pos_right h2 hb
  refine Int.lt_of_mul_lt_mul_right (a := d) ?_ (Int.le_of_lt hd)
  rw [Int.mul_right_comm a f d, Int.mul_right_comm e b d]
  rw [Int.mul_right_comm c b f] at x1
  omega
theorem fr_lt_le {a b c d e f : Int} (hb : 0 < b) (hd : 0 < d) (hf : 0 < f) (h1 : a * d < c * b) (h2 : c * f ≤ e * d) : a * f < e * b := by
  have x1 := Int.mul_lt_mul_of_pos_right h1 hf
  have x2 := Int.mul_le_mul_of_nonneg_right h2 (Int.le_of_lt hb)
  refine Int.lt_of_mul_lt_mul_right (a := d) ?_ (Int.le_of_lt hd)
  rw [Int.mul_right_comm a f d, Int.mul_right_comm e b d]
  rw [Int.mul_right_comm c b f] at x1
  omega
theorem fr_le_le {a b c d e f : Int} (hb : 0 < b) (hd : 0 < d) (hf : 0 < f) (h1 : a * d ≤ c * b) (h2 : c * f ≤ e * d) : a * f ≤ e * b := by
  have x1 := Int.mul_le_mul_of_nonneg_right h1 (Int.le_of_lt hf)
  have x2 := Int.mul_le_mul_of_nonneg_right h2 (Int.le_of_lt hb)
  refine Int.le_of_mul_le_mul_right (a := d) ?_ hd
  rw [Int.mul_right_comm a f d, Int.mul_right_comm e b d]
  rw [Int.mul_right_comm c b f] at x1
  omega
theorem fr_eq_eq {a b c d e f : Int} (hb : 0 < b) (hd : 0 < d) (hf : 0 < f) (h1 : a * d = c * b) (h2 : c * f = e * d) : a * f = e * b := by
  have x1 := fr_le_le hb hd hf (Int.le_of_eq h1) (Int.le_of_eq h2)
  have x2 := fr_le_le hf hd hb (Int.le_of_eq h2.symm) (Int.le_of_eq h1.symm)
  omega
theorem mp_pos {s x : Int} (hs : 0 < s) : (0 < s * x ↔ 0 < x) ∧ (s * x < 0 ↔ x < 0) ∧ (s * x = 0 ↔ x = 0) := by
  rcases Int.lt_trichotomy x 0 with h | h | h
  · have := Int.mul_neg_of_pos_of_neg hs h
    omega
  · subst h
    rw [Int.mul_zero]
    omega
  · have := Int.mul_pos hs h
    omega
def sgE (x y : Int) : Prop := (0 < x ↔ 0 < y) ∧ (x < 0 ↔ y < 0)
def opp (x y : Int) : Prop := (0 < x ∧ y < 0) ∨ (x < 0 ∧ 0 < y)
def rA (x : Int) : Int := (x.natAbs : Int)
def rB (x y : Int) : Int := (x.natAbs : Int) + (y.natAbs : Int)
def gX (x y p q : Int) : Int := (q - p) * x + p * y
theorem opp_mul {x y : Int} : x * y < 0 ↔ opp x y := by
  unfold opp
  rcases Int.lt_trichotomy x 0 with h | h | h
  · have e : x * y = -((-x) * y) := by rw [Int.neg_mul, Int.neg_neg]
    have := mp_pos (s := -x) (x := y) (by omega)
    omega
  · subst h
    rw [Int.zero_mul]
    omega
  · have := mp_pos (s := x) (x := y) h
    omega
theorem rB_pos {x y : Int} (h : opp x y) : 0 < rA x ∧ rA x < rB x y ∧ 0 < rB x y := by
  unfold opp at h
  unfold rA rB
  omega
theorem gX_1 {x y p q : Int} (h : 0 < x ∧ y < 0) : gX x y p q = rA x * q - p * rB x y := by
  have e1 : rA x = x := by unfold rA; omega
  have e2 : rB x y = x - y := by unfold rB; omega
  rw [e1, e2]
  unfold gX
  rw [Int.sub_mul, Int.mul_sub, Int.mul_comm q x]
  omega
theorem gX_2 {x y p q : Int} (h : x < 0 ∧ 0 < y) : gX x y p q = p * rB x y - rA x * q := by
  have e1 : rA x = -x := by unfold rA; omega
  have e2 : rB x y = y - x := by unfold rB; omega
  rw [e1, e2]
  unfold gX
  rw [Int.sub_mul, Int.mul_sub, Int.neg_mul, Int.mul_comm q x]
  omega
theorem gX_same {x y p q p2 q2 : Int} (h1 : 0 < p ∧ p < q) (h2 : 0 < p2 ∧ p2 < q2) (h : opp x y → (rA x * q < p * rB x y ∧ rA x * q2 < p2 * rB x y) ∨ (p * rB x y < rA x * q ∧ p2 * rB x y < rA x * q2)) : sgE (gX x y p q) (gX x y p2 q2) ∧ (gX x y p q = 0 → x = 0 ∧ y = 0) := by
  unfold sgE
  by_cases ho : opp x y
  · have h3 := h ho
    rcases ho with ho | ho
    · rw [gX_1 ho, gX_1 ho]
      omega
    · rw [gX_2 ho, gX_2 ho]
      omega
  · have a1 := mp_pos (s := q - p) (x := x) (by omega)
    have a2 := mp_pos (s := p) (x := y) (by omega)
    have a3 := mp_pos (s := q2 - p2) (x := x) (by omega)
    have a4 := mp_pos (s := p2) (x := y) (by omega)
    unfold opp at ho
    unfold gX
    omega
theorem gX_eq {x y p q p2 q2 : Int} (h1 : 0 < q) (h2 : 0 < q2) (h : p * q2 = p2 * q) : q2 * gX x y p q = q * gX x y p2 q2 := by
  unfold gX
  have e1 : q2 * ((q - p) * x + p * y) = (q2 * q - p * q2) * x + (p * q2) * y := by grind
  have e2 : q * ((q2 - p2) * x + p2 * y) = (q2 * q - p2 * q) * x + (p2 * q) * y := by grind
  rw [e1, e2, h]
theorem sg_eq {x y p q p2 q2 : Int} (h1 : 0 < q) (h2 : 0 < q2) (h : p * q2 = p2 * q) : sgE (gX x y p q) (gX x y p2 q2) := by
  have e := gX_eq (x := x) (y := y) h1 h2 h
  have a1 := mp_pos (s := q2) (x := gX x y p q) h2
  have a2 := mp_pos (s := q) (x := gX x y p2 q2) h1
  unfold sgE
  rw [e] at a1
  omega
theorem betB_sg {tie : Int} {u v u2 v2 : Nat → Int} {a b : Nat} (h1 : sgE (u a - u b) (u2 a - u2 b)) (h2 : u a = u b → sgE (v a - v b) (v2 a - v2 b)) : betB tie u v a b = betB tie u2 v2 a b := by
  unfold sgE at h1
  have e1 : decide (u b < u a) = decide (u2 b < u2 a) := decide_eq_decide.mpr (by omega)
  have e2 : decide (u a = u b) = decide (u2 a = u2 b) := decide_eq_decide.mpr (by omega)
  unfold betB
  rw [e1, e2]
  by_cases hu : u a = u b
  · have h3 := h2 hu
    unfold sgE at h3
    have e3 : decide (v b < v a) = decide (v2 b < v2 a) := decide_eq_decide.mpr (by omega)
    have e4 : decide (v a < v b) = decide (v2 a < v2 b) := decide_eq_decide.mpr (by omega)
    rw [e3, e4]
  · have hu2 : ¬ u2 a = u2 b := by omega
    rw [decide_eq_false hu2, Bool.false_and, Bool.false_and]
theorem pkA_congr {tie : Int} {u v u2 v2 : Nat → Int} : ∀ {n : Nat}, (∀ a b, b < a → a ≤ n → betB tie u v a b = betB tie u2 v2 a b) → pkA tie u v n = pkA tie u2 v2 n
  | 0, _ => rfl
  | n + 1, h => by
    have ih := pkA_congr (tie := tie) (u := u) (v := v) (u2 := u2) (v2 := v2) (n := n) (fun a b h1 h2 => h a b h1 (by omega))
    have hp := pkA_le (tie := tie) (u := u) (v := v) n
    have hb := h (n + 1) (pkA tie u v n) (by omega) (by omega)
    cases hc : betB tie u v (n + 1) (pkA tie u v n) with
    | true => rw [pkA_t hc, pkA_t (by rw [← ih, ← hb]; exact hc)]
    | false => rw [pkA_f hc, pkA_f (by rw [← ih, ← hb]; exact hc), ih]
def wX (p q : Int) (t : Nat) : Int := match t with
  | 0 => q - p
  | 1 => p
  | _ => 0
def fX (A : Mem) (p q : Int) : Nat := act A (wX p q) 10
def dd (A : Mem) (pay a b t : Nat) : Int := A pay (4 * a + t) - A pay (4 * b + t)
theorem dotX {A : Mem} (h2 : A 7 1 = 2) {p q : Int} {pay a : Nat} : dot A (wX p q) pay a = (q - p) * A pay (4 * a) + p * A pay (4 * a + 1) := by
  have e : tN A = 2 := by show (A 7 1).toNat = 2; rw [h2]; rfl
  unfold dot
  rw [e]
  show 0 + (q - p) * A pay (4 * a + 0) + p * A pay (4 * a + 1) = _
  rw [Int.zero_add]
  rfl
theorem dotD {A : Mem} (h2 : A 7 1 = 2) {p q : Int} {pay a b : Nat} : dot A (wX p q) pay a - dot A (wX p q) pay b = gX (dd A pay a b 0) (dd A pay a b 1) p q := by
  rw [dotX h2, dotX h2]
  unfold gX dd
  rw [Int.mul_sub, Int.mul_sub]
  show _ = (q - p) * A pay (4 * a) - (q - p) * A pay (4 * b) + _
  omega
def NoX (x y p q p2 q2 : Int) : Prop := opp x y → rA x * q ≤ p * rB x y ∨ p2 * rB x y ≤ rA x * q2
def Gap (A : Mem) (p q p2 q2 : Int) : Prop := ∀ a b : Nat, b < a → (a : Int) < A 7 2 → NoX (dd A 10 a b 0) (dd A 10 a b 1) p q p2 q2 ∧ (dd A 10 a b 0 = 0 → dd A 10 a b 1 = 0 → NoX (dd A 11 a b 0) (dd A 11 a b 1) p q p2 q2)
theorem NoX.side {x y p q p2 q2 a b c e : Int} (h : NoX x y p q p2 q2) (hq : 0 < q) (hq2 : 0 < q2) (hb : 0 < b) (he : 0 < e) (l1 : p * b < a * q) (r1 : a * q2 < p2 * b) (l2 : p * e < c * q) (r2 : c * q2 < p2 * e) : opp x y → (rA x * b < a * rB x y ∧ rA x * e < c * rB x y) ∨ (a * rB x y < rA x * b ∧ c * rB x y < rA x * e) := fun ho => by
  have hr := (rB_pos ho).2.2
  rcases h ho with h | h
  · exact Or.inl ⟨fr_le_lt hr hq hb h l1, fr_le_lt hr hq he h l2⟩
  · exact Or.inr ⟨fr_lt_le hb hq2 hr r1 h, fr_lt_le he hq2 hr r2 h⟩
theorem fX_gap {A : Mem} (h2 : A 7 1 = 2) {p q p2 q2 a b c e : Int} (h : Gap A p q p2 q2) (hq : 0 < q) (hq2 : 0 < q2) (ha : 0 < a ∧ a < b) (hc : 0 < c ∧ c < e) (l1 : p * b < a * q) (r1 : a * q2 < p2 * b) (l2 : p * e < c * q) (r2 : c * q2 < p2 * e) : fX A a b = fX A c e := by
  unfold fX act
  refine pkA_congr (fun x y hxy hx => ?_)
  by_cases hA : (x : Int) < A 7 2
  · have g := h x y hxy hA
    have s1 := gX_same ha hc (g.1.side hq hq2 (by omega) (by omega) l1 r1 l2 r2)
    refine betB_sg ?_ (fun hu => ?_)
    · rw [dotD h2, dotD h2]; exact s1.1
    · rw [dotD h2, dotD h2]
      have z : gX (dd A 10 x y 0) (dd A 10 x y 1) a b = 0 := by rw [← dotD h2]; omega
      have z2 := s1.2 z
      exact (gX_same ha hc ((g.2 z2.1 z2.2).side hq hq2 (by omega) (by omega) l1 r1 l2 r2)).1
  · exfalso
    have : aN A = (A 7 2).toNat := rfl
    omega
theorem fX_eq {A : Mem} (h2 : A 7 1 = 2) {a b c e : Int} (hb : 0 < b) (he : 0 < e) (h : a * e = c * b) : fX A a b = fX A c e := by
  unfold fX act
  refine pkA_congr (fun x y hxy hx => betB_sg ?_ (fun hu => ?_))
  · rw [dotD h2, dotD h2]; exact sg_eq hb he h
  · rw [dotD h2, dotD h2]; exact sg_eq hb he h
def hX (A : Mem) (p q : Int) : Int := dot A (wX p q) 11 (fX A p q)
theorem hX_eq {A : Mem} (h2 : A 7 1 = 2) {a b c e : Int} (hb : 0 < b) (he : 0 < e) (h : a * e = c * b) : hX A a b * e = hX A c e * b := by
  unfold hX
  rw [fX_eq h2 hb he h, dotX h2, dotX h2]
  have := gX_eq (x := A 11 (4 * fX A c e)) (y := A 11 (4 * fX A c e + 1)) hb he h
  unfold gX at this
  rw [Int.mul_comm _ e, Int.mul_comm _ b]
  exact this
/-- x is an edge by its neighbours l, r -/
def MK (A : Mem) (lp lq p q rp rq : Int) : Prop := ¬ (fX A (lp * q + p * lq) (2 * lq * q) = fX A p q ∧ fX A (p * rq + rp * q) (2 * q * rq) = fX A p q)
def isX (A : Mem) (p q : Int) : Prop := ∃ a b : Nat, b < a ∧ (a : Int) < A 7 2 ∧ ((opp (dd A 10 a b 0) (dd A 10 a b 1) ∧ rA (dd A 10 a b 0) * q = p * rB (dd A 10 a b 0) (dd A 10 a b 1)) ∨ ((dd A 10 a b 0 = 0 ∧ dd A 10 a b 1 = 0) ∧ opp (dd A 11 a b 0) (dd A 11 a b 1) ∧ rA (dd A 11 a b 0) * q = p * rB (dd A 11 a b 0) (dd A 11 a b 1)))
def NB (A : Mem) (lp lq p q rp rq : Int) : Prop := (0 ≤ lp ∧ 0 < lq ∧ rp ≤ rq ∧ 0 < rq) ∧ (0 < p ∧ p < q) ∧ lp * q < p * lq ∧ p * rq < rp * q ∧ Gap A lp lq p q ∧ Gap A p q rp rq
theorem Gap.join {A : Mem} {lp lq p q rp rq : Int} (h1 : Gap A lp lq p q) (h2 : Gap A p q rp rq) (hn : ¬ isX A p q) : Gap A lp lq rp rq := fun a b hab ha => by
  have g1 := h1 a b hab ha
  have g2 := h2 a b hab ha
  refine ⟨fun ho => ?_, fun z1 z2 ho => ?_⟩
  · have k1 := g1.1 ho
    have k2 := g2.1 ho
    have k3 : ¬ rA (dd A 10 a b 0) * q = p * rB (dd A 10 a b 0) (dd A 10 a b 1) := fun z => hn ⟨a, b, hab, ha, Or.inl ⟨ho, z⟩⟩
    omega
  · have k1 := g1.2 z1 z2 ho
    have k2 := g2.2 z1 z2 ho
    have k3 : ¬ rA (dd A 11 a b 0) * q = p * rB (dd A 11 a b 0) (dd A 11 a b 1) := fun z => hn ⟨a, b, hab, ha, Or.inr ⟨⟨z1, z2⟩, ho, z⟩⟩
    omega
/-- the middle lies between -/
theorem mid_in {a b c e : Int} (hb : 0 < b) (he : 0 < e) (h : a * e < c * b) : 0 < 2 * b * e ∧ a * (2 * b * e) < (a * e + c * b) * b ∧ (a * e + c * b) * e < c * (2 * b * e) := by
  have h1 := Int.mul_lt_mul_of_pos_right h hb
  have h2 := Int.mul_lt_mul_of_pos_right h he
  have h3 := Int.mul_pos hb he
  refine ⟨?_, ?_, ?_⟩
  · rw [Int.mul_assoc]; omega
  · have e1 : a * (2 * b * e) = a * e * b + a * e * b := by grind
    have e2 : (a * e + c * b) * b = a * e * b + c * b * b := by grind
    omega
  · have e1 : c * (2 * b * e) = c * b * e + c * b * e := by grind
    have e2 : (a * e + c * b) * e = a * e * e + c * b * e := by grind
    omega
theorem fr_in01 {lp lq p q rp rq : Int} (hl : 0 ≤ lp ∧ 0 < lq) (hr : rp ≤ rq ∧ 0 < rq) (hq : 0 < q) (h1 : lp * q < p * lq) (h2 : p * rq < rp * q) : 0 < p ∧ p < q := by
  have h3 := fr_le_lt (a := 0) (b := 1) (by decide) hl.2 hq (by omega) h1
  have h4 := fr_lt_le (e := 1) (f := 1) hq hr.2 (by decide) h2 (by omega)
  omega
theorem NB.mids {A : Mem} {lp lq p q rp rq : Int} (h : NB A lp lq p q rp rq) : (0 < lp * q + p * lq ∧ lp * q + p * lq < 2 * lq * q) ∧ (0 < p * rq + rp * q ∧ p * rq + rp * q < 2 * q * rq) := by
  obtain ⟨⟨a1, a2, a3, a4⟩, ⟨b1, b2⟩, c1, c2, -, -⟩ := h
  have hq : 0 < q := by omega
  have m1 := mid_in a2 hq c1
  have m2 := mid_in hq a4 c2
  exact ⟨fr_in01 ⟨a1, a2⟩ ⟨by omega, hq⟩ m1.1 m1.2.1 m1.2.2, fr_in01 ⟨by omega, hq⟩ ⟨a3, a4⟩ m2.1 m2.2.1 m2.2.2⟩
theorem MK.isX {A : Mem} (h2 : A 7 1 = 2) {lp lq p q rp rq : Int} (h : NB A lp lq p q rp rq) (hm : MK A lp lq p q rp rq) : isX A p q := by
  refine Classical.byContradiction (fun hn => hm ?_)
  have hi := h.mids
  obtain ⟨⟨a1, a2, a3, a4⟩, ⟨b1, b2⟩, c1, c2, g1, g2⟩ := h
  have hq : 0 < q := by omega
  have m1 := mid_in a2 hq c1
  have m2 := mid_in hq a4 c2
  have g := g1.join g2 hn
  refine ⟨?_, ?_⟩
  · exact fX_gap h2 g a2 a4 hi.1 ⟨b1, b2⟩ m1.2.1 (fr_le_lt m1.1 hq a4 (Int.le_of_lt m1.2.2) c2) c1 c2
  · exact fX_gap h2 g a2 a4 hi.2 ⟨b1, b2⟩ (fr_le_lt a2 hq m2.1 (Int.le_of_lt c1) m2.2.1) m2.2.2 c1 c2
theorem mid_left {A : Mem} (h2 : A 7 1 = 2) {lp lq p q rp rq lp2 lq2 p2 q2 rp2 rq2 : Int} (h : NB A lp lq p q rp rq) (k : NB A lp2 lq2 p2 q2 rp2 rq2) (e : p * q2 = p2 * q) (hl : lp * lq2 ≤ lp2 * lq) : fX A (lp * q + p * lq) (2 * lq * q) = fX A (lp2 * q2 + p2 * lq2) (2 * lq2 * q2) := by
  have hi := h.mids
  have ki := k.mids
  obtain ⟨⟨a1, a2, a3, a4⟩, ⟨b1, b2⟩, c1, c2, g1, g2⟩ := h
  obtain ⟨⟨d1, d2, d3, d4⟩, ⟨e1, e2⟩, f1, f2, k1, k2⟩ := k
  have hq : 0 < q := by omega
  have hq2 : 0 < q2 := by omega
  have m1 := mid_in a2 hq c1
  have m2 := mid_in d2 hq2 f1
  exact fX_gap h2 g1 a2 hq hi.1 ki.1 m1.2.1 m1.2.2 (fr_le_lt a2 d2 m2.1 hl m2.2.1) (fr_lt_le m2.1 hq2 hq m2.2.2 (Int.le_of_eq e.symm))
theorem mid_right {A : Mem} (h2 : A 7 1 = 2) {lp lq p q rp rq lp2 lq2 p2 q2 rp2 rq2 : Int} (h : NB A lp lq p q rp rq) (k : NB A lp2 lq2 p2 q2 rp2 rq2) (e : p * q2 = p2 * q) (hr : rp2 * rq ≤ rp * rq2) : fX A (p * rq + rp * q) (2 * q * rq) = fX A (p2 * rq2 + rp2 * q2) (2 * q2 * rq2) := by
  have hi := h.mids
  have ki := k.mids
  obtain ⟨⟨a1, a2, a3, a4⟩, ⟨b1, b2⟩, c1, c2, g1, g2⟩ := h
  obtain ⟨⟨d1, d2, d3, d4⟩, ⟨e1, e2⟩, f1, f2, k1, k2⟩ := k
  have hq : 0 < q := by omega
  have hq2 : 0 < q2 := by omega
  have m1 := mid_in hq a4 c2
  have m2 := mid_in hq2 d4 f2
  exact fX_gap h2 g2 hq a4 hi.2 ki.2 m1.2.1 m1.2.2 (fr_le_lt hq hq2 m2.1 (Int.le_of_eq e) m2.2.1) (fr_lt_le m2.1 d4 a4 m2.2.2 hr)
theorem MK.tr {A : Mem} (h2 : A 7 1 = 2) {lp lq p q rp rq lp2 lq2 p2 q2 rp2 rq2 : Int} (h : NB A lp lq p q rp rq) (k : NB A lp2 lq2 p2 q2 rp2 rq2) (e : p * q2 = p2 * q) (hm : MK A lp lq p q rp rq) : MK A lp2 lq2 p2 q2 rp2 rq2 := fun z => hm (by
  have hq : 0 < q := by have := h.2.1; omega
  have hq2 : 0 < q2 := by have := k.2.1; omega
  have e0 : fX A p q = fX A p2 q2 := fX_eq h2 hq hq2 e
  have eL : fX A (lp * q + p * lq) (2 * lq * q) = fX A (lp2 * q2 + p2 * lq2) (2 * lq2 * q2) := by
    rcases Int.le_total (lp * lq2) (lp2 * lq) with hl | hl
    · exact mid_left h2 h k e hl
    · exact (mid_left h2 k h e.symm hl).symm
  have eR : fX A (p * rq + rp * q) (2 * q * rq) = fX A (p2 * rq2 + rp2 * q2) (2 * q2 * rq2) := by
    rcases Int.le_total (rp2 * rq) (rp * rq2) with hr | hr
    · exact mid_right h2 h k e hr
    · exact (mid_right h2 k h e.symm hr).symm
  rw [e0, eL, eR]
  exact z)
/-- x is an edge -/
def Ed (A : Mem) (p q : Int) : Prop := ∃ lp lq rp rq : Int, NB A lp lq p q rp rq ∧ MK A lp lq p q rp rq
def ES (A : Mem) (a b : Nat → Int) (E : Nat) : Prop :=
  2 ≤ E ∧ (a 0 = 0 ∧ b 0 = 1) ∧ (a (E - 1) = 1 ∧ b (E - 1) = 1) ∧ (∀ i, i < E → 0 ≤ a i ∧ a i ≤ b i ∧ 1 ≤ b i ∧ b i ≤ 396) ∧ (∀ i j, i < j → j < E → a i * b j < a j * b i) ∧ (∀ i, 0 < i → i + 1 < E → Ed A (a i) (b i)) ∧ (∀ p q, Ed A p q → ∃ i, 0 < i ∧ i + 1 < E ∧ a i * q = p * b i)
theorem seq_ge {a b a2 b2 : Nat → Int} {E F : Nat} (hb : ∀ i, i < E → 0 < b i) (hb2 : ∀ i, i < F → 0 < b2 i) (r1 : ∀ i j, i < j → j < E → a i * b j < a j * b i) (r2 : ∀ i j, i < j → j < F → a2 i * b2 j < a2 j * b2 i) (hm : ∀ i, i < E → ∃ j, j < F ∧ a i * b2 j = a2 j * b i) : ∀ i, i < E → ∃ j, i ≤ j ∧ j < F ∧ a i * b2 j = a2 j * b i
  | 0, h => by
    obtain ⟨j, h1, h2⟩ := hm 0 h
    exact ⟨j, Nat.zero_le j, h1, h2⟩
  | i + 1, h => by
    obtain ⟨j, h1, h2, h3⟩ := seq_ge hb hb2 r1 r2 hm i (by omega)
    obtain ⟨k, k2, k3⟩ := hm (i + 1) h
    refine ⟨k, ?_, k2, k3⟩
    have hlt : j < k := by
      refine Nat.lt_of_not_le (fun hk => ?_)
      have rr := r1 i (i + 1) (by omega) h
      have x1 : a2 j * b2 k < a2 k * b2 j := fr_lt_le (hb2 j h2) (hb (i + 1) h) (hb2 k k2) (fr_le_lt (hb2 j h2) (hb i (by omega)) (hb (i + 1) h) (Int.le_of_eq h3.symm) rr) (Int.le_of_eq k3)
      rcases Nat.lt_or_eq_of_le hk with hk | hk
      · have := r2 k j hk h2
        omega
      · subst hk
        omega
    omega
theorem ES.uniq {A : Mem} {a b a2 b2 : Nat → Int} {E F : Nat} (h : ES A a b E) (k : ES A a2 b2 F) : E = F ∧ ∀ i, i < E → a i * b2 i = a2 i * b i := by
  obtain ⟨h2, h0, hl, hbd, hr, hE, hC⟩ := h
  obtain ⟨k2, k0, kl, kbd, kr, kE, kC⟩ := k
  have hb : ∀ i, i < E → 0 < b i := fun i hi => by have := hbd i hi; omega
  have kb : ∀ i, i < F → 0 < b2 i := fun i hi => by have := kbd i hi; omega
  have m1 : ∀ i, i < E → ∃ j, j < F ∧ a i * b2 j = a2 j * b i := fun i hi => by
    by_cases e0 : i = 0
    · subst e0
      exact ⟨0, by omega, by rw [h0.1, h0.2, k0.1, k0.2]⟩
    · by_cases e1 : i = E - 1
      · subst e1
        exact ⟨F - 1, by omega, by rw [hl.1, hl.2, kl.1, kl.2]⟩
      · obtain ⟨j, j1, j2, j3⟩ := kC _ _ (hE i (by omega) (by omega))
        exact ⟨j, by omega, j3.symm⟩
  have m2 : ∀ i, i < F → ∃ j, j < E ∧ a2 i * b j = a j * b2 i := fun i hi => by
    by_cases e0 : i = 0
    · subst e0
      exact ⟨0, by omega, by rw [h0.1, h0.2, k0.1, k0.2]⟩
    · by_cases e1 : i = F - 1
      · subst e1
        exact ⟨E - 1, by omega, by rw [hl.1, hl.2, kl.1, kl.2]⟩
      · obtain ⟨j, j1, j2, j3⟩ := hC _ _ (kE i (by omega) (by omega))
        exact ⟨j, by omega, j3.symm⟩
  have g1 := seq_ge hb kb hr kr m1
  have g2 := seq_ge kb hb kr hr m2
  have eq1 : E ≤ F := by
    obtain ⟨j, j1, j2, _⟩ := g1 (E - 1) (by omega)
    omega
  have eq2 : F ≤ E := by
    obtain ⟨j, j1, j2, _⟩ := g2 (F - 1) (by omega)
    omega
  refine ⟨by omega, fun i hi => ?_⟩
  obtain ⟨j, j1, j2, j3⟩ := g1 i hi
  obtain ⟨l, l1, l2, l3⟩ := g2 j j2
  have e : a i * b l = a l * b i := fr_eq_eq (hb i hi) (kb j j2) (hb l l2) j3 l3
  have hil : i = l := by
    rcases Nat.lt_trichotomy i l with z | z | z
    · have := hr i l z l2
      omega
    · exact z
    · have := hr l i z hi
      omega
  have : i = j := by omega
  rw [← this] at j3
  exact j3
