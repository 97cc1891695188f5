-- two truths: the class's survey
theorem CF.trans {σ τ υ : Mem} (h1 : CF σ τ) (h2 : CF τ υ) : CF σ υ := fun k i a b c => (h2 k i a b c).trans (h1 k i a b c)
theorem CF.eqv {A σ τ : Mem} (hE : Eqv A σ) (h : CF σ τ) : Eqv A τ := fun k i hl => by
  have l := live_ok (l := [(39, 4)]) hl (by decide)
  simp only [List.mem_cons, List.not_mem_nil, or_false, forall_eq_or_imp, forall_eq] at l
  rw [h k i (live_x (o := 40) hl rfl) (live_x (o := 41) hl rfl) l]
  exact hE k i hl
def sN (m : Nat) : Nat → Nat
  | 0 => 0
  | x + 1 => sN m x + (m - 1 - x)
set_option maxRecDepth 10000 in
theorem sN_fin : ∀ m : Fin 7, ∀ a : Fin 7, ∀ b : Fin 7, a.val < b.val → b.val < m.val → sN m.val a.val + (b.val - a.val - 1) ≤ 14 := by decide +kernel
theorem sN_fin2 : ∀ m : Fin 7, sN m.val m.val ≤ 15 := by decide +kernel
theorem sN_le {m a b : Nat} (hm : m ≤ 6) (h1 : a < b) (h2 : b < m) : sN m a + (b - a - 1) ≤ 14 := sN_fin ⟨m, by omega⟩ ⟨a, by omega⟩ ⟨b, by omega⟩ h1 h2
theorem sN_top {m : Nat} (hm : m ≤ 6) : sN m m ≤ 15 := sN_fin2 ⟨m, by omega⟩
def hasQ (A τ : Mem) (n x y : Nat) : Prop := hasP A (τ 40) (τ 41) n x y 10 ∧ hasP A (τ 40) (τ 41) n x y 11
def cI (A σ τ : Mem) (n a b : Nat) : Prop := CF σ τ ∧ τ 39 4 = (n : Int) ∧ SL (τ 40) (τ 41) n ∧ has (τ 40) (τ 41) n 0 1 ∧ has (τ 40) (τ 41) n 1 1 ∧ (∀ x y : Nat, y < x → (x : Int) < A 7 2 → (y < a ∨ (y = a ∧ x < b)) → hasQ A τ n x y) ∧ n ≤ 2 + 2 * (sN (aN A) a + (b - a - 1))
theorem hasP.up {A : Mem} {u v u2 v2 : Nat → Int} {n m x y pay : Nat} (h : hasP A u v n x y pay) (g : ∀ p2 q2, has u v n p2 q2 → has u2 v2 m p2 q2) : hasP A u2 v2 m x y pay := fun ho => g _ _ (h ho)
theorem sp_L_findCrossings {d : Nat} {A σ : Mem} {Q : Int → Mem → Prop} (hR : SR 7 (mLive A) A) (h2 : A 7 1 = 2) (hE : Eqv A σ) (hQ : ∀ σ1 n, CF σ σ1 → σ1 39 4 = ((n : Nat) : Int) → n ≤ 32 → CSx A (σ1 40) (σ1 41) n → Q 0 σ1) : wp (d + 3) m_L_findCrossings [.inr (.inr 39)] σ Q := by
  have hA := hR.ac
  have hm6 : aN A ≤ 6 := by show (A 7 2).toNat ≤ 6; omega
  have haN : A 7 2 = ((aN A : Nat) : Int) := by show A 7 2 = (((A 7 2).toNat : Nat) : Int); omega
  refine e_L_findCrossings ?_
  refine sp_L_cross (n := 0) (p := 0) (q := 1) ⟨fun i hi => absurd hi (by omega), fun i j _ hj => absurd hj (by omega)⟩ (by rw [ms_eq]; rfl) (by omega) ⟨by omega, by omega, by omega, by omega⟩ (fun σ1 m1 f1 c1 _ l1 s1 _ k1 => ?_)
  refine sp_L_cross (p := 1) (q := 1) s1 c1 (by omega) ⟨by omega, by omega, by omega, by omega⟩ (fun σ2 m2 f2 c2 _ l2 s2 u2 k2 => ?_)
  have f0 : CF σ σ2 := fun k i a b c => by rw [f2 k i a b c, f1 k i a b c, ms_ne (by omega)]
  have start : cI A σ σ2 m2 0 1 := ⟨f0, c2, s2, u2 _ _ k1, k2, fun x y hxy hx hz => by omega, by omega⟩
  refine upto (n := aN A) (P := fun a => ∀ τ n, cI A σ τ n a (a + 1) → K_L_findCrossings_19 (d + 2) Q ((a : Nat) : Int) τ) (fun τ n hI => ?_) (fun a ha ih τ n hI => ?_) σ2 m2 start
  · obtain ⟨i1, i2, i3, i4, i5, i6, i7⟩ := hI
    have e72 : τ 7 2 = A 7 2 := CF.eqv hE i1 7 2 rfl
    have ht := sN_top hm6
    refine e_L_findCrossings_19 ⟨fun h => by omega, fun _ => hQ τ n i1 i2 (by omega) ⟨i3, ?_, ?_, ?_, fun x y hxy hx => ?_⟩⟩
    · obtain ⟨x, x1, x2⟩ := i4
      obtain ⟨y, y1, y2⟩ := i5
      have b := i3.1 x x1
      refine Nat.lt_of_not_le (fun z => ?_)
      have : x = y := by omega
      subst this
      omega
    · obtain ⟨x, x1, x2⟩ := i4
      have bx := i3.1 x x1
      have b0 := i3.1 0 (by omega)
      rw [Int.zero_mul, Int.mul_one] at x2
      by_cases z : x = 0
      · subst z; exact x2
      · have r := i3.2 0 x (by omega) x1
        rw [x2, Int.zero_mul] at r
        have := Int.mul_nonneg b0.1 (show 0 ≤ τ 41 x by omega)
        omega
    · obtain ⟨x, x1, x2⟩ := i5
      have bx := i3.1 x x1
      have bl := i3.1 (n - 1) (by omega)
      rw [Int.one_mul, Int.mul_one] at x2
      by_cases z : x = n - 1
      · subst z; exact x2
      · have r := i3.2 x (n - 1) (by omega) (by omega)
        rw [x2, Int.mul_comm (τ 41 x)] at r
        have := Int.lt_of_mul_lt_mul_right r (by omega)
        omega
    · have g := i6 x y hxy hx (Or.inl (by omega))
      exact ⟨g.1, fun _ _ => g.2⟩
  · have e72 : τ 7 2 = A 7 2 := CF.eqv hE hI.1 7 2 rfl
    have e1 : w32 ((a : Int) + 1) = ((a + 1 : Nat) : Int) := w32_eq (by omega) (by omega)
    refine e_L_findCrossings_19 ⟨fun _ => ?_, fun h => by omega⟩
    rw [e1]
    clear e72
    have inner : ∀ k b : Nat, b + k = aN A → a < b → ∀ τ n, cI A σ τ n a b → K_L_findCrossings_34 (d + 2) Q ((a : Nat) : Int) ((b : Nat) : Int) τ := by
      intro k
      induction k with
      | zero =>
        intro b hb hab τ n hI
        have e72 : τ 7 2 = A 7 2 := CF.eqv hE hI.1 7 2 rfl
        refine e_L_findCrossings_34 ⟨fun h => by omega, fun _ => ?_⟩
        rw [e1]
        obtain ⟨i1, i2, i3, i4, i5, i6, i7⟩ := hI
        refine ih τ n ⟨i1, i2, i3, i4, i5, fun x y hxy hx hz => i6 x y hxy hx (by omega), ?_⟩
        have es : sN (aN A) (a + 1) = sN (aN A) a + (aN A - 1 - a) := rfl
        rw [es]
        omega
      | succ k ih2 =>
        intro b hb hab τ n hI
        have hE2 : Eqv A τ := CF.eqv hE hI.1
        have e72 : τ 7 2 = A 7 2 := hE2 7 2 rfl
        have eb : w32 ((b : Int) + 1) = ((b + 1 : Nat) : Int) := w32_eq (by omega) (by omega)
        obtain ⟨i1, i2, i3, i4, i5, i6, i7⟩ := hI
        have hs := sN_le hm6 hab (show b < aN A by omega)
        refine e_L_findCrossings_34 ⟨fun _ => ?_, fun h => by omega⟩
        refine sp_L_crossActs hR h2 hE2 i3 i2 (by omega) (Or.inl rfl) (by omega) (by omega) (fun τ1 n1 g1 g2 g3 g4 g5 g6 g7 => ?_)
        refine sp_L_crossActs hR h2 (CF.eqv hE2 g1) g5 g2 (by omega) (Or.inr rfl) (by omega) (by omega) (fun τ2 n2 k1 k2 k3 k4 k5 k6 k7 => ?_)
        rw [eb]
        refine ih2 (b + 1) (by omega) (by omega) τ2 n2 ⟨(i1.trans g1).trans k1, k2, k5, k6 _ _ (g6 _ _ i4), k6 _ _ (g6 _ _ i5), fun x y hxy hx hz => ?_, by omega⟩
        by_cases z : y = a ∧ x = b
        · obtain ⟨rfl, rfl⟩ := z
          exact ⟨g7.up k6, k7⟩
        · have h := i6 x y hxy hx (by omega)
          exact ⟨(h.1.up g6).up k6, (h.2.up g6).up k6⟩
    exact inner (aN A - (a + 1)) (a + 1) (by omega) (by omega) τ n hI
theorem wX_bd {A : Mem} (h2 : A 7 1 = 2) {p q : Int} (hp : 0 ≤ p ∧ p ≤ q ∧ q ≤ 1000000000) : bdW A (wX p q) := fun t ht => by
  have e : tN A = 2 := by show (A 7 1).toNat = 2; rw [h2]; rfl
  match t, (show t < 2 by omega) with
  | 0, _ => show -1000000000 ≤ q - p ∧ q - p ≤ 1000000000; omega
  | 1, _ => show -1000000000 ≤ p ∧ p ≤ 1000000000; omega
def AF (σ σ1 : Mem) : Prop := ∀ k i, k ≠ 36 → σ1 k i = σ k i
theorem AF.eqv {A σ τ : Mem} (hE : Eqv A σ) (h : AF σ τ) : Eqv A τ := fun k i hl => by
  rw [h k i (live_x (o := 36) hl rfl)]
  exact hE k i hl
theorem sp_L_actAt {d : Nat} {A σ : Mem} {Q : Int → Mem → Prop} (hR : SR 7 (mLive A) A) (h2 : A 7 1 = 2) (ho : 1 ≤ A 7 2) (hE : Eqv A σ) {p q : Int} (hp : 0 ≤ p ∧ p ≤ q ∧ q ≤ 1000000000) (hQ : ∀ σ1, AF σ σ1 → (∀ t, t < tN A → σ1 36 (4 * 0 + t) = wX p q t) → Q ((fX A p q : Nat) : Int) σ1) : wp (d + 3) m_L_actAt [.inr (.inr 39), .inr (.inl p), .inr (.inl q)] σ Q := by
  have e : tN A = 2 := by show (A 7 1).toNat = 2; rw [h2]; rfl
  refine e_L_actAt (e_B_lay ?_)
  rw [w64_id (x := q - p) (by omega) (by omega)]
  have fr : AF σ (mset (mset (mset (mset σ 36 0 (q - p)) 36 1 p) 36 2 0) 36 3 0) := fun k i hk => by rw [ms_nk hk, ms_nk hk, ms_nk hk, ms_nk hk]
  have hw : ∀ t, t < tN A → (mset (mset (mset (mset σ 36 0 (q - p)) 36 1 p) 36 2 0) 36 3 0) 36 (4 * 0 + t) = wX p q t := fun t ht => by
    match t, (show t < 2 by omega) with
    | 0, _ => simp (discharger := decide) only [ms_ni, ms_eq]; rfl
    | 1, _ => simp (discharger := decide) only [ms_ni, ms_eq]; rfl
  exact sp_B_choose (lv := 0) hR (AF.eqv hE fr) ho (by decide) (Or.inl rfl) (wX_bd h2 hp) hw (hQ _ fr hw)
/-- a mark is put at place e -/
def MRk (σ σ1 : Mem) (e : Nat) (p q h : Int) : Prop := (∀ k i, k ≠ 36 → ¬ (42 ≤ k ∧ k ≤ 44 ∧ i = e) → ¬ (k = 39 ∧ i = 8) → σ1 k i = σ k i) ∧ σ1 42 e = p ∧ σ1 43 e = q ∧ σ1 44 e = h ∧ σ1 39 8 = ((e + 1 : Nat) : Int)
theorem hX_bd {A : Mem} (hR : SR 7 (mLive A) A) (h2 : A 7 1 = 2) (ho : 1 ≤ A 7 2) {p q : Int} (hp : 0 ≤ p ∧ p ≤ q) : -(99 * q) ≤ hX A p q ∧ hX A p q ≤ 99 * q := by
  have e : tN A = 2 := by show (A 7 1).toNat = 2; rw [h2]; rfl
  have ha := act_lt hR ho (w := wX p q) (j := 10)
  have b0 := pay_bd hR (pay := 11) (a := fX A p q) (t := 0) (Or.inr (Or.inl rfl)) ha (by omega)
  have b1 := pay_bd hR (pay := 11) (a := fX A p q) (t := 1) (Or.inr (Or.inl rfl)) ha (by omega)
  unfold hX
  rw [dotX h2]
  have m0 := mul_bd (x := q - p) (X := q - p) (y := A 11 (4 * fX A p q)) (Y := 99) ⟨by omega, by omega⟩ b0
  have m1 := mul_bd (x := p) (X := p) (y := A 11 (4 * fX A p q + 1)) (Y := 99) ⟨by omega, by omega⟩ b1
  omega
theorem sp_L_mark {d : Nat} {A σ : Mem} {Q : Int → Mem → Prop} (hR : SR 7 (mLive A) A) (h2 : A 7 1 = 2) (ho : 1 ≤ A 7 2) (hE : Eqv A σ) {p q : Int} (hp : 0 ≤ p ∧ p ≤ q ∧ q ≤ 1000000000) {e : Nat} (he : σ 39 8 = (e : Int)) (he3 : e < 34) (hQ : ∀ σ1, MRk σ σ1 e p q (hX A p q) → Q 0 σ1) : wp (d + 4) m_L_mark [.inr (.inr 39), .inr (.inl p), .inr (.inl q)] σ Q := by
  refine e_L_mark ⟨fun _ => ?_, fun h => by omega⟩
  rw [ms_nk (by decide), ms_nk (by decide), ms_nk (by decide), he, Int.toNat_natCast]
  refine ⟨⟨by omega, by omega⟩, ⟨by omega, by omega⟩, ?_⟩
  have fE : Eqv A (mset (mset σ 42 e p) 43 e q) := (hE.set rfl).set rfl
  refine sp_L_actAt hR h2 ho fE hp (fun σ1 f1 w1 => ?_)
  refine sp_B_sumOf hR (AF.eqv fE f1) (lv := 0) (by omega) (Or.inr (Or.inl rfl)) (act_lt hR ho) (wX_bd h2 hp) w1 ⟨⟨by omega, by omega⟩, ?_⟩
  have e8 : σ1 39 8 = (e : Int) := by rw [f1 39 8 (by decide), ms_nk (by decide), ms_nk (by decide)]; exact he
  rw [ms_nk (by decide), e8, w32_eq (n := e + 1) (by omega) (by omega)]
  refine hQ _ ⟨fun k i h1 h3 h4 => ?_, ?_, ?_, ?_, ms_eq⟩
  · rw [ms_ne (by omega), ms_ne (by omega), f1 k i h1, ms_ne (by omega), ms_ne (by omega)]
  · rw [ms_nk (by decide), ms_nk (by decide), f1 42 e (by decide), ms_nk (by decide), ms_eq]
  · rw [ms_nk (by decide), ms_nk (by decide), f1 43 e (by decide), ms_eq]
  · rw [ms_nk (by decide), ms_eq]; rfl
theorem sp_L_actBetween {d : Nat} {A σ : Mem} {Q : Int → Mem → Prop} (hR : SR 7 (mLive A) A) (h2 : A 7 1 = 2) (ho : 1 ≤ A 7 2) (hE : Eqv A σ) {n i : Nat} (hS : SL (σ 40) (σ 41) n) (hn : σ 39 4 = (n : Int)) (hn3 : n ≤ 32) (hi : i + 1 < n) (hQ : ∀ σ1, AF σ σ1 → Q ((mX A (σ 40) (σ 41) i : Nat) : Int) σ1) : wp (d + 4) m_L_actBetween [.inr (.inr 39), .inl (i : Int)] σ Q := by
  have e1 : w32 ((i : Int) + 1) = ((i + 1 : Nat) : Int) := w32_eq (by omega) (by omega)
  have b0 := hS.1 i (by omega)
  have b1 := hS.1 (i + 1) hi
  refine e_L_actBetween ⟨fun h => by omega, fun _ => ⟨fun _ => ?_, fun h => by omega⟩⟩
  rw [e1, Int.toNat_natCast, Int.toNat_natCast]
  have m1 := mul_bd (x := σ 40 i) (y := σ 41 (i + 1)) (X := 396) (Y := 396) ⟨by omega, by omega⟩ ⟨by omega, by omega⟩
  have m2 := mul_bd (x := σ 40 (i + 1)) (y := σ 41 i) (X := 396) (Y := 396) ⟨by omega, by omega⟩ ⟨by omega, by omega⟩
  have m3 := mul_bd (x := 2 * σ 41 i) (y := σ 41 (i + 1)) (X := 792) (Y := 396) ⟨by omega, by omega⟩ ⟨by omega, by omega⟩
  have p1 := Int.mul_nonneg b0.1 (show 0 ≤ σ 41 (i + 1) by omega)
  have p2 := Int.mul_nonneg b1.1 (show 0 ≤ σ 41 i by omega)
  have q1 := Int.mul_le_mul_of_nonneg_right b0.2.1 (show 0 ≤ σ 41 (i + 1) by omega)
  have q2 := Int.mul_le_mul_of_nonneg_right b1.2.1 (show 0 ≤ σ 41 i by omega)
  have e3 : 2 * σ 41 i * σ 41 (i + 1) = σ 41 i * σ 41 (i + 1) + σ 41 (i + 1) * σ 41 i := by grind
  rw [w64_id (x := σ 40 i * σ 41 (i + 1)) (by omega) (by omega), w64_id (x := σ 40 (i + 1) * σ 41 i) (by omega) (by omega), w64_id (x := σ 40 i * σ 41 (i + 1) + σ 40 (i + 1) * σ 41 i) (by omega) (by omega), w64_id (x := 2 * σ 41 i) (by omega) (by omega), w64_id (x := 2 * σ 41 i * σ 41 (i + 1)) (by omega) (by omega)]
  refine ⟨⟨by omega, by omega⟩, ⟨by omega, by omega⟩, ⟨by omega, by omega⟩, ⟨by omega, by omega⟩, ⟨by omega, by omega⟩, ⟨by omega, by omega⟩, ?_⟩
  exact sp_L_actAt hR h2 ho hE ⟨by omega, by omega, by omega⟩ (fun σ1 f1 _ => hQ σ1 f1)
def SF (σ σ1 : Mem) : Prop := ∀ k i, k ≠ 36 → ¬ (39 ≤ k ∧ k ≤ 44) → σ1 k i = σ k i
theorem SF.eqv {A σ τ : Mem} (hE : Eqv A σ) (h : SF σ τ) : Eqv A τ := fun k i hl => by
  have n39 := live_x (o := 39) hl rfl
  have n40 := live_x (o := 40) hl rfl
  have n41 := live_x (o := 41) hl rfl
  have n42 := live_x (o := 42) hl rfl
  have n43 := live_x (o := 43) hl rfl
  have n44 := live_x (o := 44) hl rfl
  rw [h k i (live_x (o := 36) hl rfl) (by omega)]
  exact hE k i hl
/-- what a survey leaves: the edges, behind them before, and the heights -/
def SV (A : Mem) (a b h : Nat → Int) (E : Nat) : Prop := ES A a b E ∧ (a E = A 9 1 ∧ b E = A 7 6) ∧ ∀ i, i ≤ E → h i = hX A (a i) (b i)
theorem SR.bef {A : Mem} (hR : SR 7 (mLive A) A) (h2 : A 7 1 = 2) : 1 ≤ A 9 1 ∧ A 9 1 < A 7 6 ∧ A 7 6 ≤ 198 := by
  have s := hR.2.2.2.2.1
  have p0 := hR.2.2.2.1 0 (by omega)
  have p1 := hR.2.2.2.1 1 (by omega)
  have e : (A 7 1).toNat = 2 := by rw [h2]; rfl
  rw [e] at s
  have s2 : A 7 6 = 0 + A 9 0 + A 9 1 := s
  have p02 : 1 ≤ A 9 0 ∧ A 9 0 ≤ 99 := ⟨p0.2.2.2.2.1, p0.2.2.2.2.2⟩
  have p12 : 1 ≤ A 9 1 ∧ A 9 1 ≤ 99 := ⟨p1.2.2.2.2.1, p1.2.2.2.2.2⟩
  omega
theorem sp_L_survey {d : Nat} {A σ : Mem} {Q : Int → Mem → Prop} (hR : SR 7 (mLive A) A) (h2 : A 7 1 = 2) (ho : 1 ≤ A 7 2) (hE : Eqv A σ) (hQ : ∀ σ1 E, SF σ σ1 → σ1 39 8 = ((E : Nat) : Int) → E ≤ 32 → SV A (σ1 42) (σ1 43) (σ1 44) E → Q 0 σ1) : wp (d + 5) m_L_survey [.inr (.inr 39)] σ Q := by
  have hbf := hR.bef h2
  refine e_L_survey (sp_L_findCrossings (d := d + 1) hR h2 hE (fun σ0 n f0 c0 hn hC => ?_))
  have hn2 := hC.2.1
  have F0 : SF σ (mset σ0 39 8 0) := fun k i h1 h3 => by rw [ms_nk (by omega)]; exact f0 k i (by omega) (by omega) (by omega)
  refine sp_L_mark hR h2 ho (SF.eqv hE F0) (e := 0) ⟨by omega, by omega, by omega⟩ (by rw [ms_eq]; rfl) (by omega) (fun σ1 m1 => ?_)
  have k1 : ∀ i, σ1 40 i = σ0 40 i ∧ σ1 41 i = σ0 41 i := fun i => ⟨by rw [m1.1 40 i (by omega) (by omega) (by omega), ms_nk (by decide)], by rw [m1.1 41 i (by omega) (by omega) (by omega), ms_nk (by decide)]⟩
  have e40 : σ1 40 = σ0 40 := funext (fun i => (k1 i).1)
  have e41 : σ1 41 = σ0 41 := funext (fun i => (k1 i).2)
  have c1 : σ1 39 4 = (n : Int) := by rw [m1.1 39 4 (by omega) (by omega) (by omega), ms_ni (by decide)]; exact c0
  have F1 : SF σ σ1 := fun k i h1 h3 => by rw [m1.1 k i h1 (by omega) (by omega)]; exact F0 k i h1 h3
  refine sp_L_actBetween hR h2 ho (SF.eqv hE F1) (n := n) (i := 0) (by rw [e40, e41]; exact hC.1) c1 hn (by omega) (fun σ2 f2 => ?_)
  rw [e40, e41]
  have main : ∀ m i : Nat, i + m = n - 1 → 1 ≤ i → ∀ (τ : Mem) (e : Nat), SF σ τ → τ 40 = σ0 40 → τ 41 = σ0 41 → τ 39 4 = (n : Int) → τ 39 8 = (e : Int) → MS A (σ0 40) (σ0 41) i (τ 42) (τ 43) e → (∀ j, j < e → τ 44 j = hX A (τ 42 j) (τ 43 j)) → K_L_survey_23 (d + 4) Q ((mX A (σ0 40) (σ0 41) (i - 1) : Nat) : Int) ((i : Nat) : Int) τ := by
    intro m
    induction m with
    | zero =>
      intro i hi hi1 τ e F t40 t41 t4 t8 hM hh
      have e1 : w32 ((τ 39 4) - 1) = ((n - 1 : Nat) : Int) := by rw [t4]; exact w32_eq (by omega) (by omega)
      have he := hM.2.1
      refine e_L_survey_23 ⟨fun h => by rw [e1] at h; omega, fun _ => ?_⟩
      refine sp_L_mark hR h2 ho (SF.eqv hE F) (e := e) ⟨by omega, by omega, by omega⟩ t8 (by omega) (fun τ1 g1 => ?_)
      have G1 : SF σ τ1 := fun k i h1 h3 => by rw [g1.1 k i h1 (by omega) (by omega)]; exact F k i h1 h3
      have E1 := SF.eqv hE G1
      have q1 : τ1 9 1 = A 9 1 := E1 9 1 rfl
      have q2 : τ1 7 6 = A 7 6 := E1 7 6 rfl
      rw [q1, q2]
      refine sp_L_mark hR h2 ho E1 (e := e + 1) ⟨by omega, by omega, by omega⟩ g1.2.2.2.2 (by omega) (fun τ2 g2 => ?_)
      have G2 : SF σ τ2 := fun k i h1 h3 => by rw [g2.1 k i h1 (by omega) (by omega)]; exact G1 k i h1 h3
      rw [g2.2.2.2.2, show w32 (((e + 1 + 1 : Nat) : Int) - 1) = ((e + 1 : Nat) : Int) from w32_eq (by omega) (by omega)]
      have hin : i = n - 1 := by omega
      rw [hin] at hM
      have low : ∀ j, j < e → τ2 42 j = τ 42 j ∧ τ2 43 j = τ 43 j ∧ τ2 44 j = τ 44 j := fun j hj => ⟨by rw [g2.1 42 j (by omega) (by omega) (by omega), g1.1 42 j (by omega) (by omega) (by omega)], by rw [g2.1 43 j (by omega) (by omega) (by omega), g1.1 43 j (by omega) (by omega) (by omega)], by rw [g2.1 44 j (by omega) (by omega) (by omega), g1.1 44 j (by omega) (by omega) (by omega)]⟩
      have p42 : τ2 42 e = 1 := by rw [g2.1 42 e (by omega) (by omega) (by omega)]; exact g1.2.1
      have p43 : τ2 43 e = 1 := by rw [g2.1 43 e (by omega) (by omega) (by omega)]; exact g1.2.2.1
      have p44 : τ2 44 e = hX A 1 1 := by rw [g2.1 44 e (by omega) (by omega) (by omega)]; exact g1.2.2.2.1
      have hes : ES A (τ2 42) (τ2 43) (e + 1) := MS.fin h2 hC hM (fun j hj => ⟨(low j hj).1, (low j hj).2.1⟩) ⟨p42, p43⟩
      refine hQ _ (e + 1) (fun k i h1 h3 => by rw [ms_nk (by omega)]; exact G2 k i h1 h3) ms_eq (by omega) ⟨hes, ⟨?_, ?_⟩, fun j hj => ?_⟩
      · rw [ms_nk (by decide)]; exact g2.2.1
      · rw [ms_nk (by decide)]; exact g2.2.2.1
      · rw [ms_nk (by decide), ms_nk (by decide), ms_nk (by decide)]
        by_cases z : j < e
        · rw [(low j z).1, (low j z).2.1, (low j z).2.2]; exact hh j z
        · by_cases z2 : j = e
          · subst z2; rw [p42, p43, p44]
          · have z3 : j = e + 1 := by omega
            subst z3; rw [g2.2.1, g2.2.2.1, g2.2.2.2.1]
    | succ m ih =>
      intro i hi hi1 τ e F t40 t41 t4 t8 hM hh
      have e1 : w32 ((τ 39 4) - 1) = ((n - 1 : Nat) : Int) := by rw [t4]; exact w32_eq (by omega) (by omega)
      have ei : w32 ((i : Int) + 1) = ((i + 1 : Nat) : Int) := w32_eq (by omega) (by omega)
      have he := hM.2.1
      have bi := hC.1.1 i (by omega)
      have EE := SF.eqv hE F
      refine e_L_survey_23 ⟨fun _ => ?_, fun h => by rw [e1] at h; omega⟩
      refine sp_L_actBetween hR h2 ho EE (n := n) (i := i) (by rw [t40, t41]; exact hC.1) t4 hn (by omega) (fun τ1 g1 => ?_)
      rw [t40, t41, ei, Int.toNat_natCast]
      have u40 : τ1 40 = σ0 40 := by rw [← t40]; exact funext (fun i => g1 40 i (by decide))
      have u41 : τ1 41 = σ0 41 := by rw [← t41]; exact funext (fun i => g1 41 i (by decide))
      have sub : i + 1 - 1 = i := by omega
      have stay : ∀ τ3, AF τ τ3 → ¬ mkd A (σ0 40) (σ0 41) i → K_L_survey_23 (d + 4) Q ((mX A (σ0 40) (σ0 41) i : Nat) : Int) ((i + 1 : Nat) : Int) τ3 := fun τ3 g hm => by
        have z := ih (i + 1) (by omega) (by omega) τ3 e (fun k i h1 h3 => by rw [g k i h1]; exact F k i h1 h3) (by rw [← t40]; exact funext (fun i => g 40 i (by decide))) (by rw [← t41]; exact funext (fun i => g 41 i (by decide))) (by rw [g 39 4 (by decide)]; exact t4) (by rw [g 39 8 (by decide)]; exact t8) (by
          rw [show τ3 42 = τ 42 from funext (fun i => g 42 i (by decide)), show τ3 43 = τ 43 from funext (fun i => g 43 i (by decide))]; exact hM.no hm) (fun j hj => by rw [g 44 j (by decide), g 42 j (by decide), g 43 j (by decide)]; exact hh j hj)
        rw [sub] at z
        exact z
      have mark : ∀ τ3, AF τ τ3 → mkd A (σ0 40) (σ0 41) i → wp (d + 4) m_L_mark [.inr (.inr 39), .inr (.inl (σ0 40 i)), .inr (.inl (σ0 41 i))] τ3 (fun _ s => K_L_survey_23 (d + 4) Q ((mX A (σ0 40) (σ0 41) i : Nat) : Int) ((i + 1 : Nat) : Int) s) := fun τ3 g hm => by
        refine sp_L_mark hR h2 ho (AF.eqv EE g) (e := e) ⟨bi.1, bi.2.1, by omega⟩ (by rw [g 39 8 (by decide)]; exact t8) (by omega) (fun τ4 g4 => ?_)
        have k4 : ∀ k j, k ≠ 36 → ¬ (42 ≤ k ∧ k ≤ 44 ∧ j = e) → ¬ (k = 39 ∧ j = 8) → τ4 k j = τ k j := fun k j h1 h3 h4 => by rw [g4.1 k j h1 h3 h4, g k j h1]
        have z := ih (i + 1) (by omega) (by omega) τ4 (e + 1) (fun k j h1 h3 => by rw [k4 k j h1 (by omega) (by omega)]; exact F k j h1 h3) (by rw [← t40]; exact funext (fun j => k4 40 j (by omega) (by omega) (by omega))) (by rw [← t41]; exact funext (fun j => k4 41 j (by omega) (by omega) (by omega))) (by rw [k4 39 4 (by omega) (by omega) (by omega)]; exact t4) g4.2.2.2.2 (hM.add hC (by omega) (by omega) hm (fun j hj => ⟨k4 42 j (by omega) (by omega) (by omega), k4 43 j (by omega) (by omega) (by omega)⟩) ⟨g4.2.1, g4.2.2.1⟩) (fun j hj => by
          by_cases z : j = e
          · subst z; rw [g4.2.1, g4.2.2.1, g4.2.2.2.1]
          · rw [k4 42 j (by omega) (by omega) (by omega), k4 43 j (by omega) (by omega) (by omega), k4 44 j (by omega) (by omega) (by omega)]; exact hh j (by omega))
        rw [sub] at z
        exact z
      refine ⟨fun h => ⟨⟨by omega, by omega⟩, ⟨by omega, by omega⟩, ?_⟩, fun h => ⟨⟨by omega, by omega⟩, ⟨by omega, by omega⟩, ?_⟩⟩
      · rw [u40, u41]
        refine sp_L_actAt hR h2 ho (AF.eqv EE g1) ⟨bi.1, bi.2.1, by omega⟩ (fun τ3 g3 _ => ?_)
        have g : AF τ τ3 := fun k j hk => by rw [g3 k j hk, g1 k j hk]
        rw [show τ3 40 = σ0 40 by rw [← t40]; exact funext (fun i => g 40 i (by decide)), show τ3 41 = σ0 41 by rw [← t41]; exact funext (fun i => g 41 i (by decide))]
        refine ⟨fun h3 => stay τ3 g (fun hm => hm ⟨by omega, by omega⟩), fun h3 => ⟨⟨by omega, by omega⟩, ⟨by omega, by omega⟩, mark τ3 g (fun hm => h3 ?_)⟩⟩
        rw [hm.1]
      · rw [u40, u41]
        exact mark τ1 g1 (fun hm => h (by rw [hm.1, hm.2]))
  exact main (n - 1 - 1) 1 (by omega) (Nat.le_refl 1) σ2 1 (fun k i h1 h3 => by rw [f2 k i h1]; exact F1 k i h1 h3) (by rw [← e40]; exact funext (fun i => f2 40 i (by decide))) (by rw [← e41]; exact funext (fun i => f2 41 i (by decide))) (by rw [f2 39 4 (by decide)]; exact c1) (by rw [f2 39 8 (by decide)]; exact m1.2.2.2.2) (MS.start ⟨by rw [f2 42 0 (by decide)]; exact m1.2.1, by rw [f2 43 0 (by decide)]; exact m1.2.2.1⟩) (fun j hj => by
    have z : j = 0 := by omega
    subst z
    rw [f2 42 0 (by decide), f2 43 0 (by decide), f2 44 0 (by decide), m1.2.1, m1.2.2.1, m1.2.2.2.1])
