-- two truths: the reference's edges
def tri : Nat → Nat
  | 0 => 0
  | x + 1 => tri x + x
theorem tri_fin : ∀ i : Fin 7, ∀ j : Fin 7, i.val ≤ 5 → j.val < i.val → tri i.val + j.val ≤ 14 := by decide +kernel
theorem tri_fin2 : ∀ i : Fin 7, tri i.val ≤ 15 := by decide +kernel
theorem tri_le {i j : Nat} (hi : i ≤ 5) (hj : j < i) : tri i + j ≤ 14 := tri_fin ⟨i, by omega⟩ ⟨j, by omega⟩ hi hj
theorem tri_top {i : Nat} (hi : i ≤ 6) : tri i ≤ 15 := tri_fin2 ⟨i, by omega⟩
def hasR (A : Mem) (u v : Nat → Int) (n x y : Nat) : Prop := hasP A u v n x y 10 ∧ (dd A 10 x y 0 = 0 → dd A 10 x y 1 = 0 → hasP A u v n x y 11)
theorem hasR.up {A : Mem} {u v u2 v2 : Nat → Int} {n m x y : Nat} (h : hasR A u v n x y) (g : ∀ p2 q2, has u v n p2 q2 → has u2 v2 m p2 q2) : hasR A u2 v2 m x y := ⟨h.1.up g, fun z1 z2 => (h.2 z1 z2).up g⟩
def dI (A σ τ : Mem) (n i j : Nat) : Prop := DF σ τ ∧ τ 49 38 = (n : Int) ∧ SL (τ 73) (τ 74) n ∧ LT1 (τ 73) (τ 74) n ∧ (∀ x y : Nat, y < x → (x : Int) < A 7 2 → (x < i ∨ (x = i ∧ y < j)) → hasR A (τ 73) (τ 74) n x y) ∧ n ≤ tri i + j
theorem sp_M_cands {d : Nat} {A σ : Mem} {Q : Int → Mem → Prop} (hR : SR 7 (mLive A) A) (h2 : A 7 1 = 2) (hE : Eqv A σ) (hQ : ∀ σ1 n, DF σ σ1 → σ1 49 38 = ((n : Nat) : Int) → n ≤ 15 → SL (σ1 73) (σ1 74) n → LT1 (σ1 73) (σ1 74) n → (∀ x y : Nat, y < x → (x : Int) < A 7 2 → hasR A (σ1 73) (σ1 74) n x y) → wp (d + 3) m_M_addEdge [.inr (.inr 49), .inr (.inl 0), .inr (.inl 1)] (mset σ1 49 35 0) (fun (r1 : Int) (s2 : Mem) => K_M_findEdges_103 (d + 3) Q 0 s2)) : wp (d + 4) m_M_findEdges [.inr (.inr 49)] σ Q := by
  have hA := hR.ac
  have hm6 : aN A ≤ 6 := by show (A 7 2).toNat ≤ 6; omega
  have haN : A 7 2 = ((aN A : Nat) : Int) := by show A 7 2 = (((A 7 2).toNat : Nat) : Int); omega
  have m72 : ∀ τ, Eqv A τ → τ 49 1 = ((aN A : Nat) : Int) := fun τ h => by rw [h 49 1 rfl, ← haN]; exact hR.m0.2.1
  have hm52 : ∀ τ, Eqv A τ → ∀ c t : Nat, (c : Int) < A 7 2 → t < 2 → τ 52 (4 * c + t) = A 10 (4 * c + t) := fun τ h c t hc ht => by
    rw [h 52 _ rfl]
    have := gets_m hR (wi := 0) (a := c) (t := t) (by omega) hc (by omega)
    rw [show 24 * 0 + 4 * c + t = 4 * c + t by omega] at this
    exact this
  refine e_M_findEdges ?_
  refine upto (n := aN A) (P := fun i => ∀ τ n, dI A σ τ n i 0 → K_M_findEdges_7 (d + 3) Q ((i : Nat) : Int) τ) (fun τ n hI => ?_) (fun i hi ih τ n hI => ?_) (mset σ 49 38 0) 0 ⟨fun k i a b c => by rw [ms_ne (by omega)], ms_eq, ⟨fun i hi => absurd hi (by omega), fun i j _ hj => absurd hj (by omega)⟩, fun i hi => absurd hi (by omega), fun x y hxy hx hz => by omega, Nat.zero_le _⟩
  · obtain ⟨i1, i2, i3, i4, i5, i6⟩ := hI
    have e1 := m72 τ (DF.eqv hE i1)
    have ht := tri_top hm6
    exact e_M_findEdges_7 ⟨fun h => by omega, fun _ => hQ τ n i1 i2 (by omega) i3 i4 (fun x y hxy hx => i5 x y hxy hx (Or.inl (by omega)))⟩
  · have e1 := m72 τ (DF.eqv hE hI.1)
    have ei : w32 ((i : Int) + 1) = ((i + 1 : Nat) : Int) := w32_eq (by omega) (by omega)
    refine e_M_findEdges_7 ⟨fun _ => ?_, fun h => by omega⟩
    refine upto (n := i) (P := fun j => ∀ τ n, dI A σ τ n i j → K_M_findEdges_17 (d + 3) Q ((i : Nat) : Int) ((j : Nat) : Int) τ) (fun τ n hI => ?_) (fun j hj ih2 τ n hI => ?_) τ n hI
    · obtain ⟨i1, i2, i3, i4, i5, i6⟩ := hI
      refine e_M_findEdges_17 ⟨fun h => by omega, fun _ => ?_⟩
      rw [ei]
      refine ih τ n ⟨i1, i2, i3, i4, fun x y hxy hx hz => i5 x y hxy hx (by omega), ?_⟩
      have es : tri (i + 1) = tri i + i := rfl
      omega
    · obtain ⟨i1, i2, i3, i4, i5, i6⟩ := hI
      have hE2 := DF.eqv hE i1
      have ej : w32 ((j : Int) + 1) = ((j + 1 : Nat) : Int) := w32_eq (by omega) (by omega)
      have ht := tri_le (i := i) (j := j) (by omega) hj
      have w4i : w32 (4 * (i : Int)) = ((4 * i : Nat) : Int) := w32_eq (by omega) (by omega)
      have w4j : w32 (4 * (j : Int)) = ((4 * j : Nat) : Int) := w32_eq (by omega) (by omega)
      have w5i : w32 (((4 * i : Nat) : Int) + 1) = ((4 * i + 1 : Nat) : Int) := w32_eq (by omega) (by omega)
      have w5j : w32 (((4 * j : Nat) : Int) + 1) = ((4 * j + 1 : Nat) : Int) := w32_eq (by omega) (by omega)
      have nextP : ∀ (τ2 : Mem) (m : Nat), DF τ τ2 → τ2 49 38 = (m : Int) → m ≤ n + 1 → SL (τ2 73) (τ2 74) m → LT1 (τ2 73) (τ2 74) m → (∀ p2 q2, has (τ 73) (τ 74) n p2 q2 → has (τ2 73) (τ2 74) m p2 q2) → hasR A (τ2 73) (τ2 74) m i j → K_M_findEdges_17 (d + 3) Q ((i : Nat) : Int) ((j + 1 : Nat) : Int) τ2 := fun τ2 m k1 k2 k3 k4 k5 k6 k7 => ih2 τ2 m ⟨i1.trans k1, k2, k4, k5, fun x y hxy hx hz => by
        by_cases z : x = i ∧ y = j
        · obtain ⟨rfl, rfl⟩ := z; exact k7
        · exact (i5 x y hxy hx (by omega)).up k6, by omega⟩
      refine e_M_findEdges_17 ⟨fun _ => ?_, fun h => by omega⟩
      have hai : (i : Int) < A 7 2 := by omega
      have haj : (j : Int) < A 7 2 := by omega
      have d0 : A 10 (4 * i) - A 10 (4 * j) = dd A 10 i j 0 := rfl
      have d1 : A 10 (4 * i + 1) - A 10 (4 * j + 1) = dd A 10 i j 1 := rfl
      refine sp_M_addMeeting (wi := 0) hR h2 hE2 i3 i4 i2 (by omega) (by omega) hai haj (fun hz => ?_) (fun τ1 m k1 k2 k3 k4 k5 k6 k7 k8 k9 => ?_)
      · have no : ∀ u v m, hasP A u v m i j 10 := fun u v m ho => by
          have hz2 : dd A 10 i j 0 = dd A 10 i j 1 := hz
          unfold opp at ho
          omega
        rw [w4i, w4j, w5i, w5j, ej, Int.toNat_natCast, Int.toNat_natCast, Int.toNat_natCast, Int.toNat_natCast, hm52 τ hE2 i 1 hai (by omega), hm52 τ hE2 j 1 haj (by omega), show τ 52 (4 * i) = A 10 (4 * i) from hm52 τ hE2 i 0 hai (by omega), show τ 52 (4 * j) = A 10 (4 * j) from hm52 τ hE2 j 0 haj (by omega)]
        refine ⟨⟨by omega, by omega⟩, ⟨by omega, by omega⟩, fun g1 => ⟨⟨by omega, by omega⟩, ⟨by omega, by omega⟩, fun g2 => ?_, fun g2 => ?_⟩, fun g1 => ?_⟩
        · refine sp_M_addMeeting (wi := 1) hR h2 hE2 i3 i4 i2 (by omega) (by omega) hai haj (fun hz3 => ?_) (fun τ1 m k1 k2 k3 k4 k5 k6 k7 k8 k9 => ?_)
          · refine nextP τ n (fun _ _ _ _ _ => rfl) i2 (by omega) i3 i4 (fun _ _ z => z) ⟨no _ _ _, fun _ _ ho => ?_⟩
            have hz2 : dd A 11 i j 0 = dd A 11 i j 1 := hz3
            unfold opp at ho
            omega
          · exact nextP τ1 m k1 k2 k4 k5 k6 k7 ⟨no _ _ _, fun _ _ => k9⟩
        · exact nextP τ n (fun _ _ _ _ _ => rfl) i2 (by omega) i3 i4 (fun _ _ z => z) ⟨no _ _ _, fun z1 z2 => by omega⟩
        · exact nextP τ n (fun _ _ _ _ _ => rfl) i2 (by omega) i3 i4 (fun _ _ z => z) ⟨no _ _ _, fun z1 z2 => by omega⟩
      · have hE3 := DF.eqv hE2 k1
        have k8' : ¬ dd A 10 i j 0 = dd A 10 i j 1 := k8
        rw [w4i, w4j, w5i, w5j, ej, Int.toNat_natCast, Int.toNat_natCast, Int.toNat_natCast, Int.toNat_natCast, hm52 τ1 hE3 i 1 hai (by omega), hm52 τ1 hE3 j 1 haj (by omega), show τ1 52 (4 * i) = A 10 (4 * i) from hm52 τ1 hE3 i 0 hai (by omega), show τ1 52 (4 * j) = A 10 (4 * j) from hm52 τ1 hE3 j 0 haj (by omega)]
        have nx : K_M_findEdges_17 (d + 3) Q ((i : Nat) : Int) ((j + 1 : Nat) : Int) τ1 := nextP τ1 m k1 k2 k4 k5 k6 k7 ⟨k9, fun z1 z2 => by omega⟩
        refine ⟨⟨by omega, by omega⟩, ⟨by omega, by omega⟩, fun g1 => ⟨⟨by omega, by omega⟩, ⟨by omega, by omega⟩, fun g2 => ?_, fun g2 => nx⟩, fun g1 => nx⟩
        exfalso
        omega
theorem sp_M_doneAt {d : Nat} {A σ : Mem} {Q : Int → Mem → Prop} (hR : SR 7 (mLive A) A) (h2 : A 7 1 = 2) (ho : 1 ≤ A 7 2) (hE : Eqv A σ) {p q : Int} (hp : 0 ≤ p ∧ p ≤ q ∧ q ≤ 1000000000) (hQ : ∀ σ1, MF σ σ1 → (∀ t, t < tN A → σ1 67 t = wX p q t) → Q ((fX A p q : Nat) : Int) σ1) : wp (d + 3) m_M_doneAt [.inr (.inr 49), .inr (.inl p), .inr (.inl q)] σ Q := by
  have e : tN A = 2 := by show (A 7 1).toNat = 2; rw [h2]; rfl
  refine e_M_doneAt ?_
  rw [w64_id (x := q - p) (by omega) (by omega)]
  have fr : MF σ (mset (mset (mset (mset σ 67 0 (q - p)) 67 1 p) 67 2 0) 67 3 0) := fun k i hk => by rw [ms_nk hk, ms_nk hk, ms_nk hk, ms_nk hk]
  have hw : ∀ t, t < tN A → (mset (mset (mset (mset σ 67 0 (q - p)) 67 1 p) 67 2 0) 67 3 0) 67 t = wX p q t := fun t ht => by
    match t, (show t < 2 by omega) with
    | 0, _ => simp (discharger := decide) only [ms_ni, ms_eq]; rfl
    | 1, _ => simp (discharger := decide) only [ms_ni, ms_eq]; rfl
  exact sp_M_doneBy hR (fr.eqv hE) ho (Or.inl ⟨rfl, rfl⟩) (wX_bd h2 hp) hw (hQ _ fr hw)
theorem sp_M_doneBetween {d : Nat} {A σ : Mem} {Q : Int → Mem → Prop} (hR : SR 7 (mLive A) A) (h2 : A 7 1 = 2) (ho : 1 ≤ A 7 2) (hE : Eqv A σ) {a b c e : Int} (h1 : 0 ≤ a ∧ a ≤ b ∧ 1 ≤ b ∧ b ≤ 396) (h3 : 0 ≤ c ∧ c ≤ e ∧ 1 ≤ e ∧ e ≤ 396) (hQ : ∀ σ1, MF σ σ1 → Q ((fX A (a * e + c * b) (2 * b * e) : Nat) : Int) σ1) : wp (d + 4) m_M_doneBetween [.inr (.inr 49), .inr (.inl a), .inr (.inl b), .inr (.inl c), .inr (.inl e)] σ Q := by
  refine e_M_doneBetween ?_
  have m1 := mul_bd (x := a) (y := e) (X := 396) (Y := 396) ⟨by omega, by omega⟩ ⟨by omega, by omega⟩
  have m2 := mul_bd (x := c) (y := b) (X := 396) (Y := 396) ⟨by omega, by omega⟩ ⟨by omega, by omega⟩
  have m3 := mul_bd (x := 2 * b) (y := e) (X := 792) (Y := 396) ⟨by omega, by omega⟩ ⟨by omega, by omega⟩
  have p1 := Int.mul_nonneg h1.1 (show 0 ≤ e by omega)
  have p2 := Int.mul_nonneg h3.1 (show 0 ≤ b by omega)
  have q1 := Int.mul_le_mul_of_nonneg_right h1.2.1 (show 0 ≤ e by omega)
  have q2 := Int.mul_le_mul_of_nonneg_right h3.2.1 (show 0 ≤ b by omega)
  have e3 : 2 * b * e = b * e + e * b := by grind
  rw [w64_id (x := a * e) (by omega) (by omega), w64_id (x := c * b) (by omega) (by omega), w64_id (x := a * e + c * b) (by omega) (by omega), w64_id (x := 2 * b) (by omega) (by omega), w64_id (x := 2 * b * e) (by omega) (by omega)]
  exact sp_M_doneAt hR h2 ho hE ⟨by omega, by omega, by omega⟩ (fun σ1 f1 _ => hQ σ1 f1)
def exA (a : Nat → Int) (n : Nat) (i : Nat) : Int := match i with
  | 0 => 0
  | i + 1 => if i < n then a i else 1
def exB (b : Nat → Int) (n : Nat) (i : Nat) : Int := match i with
  | 0 => 1
  | i + 1 => if i < n then b i else 1
theorem exA_s {a : Nat → Int} {n i : Nat} (h : i < n) : exA a n (i + 1) = a i := if_pos h
theorem exB_s {a : Nat → Int} {n i : Nat} (h : i < n) : exB a n (i + 1) = a i := if_pos h
theorem exA_e {a : Nat → Int} {n : Nat} : exA a n (n + 1) = 1 := if_neg (Nat.lt_irrefl n)
theorem exB_e {a : Nat → Int} {n : Nat} : exB a n (n + 1) = 1 := if_neg (Nat.lt_irrefl n)
theorem ex_CS {A : Mem} {a b : Nat → Int} {n : Nat} (hS : SL a b n) (hL : LT1 a b n) (hP : ∀ x y : Nat, y < x → (x : Int) < A 7 2 → hasR A a b n x y) : CSx A (exA a n) (exB b n) (n + 2) := by
  have up : ∀ p2 q2, has a b n p2 q2 → has (exA a n) (exB b n) (n + 2) p2 q2 := fun p2 q2 ⟨i, i1, i2⟩ => ⟨i + 1, by omega, by rw [exA_s i1, exB_s i1]; exact i2⟩
  have bd : ∀ i, i < n + 2 → 0 ≤ exA a n i ∧ exA a n i ≤ exB b n i ∧ 1 ≤ exB b n i ∧ exB b n i ≤ 396 := fun i hi => by
    match i with
    | 0 => exact (by decide : (0 : Int) ≤ 0 ∧ (0 : Int) ≤ 1 ∧ (1 : Int) ≤ 1 ∧ (1 : Int) ≤ 396)
    | i + 1 =>
      by_cases z : i < n
      · rw [exA_s z, exB_s z]; exact hS.1 i z
      · have : i = n := by omega
        subst this
        rw [exA_e, exB_e]; omega
  refine ⟨⟨bd, fun i j hij hj => ?_⟩, by omega, rfl, ?_, fun x y hxy hx => (hP x y hxy hx).up up⟩
  · match j, i with
    | 0, i => omega
    | j + 1, 0 =>
      show 0 * exB b n (j + 1) < exA a n (j + 1) * 1
      by_cases z : j < n
      · rw [exA_s z]
        have := hL j z
        omega
      · have : j = n := by omega
        subst this
        rw [exA_e]; omega
    | j + 1, i + 1 =>
      rw [exA_s (show i < n by omega), exB_s (show i < n by omega)]
      by_cases z : j < n
      · rw [exA_s z, exB_s z]; exact hS.2 i j (by omega) z
      · have : j = n := by omega
        subst this
        have := hL i (by omega)
        rw [exA_e, exB_e]; omega
  · show exA a n (n + 1) = exB b n (n + 1)
    rw [exA_e, exB_e]
def EF (σ σ1 : Mem) : Prop := ∀ k i, ¬ (k = 49 ∧ (i = 35 ∨ i = 38)) → k ≠ 67 → ¬ (71 ≤ k ∧ k ≤ 74) → σ1 k i = σ k i
theorem EF.eqv {A σ τ : Mem} (hE : Eqv A σ) (h : EF σ τ) : Eqv A τ := fun k i hl => by
  have l := live_ok (l := [(49, 35), (49, 38)]) hl (by decide)
  simp only [List.mem_cons, List.not_mem_nil, or_false, forall_eq_or_imp, forall_eq] at l
  have n1 := live_x (o := 71) hl rfl
  have n2 := live_x (o := 72) hl rfl
  have n3 := live_x (o := 73) hl rfl
  have n4 := live_x (o := 74) hl rfl
  rw [h k i (by omega) (live_x (o := 67) hl rfl) (by omega)]
  exact hE k i hl
theorem sp_M_findEdges {d : Nat} {A σ : Mem} {Q : Int → Mem → Prop} (hR : SR 7 (mLive A) A) (h2 : A 7 1 = 2) (ho : 1 ≤ A 7 2) (hE : Eqv A σ) (hQ : ∀ σ1 E, EF σ σ1 → σ1 49 35 = ((E : Nat) : Int) → E ≤ 17 → ES A (σ1 71) (σ1 72) E → σ1 71 E = A 9 1 → σ1 72 E = A 7 6 → Q 0 σ1) : wp (d + 5) m_M_findEdges [.inr (.inr 49)] σ Q := by
  refine sp_M_cands (d := d + 1) hR h2 hE (fun σ0 n f0 c0 hn hS hL hP => ?_)
  have hC := ex_CS hS hL hP
  generalize hea : exA (σ0 73) n = ea at hC
  generalize heb : exB (σ0 74) n = eb at hC
  have a0 : ea 0 = 0 := by rw [← hea]; rfl
  have b0 : eb 0 = 1 := by rw [← heb]; rfl
  have as : ∀ i, i < n → ea (i + 1) = σ0 73 i := fun i hi => by rw [← hea]; exact exA_s hi
  have bs : ∀ i, i < n → eb (i + 1) = σ0 74 i := fun i hi => by rw [← heb]; exact exB_s hi
  have al : ea (n + 1) = 1 := by rw [← hea]; exact exA_e
  have bl : eb (n + 1) = 1 := by rw [← heb]; exact exB_e
  have add : ∀ (τ : Mem) (e : Nat) (p q : Int) (K : Int → Mem → Prop), τ 49 35 = (e : Int) → e < 40 → K 0 (mset (mset (mset τ 71 e p) 72 e q) 49 35 ((e + 1 : Nat) : Int)) → wp (d + 4) m_M_addEdge [.inr (.inr 49), .inr (.inl p), .inr (.inl q)] τ K := fun τ e p q K h1 h3 hK => by
    refine e_M_addEdge ?_
    rw [ms_nk (by decide), ms_nk (by decide), ms_nk (by decide), h1, Int.toNat_natCast, w32_eq (n := e + 1) (by omega) (by omega)]
    exact ⟨⟨by omega, by omega⟩, ⟨by omega, by omega⟩, hK⟩
  have main : ∀ m k : Nat, k + m = n → ∀ (τ : Mem) (e : Nat), EF σ τ → τ 73 = σ0 73 → τ 74 = σ0 74 → τ 49 38 = (n : Int) → τ 49 35 = (e : Int) → MS A ea eb (k + 1) (τ 71) (τ 72) e → K_M_findEdges_103 (d + 4) Q ((k : Nat) : Int) τ := by
    intro m
    induction m with
    | zero =>
      intro k hk τ e F t73 t74 t38 t35 hM
      have hkn : k = n := by omega
      subst hkn
      have he := hM.2.1
      refine e_M_findEdges_103 ⟨fun h => by omega, fun _ => ?_⟩
      refine add τ e 1 1 _ t35 (by omega) ?_
      have F1 : EF σ (mset (mset (mset τ 71 e 1) 72 e 1) 49 35 ((e + 1 : Nat) : Int)) := fun k i h1 h3 h4 => by rw [ms_ne (by omega), ms_ne (by omega), ms_ne (by omega)]; exact F k i h1 h3 h4
      refine sp_M_allBefore hR (EF.eqv hE F1) ?_
      have e51 : (mset (mset (mset τ 71 e 1) 72 e 1) 49 35 ((e + 1 : Nat) : Int)) 51 1 = A 9 1 := by rw [EF.eqv hE F1 51 1 rfl]; exact (hR.2.2.2.1 1 (by omega)).2.2.2.1
      rw [e51, ms_eq (σ := mset (mset τ 71 e 1) 72 e 1) (o := 49) (i := 35), Int.toNat_natCast, ms_nk (o := 71) (k := 49) (by decide), ms_eq (σ := mset (mset τ 71 e 1) 72 e 1) (o := 49) (i := 35), Int.toNat_natCast]
      refine ⟨⟨by omega, by omega⟩, ⟨by omega, by omega⟩, hQ _ (e + 1) (fun k i h1 h3 h4 => ?_) ?_ (by omega) ?_ ?_ ms_eq⟩
      · rw [ms_ne (by omega), ms_ne (by omega)]; exact F1 k i h1 h3 h4
      · rw [ms_nk (by decide), ms_nk (by decide), ms_eq]
      · refine MS.fin h2 hC (u := τ 71) (v := τ 72) hM (fun j hj => ⟨?_, ?_⟩) ⟨?_, ?_⟩
        · rw [ms_nk (by decide), ms_ni (by omega), ms_nk (by decide), ms_nk (by decide), ms_ni (by omega)]
        · rw [ms_ni (by omega), ms_nk (by decide), ms_nk (by decide), ms_ni (by omega), ms_nk (by decide)]
        · rw [ms_nk (by decide), ms_ni (by omega), ms_nk (by decide), ms_nk (by decide), ms_eq]
        · rw [ms_ni (by omega), ms_nk (by decide), ms_nk (by decide), ms_eq]
      · rw [ms_nk (by decide), ms_eq]
    | succ m ih =>
      intro k hk τ e F t73 t74 t38 t35 hM
      have he := hM.2.1
      have hkn : k < n := by omega
      have EE := EF.eqv hE F
      have ek : w32 ((k : Int) + 1) = ((k + 1 : Nat) : Int) := w32_eq (by omega) (by omega)
      have ekm : ¬ (k : Int) = 0 → w32 ((k : Int) - 1) = ((k - 1 : Nat) : Int) := fun h => w32_eq (by omega) (by omega)
      have c73 : τ 73 k = ea (k + 1) := by rw [as k hkn, t73]
      have c74 : τ 74 k = eb (k + 1) := by rw [bs k hkn, t74]
      have bk := hC.1.1 (k + 1) (by omega)
      have bk0 := hC.1.1 k (by omega)
      have bk2 := hC.1.1 (k + 2) (by omega)
      have sub : k + 1 - 1 = k := by omega
      have tail : ∀ s, MF τ s → wp (d + 4) m_M_doneAt [.inr (.inr 49), .inr (.inl (s 73 k)), .inr (.inl (s 74 k))] s (fun r9 s10 =>
            (((mX A ea eb k : Nat) : Int) = r9 →
                (((mX A ea eb (k + 1) : Nat) : Int) = r9 → K_M_findEdges_103 (d + 4) Q ((k + 1 : Nat) : Int) s10) ∧
                (¬ ((mX A ea eb (k + 1) : Nat) : Int) = r9 →
                  (0 ≤ (k : Int) ∧ (k : Int) < (40 : Int)) ∧ (0 ≤ (k : Int) ∧ (k : Int) < (40 : Int)) ∧ wp (d + 4) m_M_addEdge [.inr (.inr 49), .inr (.inl (s10 73 k)), .inr (.inl (s10 74 k))] s10 (fun _ s14 => K_M_findEdges_103 (d + 4) Q ((k + 1 : Nat) : Int) s14))) ∧
              (¬ ((mX A ea eb k : Nat) : Int) = r9 →
                (0 ≤ (k : Int) ∧ (k : Int) < (40 : Int)) ∧ (0 ≤ (k : Int) ∧ (k : Int) < (40 : Int)) ∧ wp (d + 4) m_M_addEdge [.inr (.inr 49), .inr (.inl (s10 73 k)), .inr (.inl (s10 74 k))] s10 (fun _ s12 => K_M_findEdges_103 (d + 4) Q ((k + 1 : Nat) : Int) s12))) := fun s fs => by
        have s73 : s 73 k = ea (k + 1) := by rw [fs 73 k (by decide)]; exact c73
        have s74 : s 74 k = eb (k + 1) := by rw [fs 74 k (by decide)]; exact c74
        rw [s73, s74]
        refine sp_M_doneAt hR h2 ho (fs.eqv EE) ⟨bk.1, bk.2.1, by omega⟩ (fun s2 f2 _ => ?_)
        have f := fs.trans f2
        have u73 : s2 73 k = ea (k + 1) := by rw [f 73 k (by decide)]; exact c73
        have u74 : s2 74 k = eb (k + 1) := by rw [f 74 k (by decide)]; exact c74
        rw [u73, u74]
        have stay : ¬ mkd A ea eb (k + 1) → K_M_findEdges_103 (d + 4) Q ((k + 1 : Nat) : Int) s2 := fun hm => ih (k + 1) (by omega) s2 e (fun k i h1 h3 h4 => by rw [f k i h3]; exact F k i h1 h3 h4) (by rw [← t73]; exact funext (fun i => f 73 i (by decide))) (by rw [← t74]; exact funext (fun i => f 74 i (by decide))) (by rw [f 49 38 (by decide)]; exact t38) (by rw [f 49 35 (by decide)]; exact t35) (by
          rw [show s2 71 = τ 71 from funext (fun i => f 71 i (by decide)), show s2 72 = τ 72 from funext (fun i => f 72 i (by decide))]; exact hM.no hm)
        have mark : mkd A ea eb (k + 1) → wp (d + 4) m_M_addEdge [.inr (.inr 49), .inr (.inl (ea (k + 1))), .inr (.inl (eb (k + 1)))] s2 (fun _ s14 => K_M_findEdges_103 (d + 4) Q ((k + 1 : Nat) : Int) s14) := fun hm => by
          refine add s2 e _ _ _ (by rw [f 49 35 (by decide)]; exact t35) (by omega) ?_
          refine ih (k + 1) (by omega) _ (e + 1) (fun k i h1 h3 h4 => ?_) ?_ ?_ ?_ ms_eq (hM.add hC (by omega) (by omega) hm (fun j hj => ⟨?_, ?_⟩) ⟨?_, ?_⟩)
          · rw [ms_ne (by omega), ms_ne (by omega), ms_ne (by omega), f k i h3]; exact F k i h1 h3 h4
          · rw [← t73]; exact funext (fun i => by rw [ms_nk (by decide), ms_nk (by decide), ms_nk (by decide)]; exact f 73 i (by decide))
          · rw [← t74]; exact funext (fun i => by rw [ms_nk (by decide), ms_nk (by decide), ms_nk (by decide)]; exact f 74 i (by decide))
          · rw [ms_ni (by decide), ms_nk (by decide), ms_nk (by decide), f 49 38 (by decide)]; exact t38
          · rw [ms_nk (by decide), ms_nk (by decide), ms_ni (by omega)]; exact f 71 j (by decide)
          · rw [ms_nk (by decide), ms_ni (by omega), ms_nk (by decide)]; exact f 72 j (by decide)
          · rw [ms_nk (by decide), ms_nk (by decide), ms_eq]
          · rw [ms_nk (by decide), ms_eq]
        refine ⟨fun g1 => ⟨fun g2 => stay (fun hm => hm ⟨by rw [sub]; omega, by omega⟩), fun g2 => ⟨⟨by omega, by omega⟩, ⟨by omega, by omega⟩, mark (fun hm => g2 (by rw [hm.2]))⟩⟩, fun g1 => ⟨⟨by omega, by omega⟩, ⟨by omega, by omega⟩, mark (fun hm => g1 ?_)⟩⟩
        have := hm.1
        rw [sub] at this
        rw [this]
      have right : ∀ s, MF τ s → k = n - 1 → ∀ K, (∀ s1, MF τ s1 → K ((mX A ea eb (k + 1) : Nat) : Int) s1) → wp (d + 4) m_M_doneBetween [.inr (.inr 49), .inr (.inl (s 73 k)), .inr (.inl (s 74 k)), .inr (.inl 1), .inr (.inl 1)] s K := fun s fs hl K hK => by
        have s73 : s 73 k = ea (k + 1) := by rw [fs 73 k (by decide)]; exact c73
        have s74 : s 74 k = eb (k + 1) := by rw [fs 74 k (by decide)]; exact c74
        have e2 : k + 2 = n + 1 := by omega
        rw [s73, s74]
        refine sp_M_doneBetween hR h2 ho (fs.eqv EE) bk ⟨by decide, by decide, by decide, by decide⟩ (fun s1 f1 => ?_)
        have z := hK s1 (fs.trans f1)
        unfold mX at z
        rw [show k + 1 + 1 = n + 1 by omega, al, bl] at z
        exact z
      have right2 : ∀ s, MF τ s → ¬ k = n - 1 → ∀ K, (∀ s1, MF τ s1 → K ((mX A ea eb (k + 1) : Nat) : Int) s1) → wp (d + 4) m_M_doneBetween [.inr (.inr 49), .inr (.inl (s 73 k)), .inr (.inl (s 74 k)), .inr (.inl (s 73 (k + 1))), .inr (.inl (s 74 (k + 1)))] s K := fun s fs hl K hK => by
        have s73 : s 73 k = ea (k + 1) := by rw [fs 73 k (by decide)]; exact c73
        have s74 : s 74 k = eb (k + 1) := by rw [fs 74 k (by decide)]; exact c74
        have v73 : s 73 (k + 1) = ea (k + 2) := by rw [fs 73 _ (by decide), t73]; exact (as (k + 1) (by omega)).symm
        have v74 : s 74 (k + 1) = eb (k + 2) := by rw [fs 74 _ (by decide), t74]; exact (bs (k + 1) (by omega)).symm
        rw [s73, s74, v73, v74]
        exact sp_M_doneBetween hR h2 ho (fs.eqv EE) bk bk2 (fun s1 f1 => hK s1 (fs.trans f1))
      have rest : ∀ s, MF τ s → (((k : Int) = (w32 ((s 49 38) - 1)) →
          (0 ≤ (k : Int) ∧ (k : Int) < (40 : Int)) ∧ (0 ≤ (k : Int) ∧ (k : Int) < (40 : Int)) ∧ wp (d + 4) m_M_doneBetween [.inr (.inr 49), .inr (.inl (s 73 k)), .inr (.inl (s 74 k)), .inr (.inl 1), .inr (.inl 1)] s (fun (r15 : Int) (s16 : Mem) =>
          (0 ≤ (k : Int) ∧ (k : Int) < (40 : Int)) ∧ (0 ≤ (k : Int) ∧ (k : Int) < (40 : Int)) ∧ wp (d + 4) m_M_doneAt [.inr (.inr 49), .inr (.inl (s16 73 k)), .inr (.inl (s16 74 k))] s16 (fun (r17 : Int) (s18 : Mem) =>
            (((mX A ea eb k : Nat) : Int) = r17 →
                (r15 = r17 → K_M_findEdges_103 (d + 4) Q ((k + 1 : Nat) : Int) s18) ∧
                (¬ r15 = r17 →
                  (0 ≤ (k : Int) ∧ (k : Int) < (40 : Int)) ∧ (0 ≤ (k : Int) ∧ (k : Int) < (40 : Int)) ∧ wp (d + 4) m_M_addEdge [.inr (.inr 49), .inr (.inl (s18 73 k)), .inr (.inl (s18 74 k))] s18 (fun (_ : Int) (s22 : Mem) => K_M_findEdges_103 (d + 4) Q ((k + 1 : Nat) : Int) s22))) ∧
              (¬ ((mX A ea eb k : Nat) : Int) = r17 →
                (0 ≤ (k : Int) ∧ (k : Int) < (40 : Int)) ∧ (0 ≤ (k : Int) ∧ (k : Int) < (40 : Int)) ∧ wp (d + 4) m_M_addEdge [.inr (.inr 49), .inr (.inl (s18 73 k)), .inr (.inl (s18 74 k))] s18 (fun (_ : Int) (s20 : Mem) => K_M_findEdges_103 (d + 4) Q ((k + 1 : Nat) : Int) s20))))) ∧
        (¬ (k : Int) = (w32 ((s 49 38) - 1)) →
          (0 ≤ (k : Int) ∧ (k : Int) < (40 : Int)) ∧ (0 ≤ (k : Int) ∧ (k : Int) < (40 : Int)) ∧ (0 ≤ ((k + 1 : Nat) : Int) ∧ ((k + 1 : Nat) : Int) < (40 : Int)) ∧ (0 ≤ ((k + 1 : Nat) : Int) ∧ ((k + 1 : Nat) : Int) < (40 : Int)) ∧ wp (d + 4) m_M_doneBetween [.inr (.inr 49), .inr (.inl (s 73 k)), .inr (.inl (s 74 k)), .inr (.inl (s 73 (k + 1))), .inr (.inl (s 74 (k + 1)))] s (fun (r7 : Int) (s8 : Mem) =>
          (0 ≤ (k : Int) ∧ (k : Int) < (40 : Int)) ∧ (0 ≤ (k : Int) ∧ (k : Int) < (40 : Int)) ∧ wp (d + 4) m_M_doneAt [.inr (.inr 49), .inr (.inl (s8 73 k)), .inr (.inl (s8 74 k))] s8 (fun (r9 : Int) (s10 : Mem) =>
            (((mX A ea eb k : Nat) : Int) = r9 →
                (r7 = r9 → K_M_findEdges_103 (d + 4) Q ((k + 1 : Nat) : Int) s10) ∧
                (¬ r7 = r9 →
                  (0 ≤ (k : Int) ∧ (k : Int) < (40 : Int)) ∧ (0 ≤ (k : Int) ∧ (k : Int) < (40 : Int)) ∧ wp (d + 4) m_M_addEdge [.inr (.inr 49), .inr (.inl (s10 73 k)), .inr (.inl (s10 74 k))] s10 (fun (_ : Int) (s14 : Mem) => K_M_findEdges_103 (d + 4) Q ((k + 1 : Nat) : Int) s14))) ∧
              (¬ ((mX A ea eb k : Nat) : Int) = r9 →
                (0 ≤ (k : Int) ∧ (k : Int) < (40 : Int)) ∧ (0 ≤ (k : Int) ∧ (k : Int) < (40 : Int)) ∧ wp (d + 4) m_M_addEdge [.inr (.inr 49), .inr (.inl (s10 73 k)), .inr (.inl (s10 74 k))] s10 (fun (_ : Int) (s12 : Mem) => K_M_findEdges_103 (d + 4) Q ((k + 1 : Nat) : Int) s12)))))) := fun s fs => by
        have e38 : w32 (s 49 38 - 1) = ((n - 1 : Nat) : Int) := by rw [fs 49 38 (by decide), t38]; exact w32_eq (by omega) (by omega)
        rw [e38]
        refine ⟨fun g => ⟨⟨by omega, by omega⟩, ⟨by omega, by omega⟩, right s fs (by omega) _ (fun s1 f1 => ⟨⟨by omega, by omega⟩, ⟨by omega, by omega⟩, tail s1 f1⟩)⟩, fun g => ⟨⟨by omega, by omega⟩, ⟨by omega, by omega⟩, ⟨by omega, by omega⟩, ⟨by omega, by omega⟩, right2 s fs (by omega) _ (fun s1 f1 => ⟨⟨by omega, by omega⟩, ⟨by omega, by omega⟩, tail s1 f1⟩)⟩⟩
      refine e_M_findEdges_103 ⟨fun _ => ?_, fun h => by omega⟩
      rw [ek, Int.toNat_natCast, Int.toNat_natCast]
      refine ⟨fun hz => ?_, fun hz => ?_⟩
      · have k0 : k = 0 := by omega
        have x73 : τ 73 0 = ea (k + 1) := by rw [← c73, k0]
        have x74 : τ 74 0 = eb (k + 1) := by rw [← c74, k0]
        rw [x73, x74]
        refine sp_M_doneBetween hR h2 ho EE ⟨by decide, by decide, by decide, by decide⟩ bk (fun s fs => ?_)
        have z := rest s fs
        have em : fX A (0 * eb (k + 1) + ea (k + 1) * 1) (2 * 1 * eb (k + 1)) = mX A ea eb k := by
          unfold mX
          rw [show ea k = 0 by rw [k0]; exact a0, show eb k = 1 by rw [k0]; exact b0]
        rw [em]
        exact z
      · rw [ekm hz, Int.toNat_natCast]
        have y73 : τ 73 (k - 1) = ea k := by
          have := as (k - 1) (by omega)
          rw [show k - 1 + 1 = k by omega] at this
          rw [t73, this]
        have y74 : τ 74 (k - 1) = eb k := by
          have := bs (k - 1) (by omega)
          rw [show k - 1 + 1 = k by omega] at this
          rw [t74, this]
        rw [y73, y74, c73, c74]
        exact ⟨⟨by omega, by omega⟩, ⟨by omega, by omega⟩, ⟨by omega, by omega⟩, ⟨by omega, by omega⟩, sp_M_doneBetween hR h2 ho EE bk0 bk (fun s fs => rest s fs)⟩
  refine add (mset σ0 49 35 0) 0 0 1 _ ms_eq (by omega) ?_
  refine main n 0 (by omega) _ 1 (fun k i h1 h3 h4 => ?_) ?_ ?_ ?_ ms_eq (MS.start ⟨?_, ?_⟩)
  · rw [ms_ne (by omega), ms_ne (by omega), ms_ne (by omega), ms_ne (by omega)]; exact f0 k i (by omega) (by omega) (by omega)
  · exact funext (fun i => by rw [ms_nk (by decide), ms_nk (by decide), ms_nk (by decide), ms_nk (by decide)])
  · exact funext (fun i => by rw [ms_nk (by decide), ms_nk (by decide), ms_nk (by decide), ms_nk (by decide)])
  · rw [ms_ni (by decide), ms_nk (by decide), ms_nk (by decide), ms_ni (by decide)]; exact c0
  · rw [ms_nk (by decide), ms_nk (by decide), ms_eq]
  · rw [ms_nk (by decide), ms_eq]
theorem sp_M_valueOf {d : Nat} {A σ : Mem} {Q : Int → Mem → Prop} (hR : SR 7 (mLive A) A) (h2 : A 7 1 = 2) (ho : 1 ≤ A 7 2) (hE : Eqv A σ) {i : Nat} (hi : i < 40) (hb : 0 ≤ σ 71 i ∧ σ 71 i ≤ σ 72 i ∧ σ 72 i ≤ 396) (hQ : ∀ σ1, MF σ σ1 → Q (hX A (σ 71 i) (σ 72 i)) σ1) : wp (d + 4) m_M_valueOf [.inr (.inr 49), .inl (i : Int)] σ Q := by
  refine e_M_valueOf ?_
  rw [Int.toNat_natCast]
  refine ⟨⟨by omega, by omega⟩, ⟨by omega, by omega⟩, sp_M_doneAt hR h2 ho hE ⟨hb.1, hb.2.1, by omega⟩ (fun s fs w => ?_)⟩
  exact sp_M_sumOf (wi := 1) hR (fs.eqv hE) (by omega) (act_lt hR ho) (wX_bd h2 ⟨hb.1, hb.2.1, by omega⟩) w (hQ s fs)
