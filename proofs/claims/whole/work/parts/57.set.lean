-- PURE, 28: set, chosen, enough
theorem gath_abs {A : Mem} (hR : RR A) (ho : 1 ≤ A 7 2) {j p : Nat} (hp : isPay p) : ∀ {ls : List Nat} {w : Nat → Int}, lksOK A ls → (∀ t, t < tN A → 0 ≤ w t) → -(99 * 60 ^ ls.length * sumN (tN A) w) ≤ gath A j p ls w ∧ gath A j p ls w ≤ 99 * 60 ^ ls.length * sumN (tN A) w
  | [], w, _, hw => by
    have key : ∀ k, k ≤ tN A → -(99 * sumN k w) ≤ sumN k (fun t => w t * A p (4 * (act A w j) + t)) ∧ sumN k (fun t => w t * A p (4 * (act A w j) + t)) ≤ 99 * sumN k w := by
      intro k
      induction k with
      | zero => intro _; exact ⟨Int.le_refl _, Int.le_refl _⟩
      | succ k ih =>
        intro hk
        have h1 := ih (by omega)
        have h2 := pay_bd hR.1 hp (act_lt hR.1 ho (w := w) (j := j)) (t := k) (by omega)
        have h3 := hw k (by omega)
        have h4 := mul_bd (x := w k) (X := w k) ⟨by omega, Int.le_refl _⟩ h2
        show -(99 * (sumN k w + w k)) ≤ sumN k _ + w k * A p (4 * (act A w j) + k) ∧ sumN k _ + w k * A p (4 * (act A w j) + k) ≤ 99 * (sumN k w + w k)
        omega
    have := key (tN A) (Nat.le_refl _)
    simp only [List.length_nil, Int.pow_zero, Int.mul_one]
    exact this
  | l :: ls, w, hl, hw => by
    have hl1 := hl l List.mem_cons_self
    have hsum : sumN (sg A l) (fun s => sumN (tN A) (fun t => w t * pt A l t s)) = 60 * sumN (tN A) w := by
      rw [sumN_swap, ← sumN_mul]
      refine sumN_congr (fun t ht => ?_)
      rw [sumN_mul, hR.1.sum60 hl1 ht, Int.mul_comm]
    have key : ∀ k, k ≤ sg A l → -(99 * 60 ^ ls.length * sumN k (fun s => sumN (tN A) (fun t => w t * pt A l t s))) ≤ sumN k (fun s => gath A j p ls (fun t => w t * pt A l t s)) ∧ sumN k (fun s => gath A j p ls (fun t => w t * pt A l t s)) ≤ 99 * 60 ^ ls.length * sumN k (fun s => sumN (tN A) (fun t => w t * pt A l t s)) := by
      intro k
      induction k with
      | zero => intro _; simp [sumN]
      | succ k ih =>
        intro hk
        have h1 := ih (by omega)
        have h2 := gath_abs hR ho hp (j := j) (ls := ls) (w := fun t => w t * pt A l t k) (fun x hx => hl x (List.mem_cons_of_mem _ hx)) (fun t ht => Int.mul_nonneg (hw t ht) (pt_bd hR.1 hl1 ht (by omega)).1)
        show -(99 * 60 ^ ls.length * (sumN k _ + sumN (tN A) (fun t => w t * pt A l t k))) ≤ sumN k _ + gath A j p ls (fun t => w t * pt A l t k) ∧ sumN k _ + gath A j p ls (fun t => w t * pt A l t k) ≤ 99 * 60 ^ ls.length * (sumN k _ + sumN (tN A) (fun t => w t * pt A l t k))
        rw [Int.mul_add]
        omega
    have := key (sg A l) (Nat.le_refl _)
    rw [hsum] at this
    have e : (99 : Int) * 60 ^ (l :: ls).length * sumN (tN A) w = 99 * 60 ^ ls.length * (60 * sumN (tN A) w) := by
      rw [List.length_cons, Int.pow_succ]
      grind
    rw [e]
    exact this
theorem gath_abs9 {A : Mem} (hR : RR A) (ho : 1 ≤ A 7 2) {j p : Nat} (hp : isPay p) {ls : List Nat} (hl : lksOK A ls) : -(99 * (A 7 6 * 60 ^ ls.length)) ≤ gath A j p ls (fun t => A 9 t) ∧ gath A j p ls (fun t => A 9 t) ≤ 99 * (A 7 6 * 60 ^ ls.length) := by
  have := gath_abs hR ho hp (j := j) hl (w := fun t => A 9 t) (fun t ht => by have := hR.1.pr (lt_tN ht); omega)
  rw [← hR.1.tot] at this
  rw [show 99 * 60 ^ ls.length * A 7 6 = 99 * (A 7 6 * 60 ^ ls.length) by grind] at this
  exact this
/-- what a set is worth, in units of all weights before times 60 cubed (with what it costs, or not) -/
def vS (A : Mem) (less : Bool) (x : Nat) : Int := brg A 10 11 (lsK A x (tsN A)) - (if less then csK A x (tsN A) * (A 7 6 * 216000) else 0)
/-- a by b is V by U -/
def isV (a b V U : Int) : Prop := 0 < b ∧ a * U = V * b
theorem isV_lt {a0 b0 V0 a1 b1 V1 U : Int} (hU : 0 < U) (h0 : isV a0 b0 V0 U) (h1 : isV a1 b1 V1 U) : (a0 * b1 < a1 * b0 ↔ V0 < V1) := by
  have hp : 0 < b0 * b1 := Int.mul_pos h0.1 h1.1
  have e0 : (a0 * b1) * U = V0 * (b0 * b1) := by
    have := h0.2
    grind
  have e1 : (a1 * b0) * U = V1 * (b0 * b1) := by
    have := h1.2
    grind
  constructor
  · intro h
    have h2 := Int.mul_lt_mul_of_pos_right h hU
    rw [e0, e1] at h2
    exact Int.lt_of_mul_lt_mul_right h2 (Int.le_of_lt hp)
  · intro h
    have h2 := Int.mul_lt_mul_of_pos_right h hp
    rw [← e0, ← e1] at h2
    exact Int.lt_of_mul_lt_mul_right h2 (Int.le_of_lt hU)
theorem isV_eq {a0 b0 V0 a1 b1 V1 U : Int} (hU : 0 < U) (h0 : isV a0 b0 V0 U) (h1 : isV a1 b1 V1 U) : (a1 * b0 = a0 * b1 ↔ V1 = V0) := by
  have l1 := isV_lt hU h0 h1
  have l2 := isV_lt hU h1 h0
  constructor
  · intro h
    have n1 : ¬ V0 < V1 := fun z => by have := l1.mpr z; omega
    have n2 : ¬ V1 < V0 := fun z => by have := l2.mpr z; omega
    omega
  · intro h
    have n1 : ¬ a0 * b1 < a1 * b0 := fun z => by have := l1.mp z; omega
    have n2 : ¬ a1 * b0 < a0 * b1 := fun z => by have := l2.mp z; omega
    omega
theorem hl_list {ls : List Nat} (h : ls.length ≤ 3) : hl (fun i => ls.getD i 0) ls.length = ls := by
  match ls, h with
  | [], _ => rfl
  | [_], _ => rfl
  | [_, _], _ => rfl
  | [_, _, _], _ => rfl
  | _ :: _ :: _ :: _ :: _, h => simp at h
theorem getD_ok {ls : List Nat} {i : Nat} (h : i < ls.length) : ls[i]? = some (ls.getD i 0) := by
  rw [List.getD_eq_getElem?_getD, List.getElem?_eq_getElem h]
  rfl
theorem gI_dvd {a b : Int} : gI a b * (a.tdiv (gI a b)) = a ∧ gI a b * (b.tdiv (gI a b)) = b := by
  have h1 : gI a b ∣ a := Int.gcd_dvd_left ..
  have h2 : gI a b ∣ b := Int.gcd_dvd_right ..
  exact ⟨Int.mul_tdiv_cancel' h1, Int.mul_tdiv_cancel' h2⟩
theorem u_bd {A : Mem} (hR : RR A) {n : Nat} (hn : n ≤ 3) (h6 : 1 ≤ A 7 6) : 1 ≤ A 7 6 * 60 ^ n ∧ A 7 6 * 60 ^ n ≤ 85536000 := by
  have h1 := tot_bd hR.1
  have h2 := p60 hn
  refine ⟨Int.mul_pos (by omega) (by omega), ?_⟩
  have : A 7 6 * 60 ^ n ≤ 396 * 216000 := Int.mul_le_mul h1.2 h2.1 (by omega) (by omega)
  omega
theorem sp_M_findSet {d : Nat} {A σ : Mem} {Q : Int → Mem → Prop} (hR : RR A) (ho : 1 ≤ A 7 2) (h6 : 1 ≤ A 7 6) (hE : Eqv A σ) {x : Nat} {lI : Int} {less : Bool} (hlI : (lI = 0 ∧ less = false) ∨ (¬ lI = 0 ∧ less = true)) (hx : x < 2 ^ tsN A) (hp : pc x ≤ 3) (hQ : ∀ σ1, HF σ σ1 → isV (σ1 49 50) (σ1 49 51) (vS A less x) (A 7 6 * 216000) → σ1 49 51 ≤ 85536000 → -33872256000 ≤ σ1 49 50 ∧ σ1 49 50 ≤ 33872256000 → Q 0 σ1) : wp (d + 4) m_M_findSet [.inr (.inr 49), .inl (x : Int), .inl lI] σ Q := by
  have hT := tsE hR
  have hx64 : x < 64 := Nat.lt_of_lt_of_le hx (p2_64 hT.2.1)
  have hTp := pcK_T hT.2.1 hx
  have hok := lsK_ok hR (x := x) (Nat.le_refl (tsN A))
  have hlen : (lsK A x (tsN A)).length ≤ 3 := by rw [lsK_len, hTp]; exact hp
  have hcs := csK_bd hR (x := x) (Nat.le_refl (tsN A))
  rw [hTp] at hcs
  refine e_M_findSet (sp_M_hearSet hR hE hx hp (fun s2 hF2 h48 h76 => ?_))
  have h6b := tot_bd hR.1
  have ub := u_bd hR hlen h6
  have ub3 := u_bd hR (n := 3) (by decide) h6
  have p3 := p60 hlen
  rw [h48]
  refine sp_M_power hlen (sp_M_allBefore hR.1 (hF2.eqv hE) ?_)
  rw [Int.mul_comm (60 ^ _) (A 7 6), w64_id (x := A 7 6 * 60 ^ (lsK A x (tsN A)).length) (by omega) (by omega)]
  obtain ⟨B, hB⟩ : ∃ B, B = A 7 6 * 60 ^ (lsK A x (tsN A)).length := ⟨_, rfl⟩
  rw [← hB] at ub ⊢
  have hF3 : HF σ (mset s2 49 51 B) := fun k i a b c => by rw [ms_ne (by omega)]; exact hF2 k i a b c
  have gb := gath_abs9 hR ho (j := 10) (p := 11) (Or.inr (Or.inl rfl)) hok
  rw [← hB] at gb
  refine sp_M_gotTogether (h := fun i => (lsK A x (tsN A)).getD i 0) (n := (lsK A x (tsN A)).length) (wi := 1) (p := 11) hR ho (hF3.eqv hE) rfl (by omega) rfl hlen (fun i hi => ?_) (fun i hi => ?_) (by rw [ms_ni (by decide)]; exact h48) (fun s8 hF8 => ?_)
  · exact hok _ (List.mem_of_getElem? (getD_ok hi))
  · rw [ms_nk (by decide)]
    exact h76 i _ (getD_ok hi)
  rw [hl_list hlen]
  obtain ⟨G, hG⟩ : ∃ G, G = gath A 10 11 (lsK A x (tsN A)) (fun t => A 9 t) := ⟨_, rfl⟩
  rw [← hG] at gb ⊢
  have hF4 : HF σ s8 := hF3.trans hF8.hf
  have e51 : s8 49 51 = B := by rw [hF8 49 51 (by decide), ms_eq]
  -- the end: above G - K, below B
  have fin : ∀ (K : Int) (τ : Mem), HF σ τ → τ 49 51 = B → 0 ≤ K ∧ K ≤ 297 * B → vS A less x = (G - K) * 60 ^ (3 - (lsK A x (tsN A)).length) → wp (d + 3) m_M_divisor [.inr (.inl ((mset τ 49 50 (w64 (G - K))) 49 50)), .inr (.inl ((mset τ 49 50 (w64 (G - K))) 49 51))] (mset τ 49 50 (w64 (G - K))) (fun (r9 : Int) (s10 : Mem) => (¬ r9 = 0) ∧ (¬ r9 = 0) ∧ Q 0 (mset (mset s10 49 50 (w64 (Int.tdiv (s10 49 50) r9))) 49 51 (w64 (Int.tdiv ((mset s10 49 50 (w64 (Int.tdiv (s10 49 50) r9))) 49 51) r9)))) := by
    intro K τ hFt h51 hK hV
    rw [w64_id (x := G - K) (by omega) (by omega), ms_eq, ms_ni (by decide), h51]
    have hg := gI_pos (a := G - K) (b := B) (by omega)
    have t1 := tdiv_bd (a := G - K) (L := 33872256000) hg (by omega)
    have t2 := tdiv_bd (a := B) (L := 85536000) hg (by omega)
    have dv := gI_dvd (a := G - K) (b := B)
    refine sp_M_dv (by omega) (by omega) ⟨by omega, by omega, ?_⟩
    simp (discharger := first | decide | omega) only [ms_eq, ms_ni, h51, w64_id]
    have z1 : 0 < B.tdiv (gI (G - K) B) := by
      refine Classical.byContradiction (fun z => ?_)
      have h0 : B.tdiv (gI (G - K) B) = 0 := by
        have := Int.tdiv_nonneg (a := B) (b := gI (G - K) B) (by omega) (by omega)
        omega
      have := dv.2
      rw [h0, Int.mul_zero] at this
      omega
    refine hQ _ (fun k i a b c => ?_) ⟨?_, ?_⟩ ?_ ?_
    · rw [ms_ne (by omega), ms_ne (by omega), ms_ne (by omega)]
      exact hFt k i a b c
    · rw [ms_eq]; exact z1
    · rw [ms_ni (by decide), ms_eq, ms_eq, hV]
      have hU : A 7 6 * 216000 = B * 60 ^ (3 - (lsK A x (tsN A)).length) := by
        rw [hB, Int.mul_assoc, ← Int.pow_add, show (lsK A x (tsN A)).length + (3 - (lsK A x (tsN A)).length) = 3 by omega]
        rfl
      rw [hU]
      have d1 := dv.1
      have d2 := dv.2
      have hgp : gI (G - K) B ≠ 0 := by omega
      refine Int.eq_of_mul_eq_mul_left hgp ?_
      generalize gI (G - K) B = g at *
      generalize (G - K).tdiv g = a at *
      generalize B.tdiv g = b at *
      generalize (60 : Int) ^ (3 - (lsK A x (tsN A)).length) = c at *
      generalize G - K = D at *
      subst d1 d2
      grind
    · rw [ms_eq]; omega
    · rw [ms_ni (by decide), ms_eq]; omega
  have pl : (60 : Int) ^ (lsK A x (tsN A)).length * 60 ^ (3 - (lsK A x (tsN A)).length) = 216000 := by
    rw [← Int.pow_add, show (lsK A x (tsN A)).length + (3 - (lsK A x (tsN A)).length) = 3 by omega]
    rfl
  refine ⟨fun h => ?_, fun h => ?_⟩
  · have hl : less = false := by
      rcases hlI with h1 | h1
      · exact h1.2
      · exact absurd h h1.1
    refine fin 0 s8 hF4 e51 (by omega) ?_
    unfold vS brg
    rw [hl, if_neg (by decide), Int.sub_zero, Int.sub_zero, hG]
  · have hl : less = true := by
      rcases hlI with h1 | h1
      · exact absurd h1.1 h
      · exact h1.2
    have kb : 0 ≤ csK A x (tsN A) * B ∧ csK A x (tsN A) * B ≤ 297 * B := by
      refine ⟨Int.mul_nonneg hcs.1 (by omega), Int.mul_le_mul_of_nonneg_right (by omega) (by omega)⟩
    refine sp_M_costOf hR (hF4.eqv hE) hx64 ?_
    rw [e51, w64_id (x := csK A x (tsN A) * B) (by omega) (by omega)]
    refine fin _ s8 hF4 e51 kb ?_
    unfold vS brg
    rw [hl, if_pos rfl, ← hG, hB, ← pl]
    grind
