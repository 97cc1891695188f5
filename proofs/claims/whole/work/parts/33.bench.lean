-- PURE, 4: the bench: weights laid, a sign heard, what looks bring
def sg (A : Mem) (l : Nat) : Nat := (A 13 l).toNat
def pt (A : Mem) (l t s : Nat) : Int := A 14 (24 * l + 6 * t + s)
/-- all but the weights from place n on is as it was -/
def BF (n : Nat) (σ σ1 : Mem) : Prop := (∀ k i, k ≠ 36 → σ1 k i = σ k i) ∧ ∀ i, i < n → σ1 36 i = σ 36 i
theorem BF.rfl {n : Nat} {σ : Mem} : BF n σ σ := ⟨fun _ _ _ => Eq.refl _, fun _ _ => Eq.refl _⟩
theorem BF.trans {n : Nat} {σ σ1 σ2 : Mem} (h1 : BF n σ σ1) (h2 : BF n σ1 σ2) : BF n σ σ2 := ⟨fun k i h => (h2.1 k i h).trans (h1.1 k i h), fun i h => (h2.2 i h).trans (h1.2 i h)⟩
theorem BF.le {n k : Nat} {σ σ1 : Mem} (h : BF n σ σ1) (hk : k ≤ n) : BF k σ σ1 := ⟨h.1, fun i hi => h.2 i (by omega)⟩
theorem BF.set {n i : Nat} {σ : Mem} {x : Int} (h : n ≤ i) : BF n σ (mset σ 36 i x) := ⟨fun k j hk => ms_ne (Or.inl hk), fun j hj => ms_ne (Or.inr (by omega))⟩
theorem BF.eqv {n : Nat} {A σ σ1 : Mem} (h : BF n σ σ1) (hE : Eqv A σ) : Eqv A σ1 := fun k i hl => by
  by_cases hk : k = 36
  · subst hk
    cases hl
  · rw [h.1 k i hk]
    exact hE k i hl
/-- weights after n looks -/
def wB (A : Mem) (n : Nat) (w : Nat → Int) : Prop := ∀ t, t < tN A → 0 ≤ w t ∧ w t ≤ 99 * 60 ^ n
theorem p60 {n : Nat} (h : n ≤ 3) : (60 : Int) ^ n ≤ 216000 ∧ (1 : Int) ≤ 60 ^ n := by
  match n, h with
  | 0, _ => decide
  | 1, _ => decide
  | 2, _ => decide
  | 3, _ => decide
theorem wB.bd {A : Mem} {n : Nat} {w : Nat → Int} (h : wB A n w) (hn : n ≤ 3) : bdW A w := fun t ht => by
  have h1 := h t ht
  have h2 := p60 hn
  constructor <;> omega
theorem SR.pr {ms : Nat → Nat → Int} {A : Mem} (h : SR 7 ms A) {t : Nat} (ht : (t : Int) < A 7 1) : ms 2 t = A 9 t ∧ 1 ≤ A 9 t ∧ A 9 t ≤ 99 := (h.2.2.2.1 t ht).2.2.2
theorem SR.sgn {ms : Nat → Nat → Int} {A : Mem} (h : SR 7 ms A) {l : Nat} (hl : (l : Int) < A 7 10) : ms 4 l = A 13 l ∧ 1 ≤ A 13 l ∧ A 13 l ≤ 6 := h.2.2.2.2.2.2.1 l hl
theorem SR.prt {ms : Nat → Nat → Int} {A : Mem} (h : SR 7 ms A) {l t s : Nat} (hl : (l : Int) < A 7 10) (ht : (t : Int) < A 7 1) (hs : (s : Int) < A 13 l) : ms 5 (24 * l + 6 * t + s) = pt A l t s ∧ 0 ≤ pt A l t s ∧ pt A l t s ≤ 60 := h.2.2.2.2.2.2.2.1 l t s hl ht hs
theorem SR.lk {b : Nat} {ms : Nat → Nat → Int} {A : Mem} (h : SR b ms A) : 0 ≤ A b 10 ∧ A b 10 ≤ 12 := ⟨h.2.1.2.2.2.2.2.1, h.2.1.2.2.2.2.2.2.1⟩
theorem wB.pr {ms : Nat → Nat → Int} {A : Mem} (h : SR 7 ms A) : wB A 0 (fun t => A 9 t) := fun t ht => by
  have := h.pr (lt_tN ht)
  simp only [Int.pow_zero]
  omega
theorem wB.st {ms : Nat → Nat → Int} {A : Mem} (h : SR 7 ms A) {n l s : Nat} {w : Nat → Int} (hw : wB A n w) (hl : (l : Int) < A 7 10) (hs : (s : Int) < A 13 l) : wB A (n + 1) (fun t => w t * pt A l t s) := fun t ht => by
  have h1 := h.prt hl (lt_tN ht) hs
  have h2 := hw t ht
  refine ⟨Int.mul_nonneg h2.1 h1.2.1, ?_⟩
  have h3 : w t * pt A l t s ≤ (99 * 60 ^ n) * 60 := Int.mul_le_mul h2.2 h1.2.2 h1.2.1 (Int.le_trans h2.1 h2.2)
  have e : (60 : Int) ^ (n + 1) = 60 ^ n * 60 := Int.pow_succ 60 n
  show w t * pt A l t s ≤ 99 * 60 ^ (n + 1)
  rw [e, ← Int.mul_assoc]
  exact h3
set_option maxHeartbeats 1000000 in
theorem sp_B_layBefore {d : Nat} {A σ : Mem} {Q : Int → Mem → Prop} {ms : Nat → Nat → Int} (hR : SR 7 ms A) (hE : Eqv A σ) (hQ : ∀ σ1, BF 0 σ σ1 → (∀ t, t < tN A → σ1 36 t = A 9 t) → Q 0 σ1) : wp (d + 1) m_B_layBefore [.inr (.inr 35)] σ Q := by
  have hT := hR.tr
  have ht3 : tN A ≤ 4 := by show (A 7 1).toNat ≤ 4; omega
  have loop : ∀ k n : Nat, n + k = tN A → ∀ σ1, BF 0 σ σ1 → (∀ t, t < n → σ1 36 t = A 9 t) → K_B_layBefore_2 d Q (n : Int) σ1 := by
    intro k
    induction k with
    | zero =>
      intro n hn σ1 h1 h2
      have e : σ1 7 1 = A 7 1 := h1.eqv hE 7 1 rfl
      refine e_B_layBefore_2 ⟨fun h => ?_, fun _ => hQ σ1 h1 (fun t ht => h2 t (by omega))⟩
      rw [e] at h
      exact absurd hn (by show ¬ n + 0 = (A 7 1).toNat; omega)
    | succ k ih =>
      intro n hn σ1 h1 h2
      have e : σ1 7 1 = A 7 1 := h1.eqv hE 7 1 rfl
      have hn2 : n < tN A := by omega
      refine e_B_layBefore_2 ⟨fun _ => ?_, fun h => ?_⟩
      · have e1 : w32 ((n : Int) + 1) = ((n + 1 : Nat) : Int) := w32_eq (by omega) (by omega)
        rw [e1, Int.toNat_natCast, h1.eqv hE 9 n rfl]
        refine ⟨⟨by omega, by omega⟩, ⟨by omega, by omega⟩, ih (n + 1) (by omega) _ (h1.trans (BF.set (Nat.zero_le _))) (fun t ht => ?_)⟩
        by_cases hx : t = n
        · subst hx; exact ms_eq
        · rw [ms_ne (Or.inr hx)]; exact h2 t (by omega)
      · rw [e] at h
        have := lt_tN hn2
        omega
  exact e_B_layBefore (loop (tN A) 0 (by omega) σ BF.rfl (fun t ht => absurd ht (by omega)))
theorem sp_S_partOf {d : Nat} {A σ : Mem} {Q : Int → Mem → Prop} (hE : Eqv A σ) {l t s : Nat} (hl : l < 12) (ht : t < 4) (hs : s < 6) (hQ : Q (pt A l t s) σ) : wp (d + 1) m_S_partOf [.inr (.inr 7), .inl (l : Int), .inl (t : Int), .inl (s : Int)] σ Q := by
  have e1 : w32 ((l : Int) * 24) = ((24 * l : Nat) : Int) := w32_eq (by omega) (by omega)
  have e2 : w32 ((t : Int) * 6) = ((6 * t : Nat) : Int) := w32_eq (by omega) (by omega)
  have e3 : w32 (((24 * l : Nat) : Int) + ((6 * t : Nat) : Int)) = ((24 * l + 6 * t : Nat) : Int) := w32_eq (by omega) (by omega)
  have e4 : w32 (((24 * l + 6 * t : Nat) : Int) + (s : Int)) = ((24 * l + 6 * t + s : Nat) : Int) := w32_eq (by omega) (by omega)
  refine e_S_partOf ?_
  rw [e1, e2, e3, e4, Int.toNat_natCast, hE 14 _ rfl]
  exact ⟨⟨by omega, by omega⟩, hQ⟩
set_option maxHeartbeats 2000000 in
theorem sp_B_step {d : Nat} {A σ : Mem} {Q : Int → Mem → Prop} {ms : Nat → Nat → Int} (hR : SR 7 ms A) (hE : Eqv A σ) {lv l s n : Nat} (hlv : lv ≤ 2) (hl : (l : Int) < A 7 10) (hs : (s : Int) < A 13 l) {w : Nat → Int} (hn : n ≤ 2) (hb : wB A n w) (hw : ∀ t, t < tN A → σ 36 (4 * lv + t) = w t)
    (hQ : ∀ r σ1, BF (4 * (lv + 1)) σ σ1 → (∀ t, t < tN A → σ1 36 (4 * (lv + 1) + t) = w t * pt A l t s) → ((r = 0 ∧ ∀ t, t < tN A → w t * pt A l t s = 0) ∨ (r = 1 ∧ ∃ t, t < tN A ∧ ¬ w t * pt A l t s = 0)) → Q r σ1) : wp (d + 2) m_B_step [.inr (.inr 35), .inl (lv : Int), .inl (l : Int), .inl (s : Int)] σ Q := by
  have hT := hR.tr
  have hLk := hR.lk
  have hSg := hR.sgn hl
  have ht3 : tN A ≤ 4 := by show (A 7 1).toNat ≤ 4; omega
  have hb1 := hb.st hR hl hs
  have loop : ∀ k i : Nat, i + k = tN A → ∀ (r : Int) (σ1 : Mem), BF (4 * (lv + 1)) σ σ1 → (∀ t, t < i → σ1 36 (4 * (lv + 1) + t) = w t * pt A l t s) → ((r = 0 ∧ ∀ t, t < i → w t * pt A l t s = 0) ∨ (r = 1 ∧ ∃ t, t < i ∧ ¬ w t * pt A l t s = 0)) → K_B_step_17 (d + 1) Q (l : Int) (s : Int) ((4 * lv : Nat) : Int) ((4 * (lv + 1) : Nat) : Int) r (i : Int) σ1 := by
    intro k
    induction k with
    | zero =>
      intro i hi r σ1 h1 h2 h3
      have e : σ1 7 1 = A 7 1 := h1.eqv hE 7 1 rfl
      have hi2 : i = tN A := by omega
      refine e_B_step_17 ⟨fun h => ?_, fun _ => ⟨?_, hQ r σ1 h1 (fun t ht => h2 t (by omega)) (by rw [← hi2]; exact h3)⟩⟩
      · rw [e] at h
        exact absurd hi (by show ¬ i + 0 = (A 7 1).toNat; omega)
      · rcases h3 with h3 | h3
        · exact Or.inl h3.1
        · exact Or.inr h3.1
    | succ k ih =>
      intro i hi r σ1 h1 h2 h3
      have e : σ1 7 1 = A 7 1 := h1.eqv hE 7 1 rfl
      have hi2 : i < tN A := by omega
      refine e_B_step_17 ⟨fun _ => ?_, fun h => ?_⟩
      · have e1 : w32 (((4 * lv : Nat) : Int) + (i : Int)) = ((4 * lv + i : Nat) : Int) := w32_eq (by omega) (by omega)
        have e2 : w32 (((4 * (lv + 1) : Nat) : Int) + (i : Int)) = ((4 * (lv + 1) + i : Nat) : Int) := w32_eq (by omega) (by omega)
        have e3 : w32 ((i : Int) + 1) = ((i + 1 : Nat) : Int) := w32_eq (by omega) (by omega)
        rw [e1, e2, e3, Int.toNat_natCast, Int.toNat_natCast]
        have e4 : σ1 36 (4 * lv + i) = w i := by rw [h1.2 _ (by omega)]; exact hw i hi2
        rw [e4]
        refine ⟨⟨by omega, by omega⟩, sp_S_partOf (h1.eqv hE) (by omega) (by omega) (by omega) ?_⟩
        have hbi : 0 ≤ w i * pt A l i s ∧ w i * pt A l i s ≤ 99 * 60 ^ (n + 1) := hb1 i hi2
        have hp3 := p60 (n := n + 1) (by omega)
        have e5 : w64 (w i * pt A l i s) = w i * pt A l i s := w64_id (by omega) (by omega)
        rw [e5]
        have hF : BF (4 * (lv + 1)) σ (mset σ1 36 (4 * (lv + 1) + i) (w i * pt A l i s)) := h1.trans (BF.set (by omega))
        have hV : ∀ t, t < i + 1 → mset σ1 36 (4 * (lv + 1) + i) (w i * pt A l i s) 36 (4 * (lv + 1) + t) = w t * pt A l t s := by
          intro t ht
          by_cases hx : t = i
          · subst hx; exact ms_eq
          · rw [ms_ne (Or.inr (by omega))]; exact h2 t (by omega)
        refine ⟨⟨by omega, by omega⟩, fun hr0 => ⟨fun hz => ?_, fun hz => ?_⟩, fun hr0 => ?_⟩
        · refine ih (i + 1) (by omega) 0 _ hF hV (Or.inl ⟨rfl, fun t ht => ?_⟩)
          by_cases hx : t = i
          · subst hx; exact hz
          · rcases h3 with h3 | h3
            · exact h3.2 t (by omega)
            · rw [h3.1] at hr0; cases hr0
        · exact ih (i + 1) (by omega) 1 _ hF hV (Or.inr ⟨rfl, i, by omega, hz⟩)
        · refine ih (i + 1) (by omega) 1 _ hF hV (Or.inr ⟨rfl, ?_⟩)
          rcases h3 with h3 | h3
          · exact absurd h3.1 hr0
          · obtain ⟨t, ht, hz⟩ := h3.2
            exact ⟨t, by omega, hz⟩
      · rw [e] at h
        have := lt_tN hi2
        omega
  refine e_B_step ?_
  have e1 : w32 ((lv : Int) * 4) = ((4 * lv : Nat) : Int) := w32_eq (by omega) (by omega)
  rw [e1]
  have e2 : w32 (((4 * lv : Nat) : Int) + 4) = ((4 * (lv + 1) : Nat) : Int) := w32_eq (by omega) (by omega)
  rw [e2]
  exact loop (tN A) 0 (by omega) 0 σ BF.rfl (fun t ht => absurd ht (by omega)) (Or.inl ⟨rfl, fun t ht => absurd ht (by omega)⟩)

/-- what pay p comes to, in all, if the judge j hears the looks ls at weights w -/
def gath (A : Mem) (j p : Nat) : List Nat → (Nat → Int) → Int
  | [], w => dot A w p (act A w j)
  | l :: ls, w => sumN (sg A l) (fun s => gath A j p ls (fun t => w t * pt A l t s))
theorem dot_congr {A : Mem} {w w1 : Nat → Int} {p a : Nat} (h : ∀ t, t < tN A → w t = w1 t) : dot A w p a = dot A w1 p a := sumN_congr (fun t ht => by rw [h t ht])
theorem act_congr {A : Mem} {w w1 : Nat → Int} {j : Nat} (h : ∀ t, t < tN A → w t = w1 t) : act A w j = act A w1 j := by
  unfold act
  have e1 : (fun a => dot A w j a) = (fun a => dot A w1 j a) := by funext a; exact dot_congr h
  have e2 : (fun a => dot A w 11 a) = (fun a => dot A w1 11 a) := by funext a; exact dot_congr h
  rw [e1, e2]
theorem gath_congr {A : Mem} {j p : Nat} : ∀ {ls : List Nat} {w w1 : Nat → Int}, (∀ t, t < tN A → w t = w1 t) → gath A j p ls w = gath A j p ls w1
  | [], w, w1, h => by
    show dot A w p (act A w j) = dot A w1 p (act A w1 j)
    rw [act_congr h, dot_congr h]
  | l :: ls, w, w1, h => sumN_congr (fun s _ => gath_congr (fun t ht => by rw [h t ht]))
theorem gath_0 {A : Mem} {j p : Nat} : ∀ {ls : List Nat} {w : Nat → Int}, (∀ t, t < tN A → w t = 0) → gath A j p ls w = 0
  | [], w, h => sumN_z (fun t ht => by rw [h t ht, Int.zero_mul])
  | l :: ls, w, h => sumN_z (fun s _ => gath_0 (fun t ht => by rw [h t ht, Int.zero_mul]))
def lksOK (A : Mem) (ls : List Nat) : Prop := ∀ l ∈ ls, (l : Int) < A 7 10
theorem gath_bd {ms : Nat → Nat → Int} {A : Mem} (h : SR 7 ms A) (ho : 1 ≤ A 7 2) {j p : Nat} (hp : isPay p) : ∀ {ls : List Nat} {n : Nat} {w : Nat → Int}, lksOK A ls → n + ls.length ≤ 3 → wB A n w → -(396000000000 * 6 ^ ls.length) ≤ gath A j p ls w ∧ gath A j p ls w ≤ 396000000000 * 6 ^ ls.length
  | [], n, w, _, hn, hw => by
    have := dot_bd h (hw.bd (by simp at hn; omega)) hp (act_lt h ho (w := w) (j := j)) (tN A) (Nat.le_refl _)
    simp only [List.length_nil, Int.pow_zero, Int.mul_one]
    exact this
  | l :: ls, n, w, hl, hn, hw => by
    have hl1 := hl l List.mem_cons_self
    have hs := h.sgn hl1
    have hlen : n + 1 + ls.length ≤ 3 := by simp at hn; omega
    have h1 := sumN_bd (n := sg A l) (f := fun s => gath A j p ls (fun t => w t * pt A l t s)) (B := 396000000000 * 6 ^ ls.length) (fun s hs1 => by
      have hs2 : (s : Int) < A 13 l := by
        have : s < (A 13 l).toNat := hs1
        omega
      exact gath_bd h ho hp (fun x hx => hl x (List.mem_cons_of_mem _ hx)) hlen (hw.st h hl1 hs2))
    have hsg : (sg A l : Int) ≤ 6 := by show ((A 13 l).toNat : Int) ≤ 6; omega
    have hpos : (0 : Int) ≤ 396000000000 * 6 ^ ls.length := Int.mul_nonneg (by decide) (Int.pow_nonneg (by decide))
    have h2 : (sg A l : Int) * (396000000000 * 6 ^ ls.length) ≤ 6 * (396000000000 * 6 ^ ls.length) := Int.mul_le_mul_of_nonneg_right hsg hpos
    have e : (396000000000 : Int) * 6 ^ (l :: ls).length = 6 * (396000000000 * 6 ^ ls.length) := by
      rw [List.length_cons, Int.pow_succ, Int.mul_comm (6 ^ ls.length) 6, ← Int.mul_assoc, Int.mul_comm 396000000000 6, Int.mul_assoc]
    rw [e]
    show _ ≤ sumN _ _ ∧ sumN _ _ ≤ _
    omega
theorem p6 {n : Nat} (h : n ≤ 3) : (6 : Int) ^ n ≤ 216 ∧ (1 : Int) ≤ 6 ^ n := by
  match n, h with
  | 0, _ => decide
  | 1, _ => decide
  | 2, _ => decide
  | 3, _ => decide
