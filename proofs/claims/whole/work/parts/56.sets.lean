-- PURE, 27: sets of tests
def pcK (x : Nat) : Nat → Nat
  | 0 => 0
  | k + 1 => pcK x k + (if x.testBit k then 1 else 0)
def pc (x : Nat) : Nat := pcK x 6
def onF : Nat → Nat → Nat
  | 0, _ => 0
  | n + 1, x => x % 2 + onF n (x / 2)
set_option maxRecDepth 10000 in
theorem on_fin : ∀ x : Fin 64, onF 6 x.val = pc x.val := by decide +kernel
def bcI (a0 : Int) : Int := andI (w32 ((w32 ((andI (w32 ((w32 ((andI (w32 (a0 - (andI (ushrI a0 1) 1431655765))) 858993459) + (andI (ushrI (w32 (a0 - (andI (ushrI a0 1) 1431655765))) 2) 858993459))) + (ushrI (w32 ((andI (w32 (a0 - (andI (ushrI a0 1) 1431655765))) 858993459) + (andI (ushrI (w32 (a0 - (andI (ushrI a0 1) 1431655765))) 2) 858993459))) 4))) 252645135) + (ushrI (andI (w32 ((w32 ((andI (w32 (a0 - (andI (ushrI a0 1) 1431655765))) 858993459) + (andI (ushrI (w32 (a0 - (andI (ushrI a0 1) 1431655765))) 2) 858993459))) + (ushrI (w32 ((andI (w32 (a0 - (andI (ushrI a0 1) 1431655765))) 858993459) + (andI (ushrI (w32 (a0 - (andI (ushrI a0 1) 1431655765))) 2) 858993459))) 4))) 252645135) 8))) + (ushrI (w32 ((andI (w32 ((w32 ((andI (w32 (a0 - (andI (ushrI a0 1) 1431655765))) 858993459) + (andI (ushrI (w32 (a0 - (andI (ushrI a0 1) 1431655765))) 2) 858993459))) + (ushrI (w32 ((andI (w32 (a0 - (andI (ushrI a0 1) 1431655765))) 858993459) + (andI (ushrI (w32 (a0 - (andI (ushrI a0 1) 1431655765))) 2) 858993459))) 4))) 252645135) + (ushrI (andI (w32 ((w32 ((andI (w32 (a0 - (andI (ushrI a0 1) 1431655765))) 858993459) + (andI (ushrI (w32 (a0 - (andI (ushrI a0 1) 1431655765))) 2) 858993459))) + (ushrI (w32 ((andI (w32 (a0 - (andI (ushrI a0 1) 1431655765))) 858993459) + (andI (ushrI (w32 (a0 - (andI (ushrI a0 1) 1431655765))) 2) 858993459))) 4))) 252645135) 8))) 16))) 63
set_option maxRecDepth 10000 in
theorem bc_fin : ∀ x : Fin 64, bcI (x.val : Int) = ((pc x.val : Nat) : Int) := by decide +kernel
theorem sp_bitCount {d : Nat} {σ : Mem} {Q : Int → Mem → Prop} {x : Nat} (hx : x < 64) (hQ : Q ((pc x : Nat) : Int) σ) : wp (d + 1) m_J_bitCountI [.inl (x : Int)] σ Q := by
  refine e_J_bitCountI ?_
  have e := bc_fin ⟨x, hx⟩
  have e2 : bcI (x : Int) = ((pc x : Nat) : Int) := e
  show Q (bcI (x : Int)) σ
  rw [e2]
  exact hQ
theorem sp_M_ones {d : Nat} {σ : Mem} {Q : Int → Mem → Prop} {x : Nat} (hx : x < 64) (hQ : Q ((pc x : Nat) : Int) σ) : wp (d + 1) m_M_ones [.inl (x : Int)] σ Q := by
  refine e_M_ones ?_
  have loop : ∀ n c x : Nat, x < 2 ^ n → n ≤ 6 → c + n ≤ 100 → Q ((c + onF n x : Nat) : Int) σ → K_M_ones_4 d Q (c : Int) (x : Int) σ := by
    intro n
    induction n with
    | zero =>
      intro c x hx _ _ hq
      have : x = 0 := by simpa using hx
      subst this
      exact e_M_ones_4 ⟨fun h => by omega, fun _ => hq⟩
    | succ n ih =>
      intro c x hx hn hc hq
      by_cases e : x = 0
      · subst e
        have z : ∀ n, onF n 0 = 0 := by
          intro n
          induction n with
          | zero => rfl
          | succ n ih => show 0 % 2 + onF n (0 / 2) = 0; rw [Nat.zero_div, ih]
        rw [z] at hq
        exact e_M_ones_4 ⟨fun h => by omega, fun _ => hq⟩
      · refine e_M_ones_4 ⟨fun _ => ?_, fun h => by omega⟩
        have e2 : Int.tmod (x : Int) 2 = ((x % 2 : Nat) : Int) := by rw [show (2 : Int) = ((2 : Nat) : Int) from rfl, ← Int.ofNat_tmod]
        have e3 : Int.tdiv (x : Int) 2 = ((x / 2 : Nat) : Int) := by rw [show (2 : Int) = ((2 : Nat) : Int) from rfl, ← Int.ofNat_tdiv]
        have hp := Nat.pow_le_pow_right (n := 2) (by decide) hn
        have p7 : (2 : Nat) ^ 6 = 64 := rfl
        have hx64 : x < 64 := by omega
        rw [e2, e3, w32_eq (n := x / 2) rfl (by omega), w32_eq (n := c + x % 2) (by omega) (by omega)]
        refine ih (c + x % 2) (x / 2) ?_ (by omega) ?_ ?_
        · rw [Nat.pow_succ] at hx
          omega
        · omega
        · have : onF (n + 1) x = x % 2 + onF n (x / 2) := rfl
          rw [this, ← Nat.add_assoc] at hq
          exact hq
  have h6 := on_fin ⟨x, hx⟩
  have h7 : onF 6 x = pc x := h6
  refine loop 6 0 x hx (by decide) (by decide) ?_
  rw [h7, Nat.zero_add]
  exact hQ
/-- looks of the tests below k of a set -/
def lsK (A : Mem) (x : Nat) : Nat → List Nat
  | 0 => []
  | k + 1 => if x.testBit k then lsK A x k ++ [(A 15 k).toNat] else lsK A x k
def csK (A : Mem) (x : Nat) : Nat → Int
  | 0 => 0
  | k + 1 => csK A x k + (if x.testBit k then A 16 k else 0)
abbrev tsN (A : Mem) : Nat := (A 7 13).toNat
theorem lsK_len {A : Mem} {x : Nat} : ∀ {k : Nat}, (lsK A x k).length = pcK x k
  | 0 => rfl
  | k + 1 => by
    unfold lsK pcK
    split
    · rw [List.length_append, lsK_len]
      rfl
    · rw [lsK_len, Nat.add_zero]
theorem pcK_mono {x k m : Nat} (h : k ≤ m) : pcK x k ≤ pcK x m := by
  induction h with
  | refl => exact Nat.le_refl _
  | step _ ih => exact Nat.le_trans ih (Nat.le_add_right _ _)
theorem pcK_T {x T : Nat} (hT : T ≤ 6) (hx : x < 2 ^ T) : pcK x T = pc x := by
  have : ∀ m, pcK x (T + m) = pcK x T := by
    intro m
    induction m with
    | zero => rfl
    | succ m ih =>
      show pcK x (T + m) + (if x.testBit (T + m) then 1 else 0) = pcK x T
      rw [Nat.testBit_lt_two_pow (Nat.lt_of_lt_of_le hx (Nat.pow_le_pow_right (by decide) (by omega))), ih]
      rfl
  have h := this (6 - T)
  rw [show T + (6 - T) = 6 by omega] at h
  exact h.symm
theorem tsR {A : Mem} (hR : RR A) {i : Nat} (hi : i < tsN A) : A 55 i = A 15 i ∧ 0 ≤ A 15 i ∧ A 15 i < A 7 10 ∧ A 56 i = A 16 i ∧ 0 ≤ A 16 i ∧ A 16 i ≤ 99 := by
  have hi2 : i < (A 7 13).toNat := hi
  exact hR.1.2.2.2.2.2.2.2.2.2.1 i (by omega)
theorem lsK_ok {A : Mem} (hR : RR A) {x : Nat} : ∀ {k : Nat}, k ≤ tsN A → lksOK A (lsK A x k)
  | 0, _ => none_lk
  | k + 1, h => by
    have ih := lsK_ok hR (x := x) (k := k) (by omega)
    have ht := tsR hR (i := k) (by omega)
    unfold lsK
    split
    · intro l hl
      rcases List.mem_append.mp hl with h1 | h1
      · exact ih l h1
      · simp at h1
        rw [h1]
        omega
    · exact ih
theorem csK_bd {A : Mem} (hR : RR A) {x : Nat} : ∀ {k : Nat}, k ≤ tsN A → 0 ≤ csK A x k ∧ csK A x k ≤ 99 * (pcK x k : Int)
  | 0, _ => ⟨Int.le_refl _, Int.le_refl _⟩
  | k + 1, h => by
    have ih := csK_bd hR (x := x) (k := k) (by omega)
    have ht := tsR hR (i := k) (by omega)
    unfold csK pcK
    split <;> omega
theorem tsE {A : Mem} (hR : RR A) : A 7 13 = ((tsN A : Nat) : Int) ∧ tsN A ≤ 6 ∧ A 49 9 = ((tsN A : Nat) : Int) := by
  have sc := hR.sc
  refine ⟨?_, ?_, ?_⟩
  · show A 7 13 = ((A 7 13).toNat : Int); omega
  · show (A 7 13).toNat ≤ 6; omega
  · show A 49 9 = ((A 7 13).toNat : Int); omega
theorem sp_B_attendTest {d : Nat} {A σ : Mem} {Q : Int → Mem → Prop} (hR : RR A) (hE : Eqv A σ) {ls : List Nat} {i : Nat} (hi : i < tsN A) (hc : chainR σ ls) (hn : ls.length < 3) (hQ : ∀ σ1, XF σ σ1 → chainR σ1 (ls ++ [(A 15 i).toNat]) → (∀ j, j < ls.length → σ1 38 j = σ 38 j) → σ1 38 ls.length = A 16 i → Q 0 σ1) : wp (d + 2) m_B_attendTest [.inr (.inr 35), .inl (i : Int)] σ Q := by
  have ht := tsR hR hi
  have h6 := tsE hR
  refine e_B_attendTest ?_
  rw [Int.toNat_natCast, hE 15 i rfl, hE 16 i rfl]
  refine ⟨⟨by omega, by omega⟩, ⟨by omega, by omega⟩, ?_⟩
  have e : A 15 i = (((A 15 i).toNat : Nat) : Int) := by omega
  rw [e]
  exact sp_B_attend hc hn hQ
theorem sp_K_bringsOf {d : Nat} {A σ : Mem} {Q : Int → Mem → Prop} (hR : RR A) (ho : 1 ≤ A 7 2) (hE : Eqv A σ) {x : Nat} (hx : x < 2 ^ tsN A) (hp : pc x ≤ 3) (hQ : ∀ σ1, XF σ σ1 → Q (brg A 10 11 (lsK A x (tsN A))) σ1) : wp (d + 8) m_K_bringsOf [.inr (.inr 45), .inl (x : Int)] σ Q := by
  have h6 := tsE hR
  have hx64 : x < 64 := Nat.lt_of_lt_of_le hx (p2_64 h6.2.1)
  have hT := pcK_T h6.2.1 hx
  refine e_K_bringsOf (sp_B_attendNone (fun σ1 hF hc => ?_))
  refine upto (n := tsN A) (P := fun i => ∀ σ1, XF σ σ1 → chainR σ1 (lsK A x i) → K_K_bringsOf_9 (d + 7) Q (x : Int) ((i : Nat) : Int) σ1) (fun σ1 hF hc => ?_) (fun i hi ih σ1 hF hc => ?_) σ1 hF hc
  · refine e_K_bringsOf_9 ⟨fun h => by rw [hF.eqv hE 7 13 rfl] at h; omega, fun _ => ?_⟩
    refine sp_B_brings hR.1 (hF.eqv hE) ho (Or.inl rfl) (Or.inr (Or.inl rfl)) (lsK_ok hR (Nat.le_refl _)) (by rw [lsK_len, hT]; exact hp) hc (fun σ2 hB => hQ σ2 (hF.trans hB.xf))
  · have e1 : w32 ((i : Int) + 1) = ((i + 1 : Nat) : Int) := w32_eq (by omega) (by omega)
    refine e_K_bringsOf_9 ⟨fun _ => ?_, fun h => by rw [hF.eqv hE 7 13 rfl] at h; omega⟩
    rw [bit_eq hx64 (by omega), e1]
    refine ⟨fun h => ?_, fun h => ?_⟩
    · have hb := bit0 h
      refine ih σ1 hF ?_
      unfold lsK
      rw [hb]
      exact hc
    · have hb := bit1 h
      have hlt : pcK x i < 3 := by
        have h1 : pcK x (i + 1) ≤ pcK x (tsN A) := pcK_mono (by omega)
        have h2 : pcK x (i + 1) = pcK x i + 1 := by
          show pcK x i + (if x.testBit i then 1 else 0) = _
          rw [hb]; rfl
        omega
      refine sp_B_attendTest hR (hF.eqv hE) hi hc (by rw [lsK_len]; exact hlt) (fun σ2 hF2 hc2 _ _ => ih σ2 (hF.trans hF2) ?_)
      unfold lsK
      rw [hb]
      exact hc2
theorem sp_K_costOf {d : Nat} {A σ : Mem} {Q : Int → Mem → Prop} (hR : RR A) (hE : Eqv A σ) {x : Nat} (hx : x < 64) (hQ : Q (csK A x (tsN A)) σ) : wp (d + 1) m_K_costOf [.inr (.inr 45), .inl (x : Int)] σ Q := by
  have h6 := tsE hR
  have e13 : σ 7 13 = ((tsN A : Nat) : Int) := by rw [hE 7 13 rfl]; exact h6.1
  refine e_K_costOf ?_
  refine upto (n := tsN A) (P := fun i => K_K_costOf_4 d Q (x : Int) (csK A x i) ((i : Nat) : Int) σ) ?_ (fun i hi ih => ?_)
  · exact e_K_costOf_4 ⟨fun h => by omega, fun _ => hQ⟩
  · have e1 : w32 ((i : Int) + 1) = ((i + 1 : Nat) : Int) := w32_eq (by omega) (by omega)
    have ht := tsR hR hi
    have b := csK_bd hR (x := x) (k := i) (by omega)
    have bp : pcK x i ≤ pcK x 6 := pcK_mono (by omega)
    have bp6 : ∀ k, pcK x k ≤ k := by
      intro k
      induction k with
      | zero => exact Nat.le_refl _
      | succ k ih => show pcK x k + (if x.testBit k then 1 else 0) ≤ k + 1; split <;> omega
    have bp7 := bp6 6
    refine e_K_costOf_4 ⟨fun _ => ?_, fun h => by omega⟩
    rw [bit_eq hx (by omega), e1, Int.toNat_natCast, hE 16 i rfl]
    refine ⟨fun h => ?_, fun h => ⟨⟨by omega, by omega⟩, ?_⟩⟩
    · have hb := bit0 h
      rw [w32_id (by omega) (by omega), Int.add_zero]
      unfold csK at ih
      rw [hb, if_neg (by decide), Int.add_zero] at ih
      exact ih
    · have hb := bit1 h
      rw [w32_id (by omega) (by omega)]
      unfold csK at ih
      rw [hb, if_pos rfl] at ih
      exact ih
theorem sp_M_costOf {d : Nat} {A σ : Mem} {Q : Int → Mem → Prop} (hR : RR A) (hE : Eqv A σ) {x : Nat} (hx : x < 64) (hQ : Q (csK A x (tsN A)) σ) : wp (d + 1) m_M_costOf [.inr (.inr 49), .inl (x : Int)] σ Q := by
  have h6 := tsE hR
  have e13 : σ 49 9 = ((tsN A : Nat) : Int) := by rw [hE 49 9 rfl]; exact h6.2.2
  refine e_M_costOf ?_
  refine upto (n := tsN A) (P := fun i => K_M_costOf_4 d Q (x : Int) (csK A x i) ((i : Nat) : Int) σ) ?_ (fun i hi ih => ?_)
  · exact e_M_costOf_4 ⟨fun h => by omega, fun _ => hQ⟩
  · have e1 : w32 ((i : Int) + 1) = ((i + 1 : Nat) : Int) := w32_eq (by omega) (by omega)
    have ht := tsR hR hi
    have b := csK_bd hR (x := x) (k := i) (by omega)
    have bp6 : ∀ k, pcK x k ≤ k := by
      intro k
      induction k with
      | zero => exact Nat.le_refl _
      | succ k ih => show pcK x k + (if x.testBit k then 1 else 0) ≤ k + 1; split <;> omega
    have bp7 := bp6 i
    refine e_M_costOf_4 ⟨fun _ => ⟨⟨by omega, by omega⟩, ?_⟩, fun h => by omega⟩
    rw [bit_eq hx (by omega), e1, Int.toNat_natCast, hE 56 i rfl, ht.2.2.2.1]
    unfold csK at ih
    cases hb : x.testBit i with
    | true =>
      rw [hb, if_pos rfl] at ih
      rw [if_pos rfl, Int.one_mul, w32_id (x := A 16 i) (by omega) (by omega), w32_id (by omega) (by omega)]
      exact ih
    | false =>
      rw [hb, if_neg (by decide), Int.add_zero] at ih
      rw [if_neg (by decide), Int.zero_mul, w32_id (x := 0) (by decide) (by decide), w32_id (by omega) (by omega), Int.add_zero]
      exact ih
/-- weighed anew: the reference's scratch for looks heard together -/
def HF (σ σ1 : Mem) : Prop := ∀ k i, k ≠ 67 → k ≠ 76 → ¬ (k = 49 ∧ (i = 48 ∨ i = 50 ∨ i = 51)) → σ1 k i = σ k i
theorem HF.id {σ : Mem} : HF σ σ := fun _ _ _ _ _ => rfl
theorem HF.trans {σ σ1 σ2 : Mem} (h1 : HF σ σ1) (h2 : HF σ1 σ2) : HF σ σ2 := fun k i a b c => (h2 k i a b c).trans (h1 k i a b c)
theorem MF.hf {σ σ1 : Mem} (h : MF σ σ1) : HF σ σ1 := fun k i a _ _ => h k i a
theorem HF.eqv {A σ σ1 : Mem} (h : HF σ σ1) (hE : Eqv A σ) : Eqv A σ1 := fun k i hl => by
  rw [h k i (live_x (o := 67) hl rfl) (live_x (o := 76) hl rfl) (fun z => ?_)]
  · exact hE k i hl
  · obtain ⟨rfl, h2⟩ := z
    rcases h2 with rfl | rfl | rfl <;> cases hl
theorem sp_M_hearSet {d : Nat} {A σ : Mem} {Q : Int → Mem → Prop} (hR : RR A) (hE : Eqv A σ) {x : Nat} (hx : x < 2 ^ tsN A) (hp : pc x ≤ 3) (hQ : ∀ σ1, HF σ σ1 → σ1 49 48 = ((lsK A x (tsN A)).length : Int) → (∀ i l : Nat, (lsK A x (tsN A))[i]? = some l → σ1 76 i = (l : Int)) → Q 0 σ1) : wp (d + 1) m_M_hearSet [.inr (.inr 49), .inl (x : Int)] σ Q := by
  have h6 := tsE hR
  have hx64 : x < 64 := Nat.lt_of_lt_of_le hx (p2_64 h6.2.1)
  have hT := pcK_T h6.2.1 hx
  refine e_M_hearSet ?_
  refine upto (n := tsN A) (P := fun i => ∀ σ1, HF σ σ1 → σ1 49 48 = ((lsK A x i).length : Int) → (∀ j l : Nat, (lsK A x i)[j]? = some l → σ1 76 j = (l : Int)) → K_M_hearSet_7 d Q (x : Int) ((i : Nat) : Int) σ1) (fun σ1 hF h1 h2 => ?_) (fun i hi ih σ1 hF h1 h2 => ?_) _ (fun k i a b c => ms_ne (by omega)) ms_eq (fun j l h => by simp [lsK] at h)
  · exact e_M_hearSet_7 ⟨fun h => by rw [hF.eqv hE 49 9 rfl] at h; omega, fun _ => hQ σ1 hF h1 h2⟩
  · have e1 : w32 ((i : Int) + 1) = ((i + 1 : Nat) : Int) := w32_eq (by omega) (by omega)
    have ht := tsR hR hi
    refine e_M_hearSet_7 ⟨fun _ => ?_, fun h => by rw [hF.eqv hE 49 9 rfl] at h; omega⟩
    rw [bit_eq hx64 (by omega), e1]
    cases hb : x.testBit i with
    | true =>
      have hlt : pcK x i < 3 := by
        have h1 : pcK x (i + 1) ≤ pcK x (tsN A) := pcK_mono (by omega)
        have h2 : pcK x (i + 1) = pcK x i + 1 := by
          show pcK x i + (if x.testBit i then 1 else 0) = _
          rw [hb]; rfl
        omega
      have hln := lsK_len (A := A) (x := x) (k := i)
      have eL : lsK A x (i + 1) = lsK A x i ++ [(A 15 i).toNat] := by
        show (if x.testBit i then lsK A x i ++ [(A 15 i).toNat] else lsK A x i) = _
        rw [hb]; rfl
      refine ⟨fun _ => ?_, fun h => absurd (if_pos rfl) h⟩
      have e55 : σ1 55 i = A 15 i := (hF.eqv hE 55 i rfl).trans ht.1
      simp (discharger := first | decide | omega) only [ms_eq, ms_nk, h1, Int.toNat_natCast, e55, w32_id]
      refine ⟨⟨by omega, by omega⟩, ⟨by omega, by omega⟩, ih _ (fun k j a b c => ?_) ?_ (fun j l hj => ?_)⟩
      · rw [ms_ne (by omega), ms_ne (by omega)]
        exact hF k j a b c
      · rw [ms_eq, eL, List.length_append]
        rfl
      · rw [ms_nk (by decide)]
        rw [eL] at hj
        by_cases e2 : j = (lsK A x i).length
        · subst e2
          simp at hj
          rw [ms_eq, ← hj]
          omega
        · rw [ms_ni e2]
          have : j < (lsK A x i).length := by
            have := (List.getElem?_eq_some_iff.mp hj).1
            simp at this
            omega
          rw [List.getElem?_append_left this] at hj
          exact h2 j l hj
    | false =>
      refine ⟨fun h => absurd h (by decide), fun _ => ?_⟩
      have eL : lsK A x (i + 1) = lsK A x i := by
        show (if x.testBit i then lsK A x i ++ [(A 15 i).toNat] else lsK A x i) = _
        rw [hb]; rfl
      refine ih σ1 hF ?_ ?_
      · rw [eL]; exact h1
      · rw [eL]; exact h2
