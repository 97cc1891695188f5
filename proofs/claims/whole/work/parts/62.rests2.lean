-- PURE, 33: rests
def stX (s : Nat × Nat × Nat) (σ : Mem) : Prop := s.1 = 0 ∨ (σ 45 3 = ((s.2.1 : Nat) : Int) ∧ σ 45 4 = ((s.2.2 : Nat) : Int))
theorem row_le {A : Mem} {a b i : Nat} : ∀ {m : Nat} {s : Nat × Nat × Nat}, (rowS A a b i m s).1 ≤ s.1 + m
  | 0, s => Nat.le_refl _
  | m + 1, s => by
    have ih := row_le (A := A) (a := a) (b := b) (i := i) (m := m) (s := s)
    show (upS A a b i m (rowS A a b i m s)).1 ≤ s.1 + (m + 1)
    unfold upS
    split
    · show (rowS A a b i m s).1 + 1 ≤ _; omega
    · omega
theorem all_le {A : Mem} {a b m : Nat} : ∀ {n : Nat}, (allS A a b m n).1 ≤ n * m
  | 0 => by show 0 ≤ _; omega
  | n + 1 => by
    have := row_le (A := A) (a := a) (b := b) (i := n) (m := m) (s := allS A a b m n)
    have ih := all_le (A := A) (a := a) (b := b) (m := m) (n := n)
    rw [Nat.succ_mul]
    show (rowS A a b n m (allS A a b m n)).1 ≤ _
    omega
theorem sp_K_findRests {d : Nat} {A σ : Mem} {Q : Int → Mem → Prop} {a b : Nat} (ha : a < 64) (hb : b < 64) (hw : ∀ i j, i < 7 → j < 7 → mc a i = true → mc b j = true → σ 46 (7 * i + j) = rv A i j * 60) (hQ : ∀ σ1, XG σ σ1 → stX (allS A a b 7 7) σ1 → Q (((allS A a b 7 7).1 : Nat) : Int) σ1) : wp (d + 3) m_K_findRests [.inr (.inr 45), .inl (a : Int), .inl (b : Int)] σ Q := by
  have cell : ∀ σ1, (∀ k q, ¬ (k = 45 ∧ (q = 3 ∨ q = 4)) → σ1 k q = σ k q) → XG σ σ1 := fun σ1 h k q _ _ _ d => h k q d
  refine e_K_findRests ?_
  refine upto (n := 7) (P := fun i => ∀ σ1, (∀ k q, ¬ (k = 45 ∧ (q = 3 ∨ q = 4)) → σ1 k q = σ k q) → stX (allS A a b 7 i) σ1 → K_K_findRests_5 (d + 2) Q (a : Int) (b : Int) (((allS A a b 7 i).1 : Nat) : Int) ((i : Nat) : Int) σ1) (fun σ1 hF hg => ?_) (fun i hi ih σ1 hF hg => ?_) σ (fun _ _ _ => rfl) (Or.inl rfl)
  · exact e_K_findRests_5 ⟨fun h => by omega, fun _ => hQ σ1 (cell σ1 hF) hg⟩
  · refine e_K_findRests_5 ⟨fun _ => ?_, fun h => by omega⟩
    have hal := all_le (A := A) (a := a) (b := b) (m := 7) (n := i)
    refine upto (n := 7) (P := fun j => ∀ σ1, (∀ k q, ¬ (k = 45 ∧ (q = 3 ∨ q = 4)) → σ1 k q = σ k q) → stX (rowS A a b i j (allS A a b 7 i)) σ1 → K_K_findRests_15 (d + 2) Q (a : Int) (b : Int) (((rowS A a b i j (allS A a b 7 i)).1 : Nat) : Int) (i : Int) ((j : Nat) : Int) σ1) (fun σ1 hF hg => ?_) (fun j hj ih2 σ1 hF hg => ?_) σ1 hF hg
    · refine e_K_findRests_15 ⟨fun h => by omega, fun _ => ?_⟩
      have e1 : w32 ((i : Int) + 1) = ((i + 1 : Nat) : Int) := w32_eq (by omega) (by omega)
      rw [e1]
      exact ih σ1 hF hg
    · have e1 : w32 ((j : Int) + 1) = ((j + 1 : Nat) : Int) := w32_eq (by omega) (by omega)
      have hrl := row_le (A := A) (a := a) (b := b) (i := i) (m := j) (s := allS A a b 7 i)
      obtain ⟨S, hS⟩ : ∃ S, S = rowS A a b i j (allS A a b 7 i) := ⟨_, rfl⟩
      have en : rowS A a b i (j + 1) (allS A a b 7 i) = upS A a b i j S := by rw [hS]; rfl
      rw [en] at ih2
      rw [← hS] at hg hrl ⊢
      have skip : PB A a b i j = false → K_K_findRests_15 (d + 2) Q (a : Int) (b : Int) ((S.1 : Nat) : Int) (i : Int) ((j + 1 : Nat) : Int) σ1 := fun hp => by
        have := ih2 σ1 hF
        have e5 : upS A a b i j S = S := by unfold upS; rw [hp]; rfl
        rw [e5] at this
        exact this hg
      have take : PB A a b i j = true → ∀ σ2, (∀ k q, ¬ (k = 45 ∧ (q = 3 ∨ q = 4)) → σ2 k q = σ k q) → (S.1 = 0 → σ2 45 3 = (i : Int) ∧ σ2 45 4 = (j : Int)) → (¬ S.1 = 0 → σ2 45 3 = σ1 45 3 ∧ σ2 45 4 = σ1 45 4) → K_K_findRests_15 (d + 2) Q (a : Int) (b : Int) ((S.1 + 1 : Nat) : Int) (i : Int) ((j + 1 : Nat) : Int) σ2 := fun hp σ2 hF2 z1 z2 => by
        have := ih2 σ2 hF2
        have e5 : upS A a b i j S = (S.1 + 1, if S.1 = 0 then i else S.2.1, if S.1 = 0 then j else S.2.2) := by unfold upS; rw [hp]; rfl
        rw [e5] at this
        refine this (Or.inr ?_)
        by_cases z : S.1 = 0
        · show σ2 45 3 = ((if S.1 = 0 then i else S.2.1 : Nat) : Int) ∧ σ2 45 4 = ((if S.1 = 0 then j else S.2.2 : Nat) : Int)
          rw [if_pos z, if_pos z]
          exact z1 z
        · show σ2 45 3 = ((if S.1 = 0 then i else S.2.1 : Nat) : Int) ∧ σ2 45 4 = ((if S.1 = 0 then j else S.2.2 : Nat) : Int)
          rw [if_neg z, if_neg z, (z2 z).1, (z2 z).2]
          rcases hg with h | h
          · exact absurd h z
          · exact h
      have e9 : w32 (((S.1 : Nat) : Int) + 1) = ((S.1 + 1 : Nat) : Int) := w32_eq (by omega) (by omega)
      refine e_K_findRests_15 ⟨fun _ => ?_, fun h => by omega⟩
      rw [e1, e9]
      refine sp_K_mayChoose ha hi ⟨fun h => skip (by unfold PB; rw [bit0 h]; rfl), fun h => sp_K_mayChoose hb hj ⟨fun h2 => skip (by unfold PB; rw [bit0 h2]; simp), fun h2 => ?_⟩⟩
      refine sp_K_isRest (A := A) ha hb hi hj (bit1 h) (bit1 h2) (fun i j h3 h4 h5 h6 => by rw [hF 46 _ (by omega)]; exact hw i j h3 h4 h5 h6) ⟨fun h3 => skip (by unfold PB; rw [bit0 h3]; simp), fun h3 => ?_⟩
      have hp : PB A a b i j = true := by unfold PB; rw [bit1 h, bit1 h2, bit1 h3]; rfl
      refine ⟨fun h4 => ⟨fun _ => ?_, fun h => absurd h4 h⟩, fun h4 => ⟨fun h => absurd h h4, fun _ => ?_⟩⟩
      · refine take hp _ (fun k q hk => ?_) (fun _ => ⟨?_, ?_⟩) (fun h => by omega)
        · rw [ms_ne (by omega), ms_ne (by omega)]; exact hF k q hk
        · rw [ms_ni (by decide), ms_eq]
        · rw [ms_eq]
      · refine take hp _ (fun k q hk => ?_) (fun h => by omega) (fun _ => ⟨?_, ?_⟩)
        · rw [ms_ne (by omega), ms_ne (by omega)]; exact hF k q hk
        · rw [ms_ni (by decide), ms_eq]
        · rw [ms_eq, ms_ni (by decide)]
/-- the reference's scratch for rivals -/
def HG (σ σ1 : Mem) : Prop := ∀ k i, k ≠ 67 → k ≠ 76 → k ≠ 77 → ¬ (k = 49 ∧ (i = 48 ∨ i = 50 ∨ i = 51)) → σ1 k i = σ k i
theorem HG.id {σ : Mem} : HG σ σ := fun _ _ _ _ _ _ => rfl
theorem HG.trans {σ σ1 σ2 : Mem} (h1 : HG σ σ1) (h2 : HG σ1 σ2) : HG σ σ2 := fun k i a b c d => (h2 k i a b c d).trans (h1 k i a b c d)
theorem HG.eqv {A σ σ1 : Mem} (h : HG σ σ1) (hE : Eqv A σ) : Eqv A σ1 := fun k i hl => by
  rw [h k i (live_x (o := 67) hl rfl) (live_x (o := 76) hl rfl) (live_x (o := 77) hl rfl) (fun z => ?_)]
  · exact hE k i hl
  · obtain ⟨rfl, h2⟩ := z
    rcases h2 with rfl | rfl | rfl <;> cases hl
theorem riv_one {d : Nat} {A τ : Mem} {Q : Int → Mem → Prop} (hR : RR A) (ho : 1 ≤ A 7 2) (hE : Eqv A τ) {i j : Nat} (hi : i ≤ tsN A) (hj : j ≤ tsN A) {ls : List Nat} (hls : ls = ijL A i j) (h48 : τ 49 48 = (ls.length : Int)) (h76 : ∀ k l : Nat, ls[k]? = some l → τ 76 k = (l : Int)) (hQ : ∀ σ1, MF τ σ1 → Q (rv A i j) σ1) : wp (d + 3) m_M_gotTogether [.inr (.inr 49), .inl 1] τ (fun r13 s14 => wp (d + 3) m_M_power [.inl (w32 (2 - (s14 49 48)))] s14 (fun r15 s16 => Q (w64 (r13 * r15)) s16)) := by
  have hok := ij_ok hR hi hj
  have hl2 := ij_len (A := A) (i := i) (j := j)
  rw [← hls] at hok hl2
  refine sp_M_gotTogether (h := fun i => ls.getD i 0) (n := ls.length) (wi := 1) (p := 11) hR ho hE rfl (by omega) rfl (by omega) (fun i hi => hok _ (List.mem_of_getElem? (getD_ok hi))) (fun i hi => h76 i _ (getD_ok hi)) h48 (fun σ1 hF => ?_)
  rw [hF 49 48 (by decide), h48, w32_eq (n := 2 - ls.length) (by omega) (by omega), hl_list (by omega)]
  refine sp_M_power (by omega) ?_
  have e : gath A 10 11 ls (fun t => A 9 t) * 60 ^ (2 - ls.length) = rv A i j := by rw [hls]; rfl
  rw [e, rv_w hR ho hi hj]
  exact hQ σ1 hF
theorem sp_M_findRivals {d : Nat} {A σ : Mem} {Q : Int → Mem → Prop} (hR : RR A) (ho : 1 ≤ A 7 2) (hE : Eqv A σ) (hQ : ∀ σ1, HG σ σ1 → (∀ i j, i ≤ tsN A → j ≤ tsN A → σ1 77 (7 * i + j) = rv A i j) → Q 0 σ1) : wp (d + 4) m_M_findRivals [.inr (.inr 49)] σ Q := by
  have hT := tsE hR
  have s9 : ∀ σ1, HG σ σ1 → σ1 49 9 = ((tsN A : Nat) : Int) := fun σ1 hF => by rw [hF.eqv hE 49 9 rfl]; exact hT.2.2
  refine e_M_findRivals ?_
  refine upto (n := tsN A + 1) (P := fun i => ∀ σ1, HG σ σ1 → (∀ i2 j, i2 < i → j ≤ tsN A → σ1 77 (7 * i2 + j) = rv A i2 j) → K_M_findRivals_2 (d + 3) Q ((i : Nat) : Int) σ1) (fun σ1 hF hg => ?_) (fun i hi ih σ1 hF hg => ?_) σ HG.id (fun i2 j h => absurd h (by omega))
  · exact e_M_findRivals_2 ⟨fun _ => hQ σ1 hF (fun i j h1 h2 => hg i j (by omega) h2), fun h => by rw [s9 σ1 hF] at h; omega⟩
  · refine e_M_findRivals_2 ⟨fun h => by rw [s9 σ1 hF] at h; omega, fun _ => ?_⟩
    refine upto (n := tsN A + 1) (P := fun j => ∀ σ1, HG σ σ1 → (∀ i2 j, i2 < i → j ≤ tsN A → σ1 77 (7 * i2 + j) = rv A i2 j) → (∀ j2, j2 < j → σ1 77 (7 * i + j2) = rv A i j2) → K_M_findRivals_12 (d + 3) Q (i : Int) ((j : Nat) : Int) σ1) (fun σ1 hF hg hg2 => ?_) (fun j hj ih2 σ1 hF hg hg2 => ?_) σ1 hF hg (fun j2 h => absurd h (by omega))
    · refine e_M_findRivals_12 ⟨fun _ => ?_, fun h => by rw [s9 σ1 hF] at h; omega⟩
      have e1 : w32 ((i : Int) + 1) = ((i + 1 : Nat) : Int) := w32_eq (by omega) (by omega)
      rw [e1]
      refine ih σ1 hF (fun i2 j h1 h2 => ?_)
      by_cases e : i2 = i
      · subst e; exact hg2 j (by omega)
      · exact hg i2 j (by omega) h2
    · have e1 : w32 ((j : Int) + 1) = ((j + 1 : Nat) : Int) := w32_eq (by omega) (by omega)
      have e2 : w32 (7 * (i : Int)) = ((7 * i : Nat) : Int) := w32_eq (by omega) (by omega)
      have e3 : w32 (((7 * i : Nat) : Int) + (j : Int)) = ((7 * i + j : Nat) : Int) := w32_eq (by omega) (by omega)
      have nxt : ∀ τ, (∀ k q, k ≠ 76 → ¬ (k = 49 ∧ q = 48) → τ k q = σ1 k q) → ∀ σ2, MF τ σ2 → (0 ≤ ((7 * i + j : Nat) : Int) ∧ ((7 * i + j : Nat) : Int) < 49) ∧ K_M_findRivals_12 (d + 3) Q (i : Int) ((j + 1 : Nat) : Int) (mset σ2 77 ((7 * i + j : Nat) : Int).toNat (rv A i j)) := fun τ ht σ2 hF2 => by
        rw [Int.toNat_natCast]
        refine ⟨⟨by omega, by omega⟩, ih2 _ (fun k q a1 a2 a3 a4 => ?_) (fun i2 j2 h1 h2 => ?_) (fun j2 h2 => ?_)⟩
        · rw [ms_nk a3, hF2 k q a1, ht k q a2 (by omega)]
          exact hF k q a1 a2 a3 a4
        · rw [ms_ni (by omega), hF2 77 _ (by decide), ht 77 _ (by decide) (by omega)]
          exact hg i2 j2 h1 h2
        · by_cases e : j2 = j
          · subst e; exact ms_eq
          · rw [ms_ni (by omega), hF2 77 _ (by decide), ht 77 _ (by decide) (by omega)]
            exact hg2 j2 (by omega)
      have hE1 := hF.eqv hE
      have lk : ∀ k, 0 < k → k ≤ tsN A → σ1 55 (k - 1) = (((A 15 (k - 1)).toNat : Nat) : Int) := fun k h1 h2 => by
        have := tsR hR (i := k - 1) (by omega)
        rw [hE1 55 _ rfl]
        omega
      have t0 : (0 : Int).toNat = 0 := rfl
      have t1 : ((0 : Int) + 1).toNat = 1 := rfl
      have o1 : (0 : Int) + 1 = 1 := rfl
      have t2 : (1 : Int).toNat = 1 := rfl
      have o2 : (1 : Int) + 1 = 2 := rfl
      refine e_M_findRivals_12 ⟨fun h => by rw [s9 σ1 hF] at h; omega, fun _ => ?_⟩
      rw [e1, e2, e3]
      refine ⟨fun h => ?_, fun h => ?_⟩
      · have e4 : w32 ((i : Int) - 1) = ((i - 1 : Nat) : Int) := w32_eq (by omega) (by omega)
        have l1 := lk i (by omega) (by omega)
        rw [e4]
        simp (discharger := first | decide | omega) only [ms_eq, ms_nk, ms_ni, Int.toNat_natCast, l1, w32_id, t0, o1]
        refine ⟨⟨by omega, by omega⟩, ⟨by omega, by omega⟩, fun h2 => ?_, fun h2 => ?_⟩
        · have e5 : w32 ((j : Int) - 1) = ((j - 1 : Nat) : Int) := w32_eq (by omega) (by omega)
          have l2 := lk j (by omega) (by omega)
          simp (discharger := first | decide | omega) only [w32_id, e5] at e5 ⊢
          rw [show (j : Int) - 1 = ((j - 1 : Nat) : Int) by omega, Int.toNat_natCast, l2, t2, o2]
          refine ⟨⟨by omega, by omega⟩, ⟨by omega, by omega⟩, ?_⟩
          refine riv_one (Q := fun v s => (0 ≤ ((7 * i + j : Nat) : Int) ∧ ((7 * i + j : Nat) : Int) < 49) ∧ K_M_findRivals_12 (d + 3) Q (i : Int) ((j + 1 : Nat) : Int) (mset s 77 ((7 * i + j : Nat) : Int).toNat v)) (i := i) (j := j) (ls := [(A 15 (i - 1)).toNat, (A 15 (j - 1)).toNat]) hR ho ?_ (by omega) (by omega) ?_ ?_ (fun k l hk => ?_) (fun σ2 hF2 => nxt _ (fun k q a1 a2 => ?_) σ2 hF2)
          · exact ((((hE1.set rfl).set rfl).set rfl).set rfl).set rfl
          · unfold ijL one1; rw [if_neg (by omega), if_neg (by omega)]; rfl
          · rw [ms_eq]; rfl
          · match k, hk with
            | 0, hk => simp at hk; rw [← hk]; simp (discharger := first | decide | omega) only [ms_eq, ms_nk, ms_ni]
            | 1, hk => simp at hk; rw [← hk]; simp (discharger := first | decide | omega) only [ms_eq, ms_nk, ms_ni]
            | k + 2, hk => simp at hk
          · rw [ms_ne (by omega), ms_ne (by omega), ms_ne (by omega), ms_ne (by omega), ms_ne (by omega)]
        · refine riv_one (Q := fun v s => (0 ≤ ((7 * i + j : Nat) : Int) ∧ ((7 * i + j : Nat) : Int) < 49) ∧ K_M_findRivals_12 (d + 3) Q (i : Int) ((j + 1 : Nat) : Int) (mset s 77 ((7 * i + j : Nat) : Int).toNat v)) (i := i) (j := j) (ls := [(A 15 (i - 1)).toNat]) hR ho ?_ (by omega) (by omega) ?_ ?_ (fun k l hk => ?_) (fun σ2 hF2 => nxt _ (fun k q a1 a2 => ?_) σ2 hF2)
          · exact ((hE1.set rfl).set rfl).set rfl
          · unfold ijL one1; rw [if_neg (by omega), if_pos (by omega)]; rfl
          · rw [ms_eq]; rfl
          · match k, hk with
            | 0, hk => simp at hk; rw [← hk]; simp (discharger := first | decide | omega) only [ms_eq, ms_nk, ms_ni]
            | k + 1, hk => simp at hk
          · rw [ms_ne (by omega), ms_ne (by omega), ms_ne (by omega)]
      · refine ⟨fun h2 => ?_, fun h2 => ?_⟩
        · have e5 : w32 ((j : Int) - 1) = ((j - 1 : Nat) : Int) := w32_eq (by omega) (by omega)
          have l2 := lk j (by omega) (by omega)
          rw [e5]
          simp (discharger := first | decide | omega) only [ms_eq, ms_nk, ms_ni, Int.toNat_natCast, l2, w32_id, t0, o1]
          refine ⟨⟨by omega, by omega⟩, ⟨by omega, by omega⟩, ?_⟩
          refine riv_one (Q := fun v s => (0 ≤ ((7 * i + j : Nat) : Int) ∧ ((7 * i + j : Nat) : Int) < 49) ∧ K_M_findRivals_12 (d + 3) Q (i : Int) ((j + 1 : Nat) : Int) (mset s 77 ((7 * i + j : Nat) : Int).toNat v)) (i := i) (j := j) (ls := [(A 15 (j - 1)).toNat]) hR ho ?_ (by omega) (by omega) ?_ ?_ (fun k l hk => ?_) (fun σ2 hF2 => nxt _ (fun k q a1 a2 => ?_) σ2 hF2)
          · exact ((hE1.set rfl).set rfl).set rfl
          · unfold ijL one1; rw [if_pos (by omega), if_neg (by omega)]; rfl
          · rw [ms_eq]; rfl
          · match k, hk with
            | 0, hk => simp at hk; rw [← hk]; simp (discharger := first | decide | omega) only [ms_eq, ms_nk, ms_ni]
            | k + 1, hk => simp at hk
          · rw [ms_ne (by omega), ms_ne (by omega), ms_ne (by omega)]
        · refine riv_one (Q := fun v s => (0 ≤ ((7 * i + j : Nat) : Int) ∧ ((7 * i + j : Nat) : Int) < 49) ∧ K_M_findRivals_12 (d + 3) Q (i : Int) ((j + 1 : Nat) : Int) (mset s 77 ((7 * i + j : Nat) : Int).toNat v)) (i := i) (j := j) (ls := []) hR ho (hE1.set rfl) (by omega) (by omega) ?_ ?_ (fun k l hk => ?_) (fun σ2 hF2 => nxt _ (fun k q a1 a2 => ?_) σ2 hF2)
          · unfold ijL one1; rw [if_pos (by omega), if_pos (by omega)]; rfl
          · rw [ms_eq]; rfl
          · simp at hk
          · rw [ms_ne (by omega)]
theorem sp_M_isRest {d : Nat} {A σ : Mem} {Q : Int → Mem → Prop} (hR : RR A) (hE : Eqv A σ) {a b i j : Nat} (ha : a < 2 ^ tsN A) (hb : b < 2 ^ tsN A) (hi : i ≤ tsN A) (hj : j ≤ tsN A) (hw : ∀ i j, i ≤ tsN A → j ≤ tsN A → σ 77 (7 * i + j) = rv A i j) (hQ : Q (if PB A a b i j then 1 else 0) σ) : wp (d + 2) m_M_isRest [.inr (.inr 49), .inl (a : Int), .inl (b : Int), .inl (i : Int), .inl (j : Int)] σ Q := by
  have hT := tsE hR
  have hs := shlT hR
  have s9 : σ 49 9 = ((tsN A : Nat) : Int) := by rw [hE 49 9 rfl]; exact hT.2.2
  have ext : rsB A a b i j 7 = rsB A a b i j (tsN A + 1) := rsB_ext (fun o ho => ⟨by
    cases h : mc a o with
    | false => rfl
    | true => have := mc_T ha h; omega, by
    cases h : mc b o with
    | false => rfl
    | true => have := mc_T hb h; omega⟩) (by omega)
  have no : ∀ x : Int, PB A a b i j = false → K_M_isRest_27 (d + 1) Q (a : Int) (b : Int) (i : Int) (j : Int) 0 x σ := fun x hx => by
    rw [hx] at hQ
    exact e_M_isRest_27 ⟨fun _ => ⟨isB0, hQ⟩, fun _ => ⟨fun _ => ⟨isB0, hQ⟩, fun h => absurd rfl h⟩⟩
  refine e_M_isRest (sp_M_mayChoose (by omega) (by omega) ⟨fun h => no 0 (by unfold PB; rw [bit0 h]; rfl), fun h => sp_M_mayChoose (by omega) (by omega) ⟨fun h2 => no 0 (by unfold PB; rw [bit0 h2]; simp), fun h2 => ?_⟩⟩)
  have hpb : PB A a b i j = rsB A a b i j (tsN A + 1) := by unfold PB; rw [bit1 h, bit1 h2, ext]; rfl
  refine upto (n := tsN A + 1) (P := fun o => rsB A a b i j o = true → K_M_isRest_27 (d + 1) Q (a : Int) (b : Int) (i : Int) (j : Int) 1 ((o : Nat) : Int) σ) (fun h => ?_) (fun o ho ih h => ?_) rfl
  · rw [hpb, h] at hQ
    exact e_M_isRest_27 ⟨fun _ => ⟨isB1, hQ⟩, fun h => by omega⟩
  · have e1 : w32 ((o : Int) + 1) = ((o + 1 : Nat) : Int) := w32_eq (by omega) (by omega)
    have e2 : w32 (7 * (i : Int)) = ((7 * i : Nat) : Int) := w32_eq (by omega) (by omega)
    have e3 : w32 (((7 * i : Nat) : Int) + (j : Int)) = ((7 * i + j : Nat) : Int) := w32_eq (by omega) (by omega)
    have e4 : w32 (((7 * i : Nat) : Int) + (o : Int)) = ((7 * i + o : Nat) : Int) := w32_eq (by omega) (by omega)
    have e5 : w32 (7 * (o : Int)) = ((7 * o : Nat) : Int) := w32_eq (by omega) (by omega)
    have e6 : w32 (((7 * o : Nat) : Int) + (j : Int)) = ((7 * o + j : Nat) : Int) := w32_eq (by omega) (by omega)
    have es : rsB A a b i j (o + 1) = (rsB A a b i j o && (!mc a o || decide (rv A o j ≤ rv A i j)) && (!mc b o || decide (rv A i j ≤ rv A i o))) := rfl
    have bad : rsB A a b i j (o + 1) = false → K_M_isRest_27 (d + 1) Q (a : Int) (b : Int) (i : Int) (j : Int) 0 ((o + 1 : Nat) : Int) σ := fun hz => no _ (by rw [hpb]; exact rsB_step (by omega) hz)
    refine e_M_isRest_27 ⟨fun h => by omega, fun _ => ⟨fun h => by omega, fun _ => ?_⟩⟩
    rw [e1, e2, e3, e4, e5, e6, Int.toNat_natCast, Int.toNat_natCast, Int.toNat_natCast]
    refine sp_M_mayChoose (by omega) (by omega) ⟨fun h1 => ?_, fun h1 => ⟨⟨by omega, by omega⟩, ⟨by omega, by omega⟩, ?_⟩⟩
    · have m1 := bit0 h1
      refine sp_M_mayChoose (by omega) (by omega) ⟨fun h2 => ?_, fun h2 => ⟨⟨by omega, by omega⟩, ⟨by omega, by omega⟩, ?_⟩⟩
      · exact ih (by rw [es, h, m1, bit0 h2]; rfl)
      · have m2 := bit1 h2
        rw [hw i j hi hj, hw i o hi (by omega)]
        refine ⟨fun h3 => bad ?_, fun h3 => ih ?_⟩
        · rw [es, m2, decide_eq_false (p := rv A i j ≤ rv A i o) (by omega)]; simp
        · rw [es, h, m1, m2, decide_eq_true (p := rv A i j ≤ rv A i o) (by omega)]; rfl
    · have m1 := bit1 h1
      rw [hw i j hi hj, hw o j (by omega) hj]
      refine ⟨fun h3 => bad ?_, fun h3 => sp_M_mayChoose (by omega) (by omega) ⟨fun h2 => ih ?_, fun h2 => ⟨⟨by omega, by omega⟩, ⟨by omega, by omega⟩, ?_⟩⟩⟩
      · rw [es, m1, decide_eq_false (p := rv A o j ≤ rv A i j) (by omega)]; simp
      · rw [es, h, m1, bit0 h2, decide_eq_true (p := rv A o j ≤ rv A i j) (by omega)]; rfl
      · have m2 := bit1 h2
        rw [hw i j hi hj, hw i o hi (by omega)]
        refine ⟨fun h4 => bad ?_, fun h4 => ih ?_⟩
        · rw [es, m2, decide_eq_false (p := rv A i j ≤ rv A i o) (by omega)]; simp
        · rw [es, h, m1, m2, decide_eq_true (p := rv A o j ≤ rv A i j) (by omega), decide_eq_true (p := rv A i j ≤ rv A i o) (by omega)]; rfl
theorem PB_f {A : Mem} {a b i j T : Nat} (ha : a < 2 ^ T) (hb : b < 2 ^ T) (h : T < i ∨ T < j) : PB A a b i j = false := by
  cases hp : PB A a b i j with
  | false => rfl
  | true =>
    unfold PB at hp
    simp only [Bool.and_eq_true] at hp
    have h1 := mc_T ha hp.1.1
    have h2 := mc_T hb hp.1.2
    omega
theorem all_ext {A : Mem} {a b T : Nat} (ha : a < 2 ^ T) (hb : b < 2 ^ T) (hT : T ≤ 6) : allS A a b (T + 1) (T + 1) = allS A a b 7 7 := by
  have h1 : ∀ n, allS A a b (T + 1) n = allS A a b 7 n := by
    intro n
    induction n with
    | zero => rfl
    | succ n ih =>
      show rowS A a b n (T + 1) (allS A a b (T + 1) n) = rowS A a b n 7 (allS A a b 7 n)
      rw [ih, rowS_ext (n := T + 1) (m := 7) (fun j hj => PB_f ha hb (by omega)) (by omega)]
  have h2 : ∀ m, allS A a b 7 (T + 1 + m) = allS A a b 7 (T + 1) := by
    intro m
    induction m with
    | zero => rfl
    | succ m ih =>
      show rowS A a b (T + 1 + m) 7 (allS A a b 7 (T + 1 + m)) = _
      rw [ih, rowS_ext (n := 0) (m := 7) (fun j _ => PB_f ha hb (by omega)) (by omega)]
      rfl
  rw [h1]
  have := h2 (6 - T)
  rw [show T + 1 + (6 - T) = 7 by omega] at this
  exact this.symm
def fdM (w : Int) (s : Nat × Nat × Nat) : Int := if s.1 = 0 then -9 else if w = 1 then ((s.2.1 : Nat) : Int) else ((s.2.2 : Nat) : Int)
theorem sp_M_rests69 {d : Nat} {A σ : Mem} {Q : Int → Mem → Prop} (hR : RR A) (hE : Eqv A σ) {a b : Nat} {w : Int} (ha : a < 2 ^ tsN A) (hb : b < 2 ^ tsN A) (hw : ∀ i j, i ≤ tsN A → j ≤ tsN A → σ 77 (7 * i + j) = rv A i j) (hQ : Q (if w = 0 then (((allS A a b 7 7).1 : Nat) : Int) else fdM w (allS A a b 7 7)) σ) : K_M_rests_69 (d + 2) Q (a : Int) (b : Int) w 0 (-9) 0 σ := by
  have hT := tsE hR
  have s9 : σ 49 9 = ((tsN A : Nat) : Int) := by rw [hE 49 9 rfl]; exact hT.2.2
  rw [← all_ext ha hb hT.2.1] at hQ
  refine upto (n := tsN A + 1) (P := fun i => K_M_rests_69 (d + 2) Q (a : Int) (b : Int) w (((allS A a b (tsN A + 1) i).1 : Nat) : Int) (fdM w (allS A a b (tsN A + 1) i)) ((i : Nat) : Int) σ) ?_ (fun i hi ih => ?_)
  · refine e_M_rests_69 ⟨fun _ => ⟨fun h => ?_, fun h => ?_⟩, fun h => by omega⟩
    · rw [if_pos h] at hQ; exact hQ
    · rw [if_neg h] at hQ; exact hQ
  · refine e_M_rests_69 ⟨fun h => by omega, fun _ => ?_⟩
    have hal := all_le (A := A) (a := a) (b := b) (m := tsN A + 1) (n := i)
    have hm7 : i * (tsN A + 1) ≤ 7 * 7 := Nat.mul_le_mul (by omega) (by omega)
    refine upto (n := tsN A + 1) (P := fun j => K_M_rests_81 (d + 2) Q (a : Int) (b : Int) w (((rowS A a b i j (allS A a b (tsN A + 1) i)).1 : Nat) : Int) (fdM w (rowS A a b i j (allS A a b (tsN A + 1) i))) (i : Int) ((j : Nat) : Int) σ) ?_ (fun j hj ih2 => ?_)
    · have e1 : w32 ((i : Int) + 1) = ((i + 1 : Nat) : Int) := w32_eq (by omega) (by omega)
      refine e_M_rests_81 ⟨fun _ => ?_, fun h => by omega⟩
      rw [e1]
      exact ih
    · have e1 : w32 ((j : Int) + 1) = ((j + 1 : Nat) : Int) := w32_eq (by omega) (by omega)
      have hrl := row_le (A := A) (a := a) (b := b) (i := i) (m := j) (s := allS A a b (tsN A + 1) i)
      obtain ⟨S, hS⟩ : ∃ S, S = rowS A a b i j (allS A a b (tsN A + 1) i) := ⟨_, rfl⟩
      have en : rowS A a b i (j + 1) (allS A a b (tsN A + 1) i) = upS A a b i j S := by rw [hS]; rfl
      rw [en] at ih2
      rw [← hS] at hrl ⊢
      have e9 : w32 (((S.1 : Nat) : Int) + 1) = ((S.1 + 1 : Nat) : Int) := w32_eq (by omega) (by omega)
      refine e_M_rests_81 ⟨fun h => by omega, fun _ => ?_⟩
      rw [e1, e9]
      refine sp_M_isRest hR hE ha hb (by omega) (by omega) hw ⟨fun h => ?_, fun h => ?_⟩
      · have e5 : upS A a b i j S = S := by unfold upS; rw [bit0 h]; rfl
        rw [e5] at ih2
        exact ih2
      · have e5 : upS A a b i j S = (S.1 + 1, if S.1 = 0 then i else S.2.1, if S.1 = 0 then j else S.2.2) := by unfold upS; rw [bit1 h]; rfl
        rw [e5] at ih2
        have e6 : fdM w (S.1 + 1, if S.1 = 0 then i else S.2.1, if S.1 = 0 then j else S.2.2) = if w = 1 then (((if S.1 = 0 then i else S.2.1) : Nat) : Int) else (((if S.1 = 0 then j else S.2.2) : Nat) : Int) := by unfold fdM; rw [if_neg (by simp)]
        rw [e6] at ih2
        refine ⟨fun h2 => ⟨fun h3 => ?_, fun h3 => ?_⟩, fun h2 => ?_⟩
        · rw [if_pos h3, if_pos (by omega)] at ih2; exact ih2
        · rw [if_neg h3, if_pos (by omega), if_pos (by omega)] at ih2; exact ih2
        · have h4 : ¬ S.1 = 0 := by omega
          rw [if_neg h4, if_neg h4] at ih2
          have e7 : fdM w S = if w = 1 then ((S.2.1 : Nat) : Int) else ((S.2.2 : Nat) : Int) := by unfold fdM; rw [if_neg h4]
          rw [e7]
          exact ih2
theorem pr_rests {A : Mem} (hR : RR A) {a1 : Int} (i1 : InI a1) {a2 : Int} (i2 : InI a2) {a3 : Int} (i3 : InI a3) : wp 40 m_X_rests [.inr (.inr 0), .inl a1, .inl a2, .inl a3] A (fun r σ1 => wp 40 m_M_rests [.inr (.inr 49), .inl a1, .inl a2, .inl a3] σ1 (fun r2 σ2 => PQ r r2 σ2)) := by
  have sc := hR.sc
  unfold InI at i1 i2 i3
  have hsh := shlT hR
  have s1 := hsh.1
  have s2 := hsh.2.1
  have hA := hsh.2.2
  repeat' first
    | with_reducible refine e_X_rests ?_
    | with_reducible refine e_S_hasTests ?_
    | with_reducible refine xr1 ?_
    | with_reducible refine xr2 ?_
    | with_reducible refine xr3 ?_
    | with_reducible refine xr4 ?_
    | with_reducible refine xr6 ?_
    | with_reducible refine mr1 ?_
    | with_reducible refine mr2 ?_
    | with_reducible refine mr3 ?_
    | with_reducible refine mr4 ?_
    | with_reducible refine mr6 ?_
    | with_reducible refine xf1 ?_
    | with_reducible refine xf2 ?_
    | with_reducible refine xf3 ?_
    | with_reducible refine xf6 ?_
    | with_reducible refine mf1 ?_
    | with_reducible refine mf2 ?_
    | with_reducible refine mf3 ?_
    | with_reducible refine mf6 ?_
    | with_reducible exact isB0
    | with_reducible exact isB1
    | with_reducible refine And.intro ?_ ?_
    | (with_reducible refine fun (hz : (_ : Int) < _) => ?_) <;> ((try simp (discharger := first | decide | omega) only [ms_eq, ms_nk, ms_ni, w32_id, w64_id, Int.toNat_natCast, not_true_eq_false, not_false_eq_true, s1] at hz) ; (try (exfalso; omega)))
    | (with_reducible refine fun (hz : (_ : Int) ≤ _) => ?_) <;> ((try simp (discharger := first | decide | omega) only [ms_eq, ms_nk, ms_ni, w32_id, w64_id, Int.toNat_natCast, not_true_eq_false, not_false_eq_true, s1] at hz) ; (try (exfalso; omega)))
    | (with_reducible refine fun (hz : (_ : Int) = _) => ?_) <;> ((try simp (discharger := first | decide | omega) only [ms_eq, ms_nk, ms_ni, w32_id, w64_id, Int.toNat_natCast, not_true_eq_false, not_false_eq_true, s1] at hz) ; (try (exfalso; omega)))
    | (with_reducible refine fun (hz : ¬ (_ : Int) = _) => ?_) <;> ((try simp (discharger := first | decide | omega) only [ms_eq, ms_nk, ms_ni, w32_id, w64_id, Int.toNat_natCast, not_true_eq_false, not_false_eq_true, s1] at hz) ; (try (exfalso; omega)))
    | (with_reducible refine fun (hz : _ ∨ _) => ?_) <;> ((try simp (discharger := first | decide | omega) only [ms_eq, ms_nk, ms_ni, w32_id, w64_id, Int.toNat_natCast, not_true_eq_false, not_false_eq_true, s1] at hz) ; (try (exfalso; omega)))
    | omega
    | (simp (discharger := first | decide | omega) only [ms_eq, ms_nk, ms_ni, w32_id, w64_id, Int.toNat_natCast, not_true_eq_false, not_false_eq_true, s1] ; omega)
  all_goals first
    | (repeat' first
      | with_reducible refine e_M_rests ?_
      | with_reducible refine e_M_isSet ?_
      | with_reducible refine e_M_in ?_
      | with_reducible refine xr1 ?_
      | with_reducible refine xr2 ?_
      | with_reducible refine xr3 ?_
      | with_reducible refine xr4 ?_
      | with_reducible refine xr6 ?_
      | with_reducible refine mr1 ?_
      | with_reducible refine mr2 ?_
      | with_reducible refine mr3 ?_
      | with_reducible refine mr4 ?_
      | with_reducible refine mr6 ?_
      | with_reducible refine xf1 ?_
      | with_reducible refine xf2 ?_
      | with_reducible refine xf3 ?_
      | with_reducible refine xf6 ?_
      | with_reducible refine mf1 ?_
      | with_reducible refine mf2 ?_
      | with_reducible refine mf3 ?_
      | with_reducible refine mf6 ?_
      | with_reducible exact isB0
      | with_reducible exact isB1
      | with_reducible refine And.intro ?_ ?_
      | (with_reducible refine fun (hz : (_ : Int) < _) => ?_) <;> ((try simp (discharger := first | decide | omega) only [ms_eq, ms_nk, ms_ni, w32_id, w64_id, Int.toNat_natCast, not_true_eq_false, not_false_eq_true, s2] at hz) ; (try (exfalso; omega)))
      | (with_reducible refine fun (hz : (_ : Int) ≤ _) => ?_) <;> ((try simp (discharger := first | decide | omega) only [ms_eq, ms_nk, ms_ni, w32_id, w64_id, Int.toNat_natCast, not_true_eq_false, not_false_eq_true, s2] at hz) ; (try (exfalso; omega)))
      | (with_reducible refine fun (hz : (_ : Int) = _) => ?_) <;> ((try simp (discharger := first | decide | omega) only [ms_eq, ms_nk, ms_ni, w32_id, w64_id, Int.toNat_natCast, not_true_eq_false, not_false_eq_true, s2] at hz) ; (try (exfalso; omega)))
      | (with_reducible refine fun (hz : ¬ (_ : Int) = _) => ?_) <;> ((try simp (discharger := first | decide | omega) only [ms_eq, ms_nk, ms_ni, w32_id, w64_id, Int.toNat_natCast, not_true_eq_false, not_false_eq_true, s2] at hz) ; (try (exfalso; omega)))
      | (with_reducible refine fun (hz : _ ∨ _) => ?_) <;> ((try simp (discharger := first | decide | omega) only [ms_eq, ms_nk, ms_ni, w32_id, w64_id, Int.toNat_natCast, not_true_eq_false, not_false_eq_true, s2] at hz) ; (try (exfalso; omega)))
      | omega
      | (simp (discharger := first | decide | omega) only [ms_eq, ms_nk, ms_ni, w32_id, w64_id, Int.toNat_natCast, not_true_eq_false, not_false_eq_true, s2] ; omega)
       all_goals first
         | exact PQ.rf0 hR (by decide)
         | skip
       done)
    | skip
  obtain ⟨a, rfl⟩ : ∃ k : Nat, a1 = (k : Int) := ⟨a1.toNat, by omega⟩
  obtain ⟨b, rfl⟩ : ∃ k : Nat, a2 = (k : Int) := ⟨a2.toNat, by omega⟩
  have ha : a < 2 ^ tsN A := by omega
  have hb : b < 2 ^ tsN A := by omega
  have ho : 1 ≤ A 7 2 := by omega
  refine sp_K_weigh hR ho Eqv.rfl ha hb (fun σ1 hF hw => ?_)
  refine sp_K_findRests (A := A) (by omega) (by omega) hw (fun σ2 hF2 hst => ?_)
  have hE := (hF.trans hF2).eqv Eqv.rfl
  have q0 := hE 49 0 rfl
  have q9 : shlI 1 (σ2 49 9) = ((2 ^ tsN A : Nat) : Int) := by rw [hE 49 9 rfl]; exact s2
  have fin : ∀ r : Int, r = (if a3 = 0 then (((allS A a b 7 7).1 : Nat) : Int) else fdM a3 (allS A a b 7 7)) → wp 40 m_M_rests [.inr (.inr 49), .inl (a : Int), .inl (b : Int), .inl a3] σ2 (fun r2 σ2 => PQ r r2 σ2) := fun r hr => by
    repeat' first
      | with_reducible refine e_M_rests ?_
      | with_reducible refine e_M_isSet ?_
      | with_reducible refine e_M_in ?_
      | with_reducible refine xr1 ?_
      | with_reducible refine xr2 ?_
      | with_reducible refine xr3 ?_
      | with_reducible refine xr4 ?_
      | with_reducible refine xr6 ?_
      | with_reducible refine mr1 ?_
      | with_reducible refine mr2 ?_
      | with_reducible refine mr3 ?_
      | with_reducible refine mr4 ?_
      | with_reducible refine mr6 ?_
      | with_reducible refine xf1 ?_
      | with_reducible refine xf2 ?_
      | with_reducible refine xf3 ?_
      | with_reducible refine xf6 ?_
      | with_reducible refine mf1 ?_
      | with_reducible refine mf2 ?_
      | with_reducible refine mf3 ?_
      | with_reducible refine mf6 ?_
      | with_reducible exact isB0
      | with_reducible exact isB1
      | with_reducible refine And.intro ?_ ?_
      | (with_reducible refine fun (hz : (_ : Int) < _) => ?_) <;> ((try simp (discharger := first | decide | omega) only [ms_eq, ms_nk, ms_ni, w32_id, w64_id, Int.toNat_natCast, not_true_eq_false, not_false_eq_true, q0, q9] at hz) ; (try (exfalso; omega)))
      | (with_reducible refine fun (hz : (_ : Int) ≤ _) => ?_) <;> ((try simp (discharger := first | decide | omega) only [ms_eq, ms_nk, ms_ni, w32_id, w64_id, Int.toNat_natCast, not_true_eq_false, not_false_eq_true, q0, q9] at hz) ; (try (exfalso; omega)))
      | (with_reducible refine fun (hz : (_ : Int) = _) => ?_) <;> ((try simp (discharger := first | decide | omega) only [ms_eq, ms_nk, ms_ni, w32_id, w64_id, Int.toNat_natCast, not_true_eq_false, not_false_eq_true, q0, q9] at hz) ; (try (exfalso; omega)))
      | (with_reducible refine fun (hz : ¬ (_ : Int) = _) => ?_) <;> ((try simp (discharger := first | decide | omega) only [ms_eq, ms_nk, ms_ni, w32_id, w64_id, Int.toNat_natCast, not_true_eq_false, not_false_eq_true, q0, q9] at hz) ; (try (exfalso; omega)))
      | (with_reducible refine fun (hz : _ ∨ _) => ?_) <;> ((try simp (discharger := first | decide | omega) only [ms_eq, ms_nk, ms_ni, w32_id, w64_id, Int.toNat_natCast, not_true_eq_false, not_false_eq_true, q0, q9] at hz) ; (try (exfalso; omega)))
      | omega
      | (simp (discharger := first | decide | omega) only [ms_eq, ms_nk, ms_ni, w32_id, w64_id, Int.toNat_natCast, not_true_eq_false, not_false_eq_true, q0, q9] ; omega)
    refine sp_M_findRivals hR ho hE (fun σ3 hF3 hw3 => sp_M_rests69 hR (hF3.eqv hE) ha hb hw3 ?_)
    rw [← hr]
    exact PQ.eqv hR rfl (hF3.eqv hE)
  refine ⟨fun h => fin _ (by rw [if_pos h]), fun h => ⟨fun h2 => fin _ ?_, fun h2 => ⟨fun h3 => fin _ ?_, fun h3 => fin _ ?_⟩⟩⟩
  · rw [if_neg h]; unfold fdM; rw [if_pos (by omega)]
  · rw [if_neg h]; unfold fdM; rw [if_neg (by omega), if_pos h3]
    rcases hst with z | z
    · omega
    · exact z.1
  · rw [if_neg h]; unfold fdM; rw [if_neg (by omega), if_neg h3]
    rcases hst with z | z
    · omega
    · exact z.2
