-- two truths: the class climbs
theorem od_w {A : Mem} {a b h : Nat → Int} {E i j : Nat} (P : PT A a b h E) (hi : i ≤ E) (hj : j ≤ E) : w64 (w64 (a i * b j) - w64 (a j * b i)) = od a b i j := by
  have b1 := P.2.1 i hi
  have b2 := P.2.1 j hj
  have o := od_bd P hi hj
  rw [m396 ⟨b1.1, by omega⟩ ⟨by omega, b2.2.2.2⟩, m396 ⟨b2.1, by omega⟩ ⟨by omega, b1.2.2.2⟩]
  show w64 (od a b i j) = _
  exact w64_id (by omega) (by omega)
theorem bA_w {A : Mem} {a b h : Nat → Int} {E l r m : Nat} (P : PT A a b h E) (hl : l ≤ E) (hr : r ≤ E) (hm : m ≤ E) : w64 (w64 (h l * od a b r m) + w64 (h r * od a b m l)) = bA a b h l r m := by
  have m1 := mul_bd (P.2.2.2.1 l hl) (od_bd P hr hm)
  have m2 := mul_bd (P.2.2.2.1 r hr) (od_bd P hm hl)
  have o := bA_bd P hl hr hm
  rw [w64_id (x := h l * od a b r m) (by omega) (by omega), w64_id (x := h r * od a b m l) (by omega) (by omega)]
  show w64 (bA a b h l r m) = _
  exact w64_id (by omega) (by omega)
theorem bB_w {A : Mem} {a b h : Nat → Int} {E l r m : Nat} (P : PT A a b h E) (hl : l ≤ E) (hr : r ≤ E) (hm : m ≤ E) : w64 (b m * od a b r l) = bB a b l r m := by
  have o := bB_bd P hl hr hm
  show w64 (bB a b l r m) = _
  exact w64_id (by omega) (by omega)
theorem sp_L_order {d : Nat} {A σ : Mem} {Q : Int → Mem → Prop} {E i j : Nat} (P : PT A (σ 42) (σ 43) (σ 44) E) (hi : i ≤ E) (hj : j ≤ E) (hQ : Q (od (σ 42) (σ 43) i j) σ) : wp (d + 1) m_L_order [.inr (.inr 39), .inl (i : Int), .inl (j : Int)] σ Q := by
  have hE := P.1
  refine e_L_order ?_
  rw [Int.toNat_natCast, Int.toNat_natCast, od_w P hi hj]
  exact ⟨⟨by omega, by omega⟩, ⟨by omega, by omega⟩, ⟨by omega, by omega⟩, ⟨by omega, by omega⟩, hQ⟩
theorem sp_L_bridgeAbove {d : Nat} {A σ : Mem} {Q : Int → Mem → Prop} {E l r m : Nat} (P : PT A (σ 42) (σ 43) (σ 44) E) (hl : l ≤ E) (hr : r ≤ E) (hm : m ≤ E) (hQ : Q (bA (σ 42) (σ 43) (σ 44) l r m) σ) : wp (d + 2) m_L_bridgeAbove [.inr (.inr 39), .inl (l : Int), .inl (r : Int), .inl (m : Int)] σ Q := by
  have hE := P.1
  refine e_L_bridgeAbove ⟨⟨by omega, by omega⟩, sp_L_order P hr hm ⟨⟨by omega, by omega⟩, sp_L_order P hm hl ?_⟩⟩
  rw [Int.toNat_natCast, Int.toNat_natCast, bA_w P hl hr hm]
  exact hQ
theorem sp_L_bridgeBelow {d : Nat} {A σ : Mem} {Q : Int → Mem → Prop} {E l r m : Nat} (P : PT A (σ 42) (σ 43) (σ 44) E) (hl : l ≤ E) (hr : r ≤ E) (hm : m ≤ E) (hQ : Q (bB (σ 42) (σ 43) l r m) σ) : wp (d + 2) m_L_bridgeBelow [.inr (.inr 39), .inl (l : Int), .inl (r : Int), .inl (m : Int)] σ Q := by
  have hE := P.1
  refine e_L_bridgeBelow ⟨⟨by omega, by omega⟩, sp_L_order P hr hl ?_⟩
  rw [Int.toNat_natCast, bB_w P hl hr hm]
  exact hQ
def GFx (σ σ1 : Mem) : Prop := ∀ k i, ¬ (k = 39 ∧ 9 ≤ i ∧ i ≤ 12) → σ1 k i = σ k i
theorem GFx.eqv {A σ τ : Mem} (hE : Eqv A σ) (h : GFx σ τ) : Eqv A τ := fun k i hl => by
  rw [h k i (fun z => live_x (o := 39) hl rfl z.1)]
  exact hE k i hl
def ST1 (σ τ : Mem) (E : Nat) (V : Nat → Nat → Prop) : Prop := GFx σ τ ∧ ∃ L R : Nat, τ 39 9 = (L : Int) ∧ τ 39 10 = (R : Int) ∧ B1 (σ 42) (σ 43) (σ 44) E V L R (τ 39 11) (τ 39 12)
theorem GFx.arr {σ τ : Mem} (h : GFx σ τ) : τ 42 = σ 42 ∧ τ 43 = σ 43 ∧ τ 44 = σ 44 := ⟨funext (fun i => h 42 i (by omega)), funext (fun i => h 43 i (by omega)), funext (fun i => h 44 i (by omega))⟩
theorem sp_L_climbBridge {d : Nat} {A σ τ : Mem} {Q : Int → Mem → Prop} {E l r : Nat} {V W : Nat → Nat → Prop} (P : PT A (σ 42) (σ 43) (σ 44) E) (s : ST1 σ τ E V) (t : stt (σ 42) (σ 43) E l r) (hV : ∀ l r, V l r → W l r) (hw : W l r) (hW : ∀ l2 r2, W l2 r2 → V l2 r2 ∨ (l2 = l ∧ r2 = r)) (hp : ∀ L R, V L R → l < L ∨ (l = L ∧ R < r)) (hQ : ∀ τ1, ST1 σ τ1 E W → Q 0 τ1) : wp (d + 3) m_L_climbBridge [.inr (.inr 39), .inl (l : Int), .inl (r : Int), .inl (E : Int)] τ Q := by
  obtain ⟨f, L, R, eL, eR, s⟩ := s
  have ar := f.arr
  have P' : PT A (τ 42) (τ 43) (τ 44) E := by rw [ar.1, ar.2.1, ar.2.2]; exact P
  have t1 := t.1
  have t2 := t.2.1
  refine e_L_climbBridge (sp_L_bridgeAbove P' (by omega) (by omega) (Nat.le_refl E) (sp_L_bridgeBelow P' (by omega) (by omega) (Nat.le_refl E) ?_))
  rw [ar.1, ar.2.1, ar.2.2]
  have x1 := bA_bd P (l := l) (r := r) (m := E) (by omega) (by omega) (Nat.le_refl E)
  have x2 := bB_bd P (l := l) (r := r) (m := E) (by omega) (by omega) (Nat.le_refl E)
  have x3 := s.bd P
  have m1 := mul_bd (x := τ 39 11) (y := bB (σ 42) (σ 43) l r E) x3.2.1 x2
  have m2 := mul_bd (x := bA (σ 42) (σ 43) (σ 44) l r E) (y := τ 39 12) (Y := 62099136) x1 ⟨by omega, by omega⟩
  rw [w64_id (x := τ 39 11 * bB (σ 42) (σ 43) l r E) (by omega) (by omega), w64_id (x := bA (σ 42) (σ 43) (σ 44) l r E * τ 39 12) (by omega) (by omega)]
  refine ⟨fun h => hQ _ ⟨fun k i hk => ?_, l, r, ?_, ?_, ?_⟩, fun h => hQ τ ⟨f, L, R, eL, eR, s.low hV hW (hp L R) h⟩⟩
  · rw [ms_ne (by omega), ms_ne (by omega), ms_ne (by omega), ms_ne (by omega)]; exact f k i hk
  · simp (discharger := decide) only [ms_ni, ms_eq]
  · simp (discharger := decide) only [ms_ni, ms_eq]
  · simp (discharger := decide) only [ms_ni, ms_eq]
    exact s.high P hw hW t h
theorem ST1.skip {σ τ : Mem} {E : Nat} {V W : Nat → Nat → Prop} (s : ST1 σ τ E V) (hV : ∀ l r, V l r → W l r) (hW : ∀ l r, W l r → stt (σ 42) (σ 43) E l r → V l r) : ST1 σ τ E W := ⟨s.1, by
  obtain ⟨f, L, R, eL, eR, s⟩ := s
  exact ⟨L, R, eL, eR, s.skip hV hW⟩⟩
theorem sp_L_climb {d : Nat} {A σ : Mem} {Q : Int → Mem → Prop} {E : Nat} (P : PT A (σ 42) (σ 43) (σ 44) E) (h8 : σ 39 8 = (E : Int)) (hQ : ∀ σ1, ST1 σ σ1 E (fun _ _ => True) → Q 0 σ1) : wp (d + 4) m_L_climb [.inr (.inr 39)] σ Q := by
  have hE := P.1
  have be := P.2.1 E (Nat.le_refl E)
  refine e_L_climb ?_
  simp (discharger := decide) only [h8, ms_ni, ms_nk, ms_eq, Int.toNat_natCast]
  refine ⟨⟨by omega, by omega⟩, ⟨by omega, by omega⟩, ?_⟩
  rw [show w32 ((E : Int) - 1) = (E : Int) - 1 from w32_id (by omega) (by omega)]
  have main : ∀ m : Nat, m ≤ E → ∀ τ, ST1 σ τ E (fun l _ => m ≤ l) → K_L_climb_42 (d + 3) Q (E : Int) ((m : Int) - 1) τ := by
    intro m
    induction m with
    | zero => exact fun _ τ s => e_L_climb_42 ⟨fun _ => hQ τ (s.skip (fun _ _ _ => trivial) (fun _ _ _ _ => Nat.zero_le _)), fun h => absurd h (by decide)⟩
    | succ m ih =>
      intro hm τ s
      rw [show (((m + 1 : Nat) : Int) - 1) = (m : Int) by omega]
      refine e_L_climb_42 ⟨fun h => by omega, fun _ => ?_⟩
      refine upto (n := E) (P := fun r => ∀ τ, ST1 σ τ E (fun l2 r2 => m + 1 ≤ l2 ∨ (l2 = m ∧ r2 < r)) → K_L_climb_48 (d + 3) Q (E : Int) (m : Int) ((r : Nat) : Int) τ) (fun τ s => ?_) (fun r hr ih2 τ s => ?_) τ (s.skip (fun l r h => Or.inl h) (fun l r h _ => by omega))
      · have e8 : τ 39 8 = (E : Int) := by rw [s.1 39 8 (by omega)]; exact h8
        refine e_L_climb_48 ⟨fun h => by omega, fun _ => ?_⟩
        rw [show w32 ((m : Int) + (-1)) = (m : Int) - 1 from w32_id (by omega) (by omega)]
        exact ih (by omega) τ (s.skip (fun l r h => by omega) (fun l r h t => by have := t.2.1; omega))
      · have e8 : τ 39 8 = (E : Int) := by rw [s.1 39 8 (by omega)]; exact h8
        have ar := s.1.arr
        have P' : PT A (τ 42) (τ 43) (τ 44) E := by rw [ar.1, ar.2.1, ar.2.2]; exact P
        have e1 : w32 ((r : Int) + 1) = ((r + 1 : Nat) : Int) := w32_eq (by omega) (by omega)
        have nx : ∀ τ1, ST1 σ τ1 E (fun l2 r2 => m + 1 ≤ l2 ∨ (l2 = m ∧ r2 < r + 1)) → K_L_climb_48 (d + 3) Q (E : Int) (m : Int) ((r + 1 : Nat) : Int) τ1 := ih2
        have no : ¬ stt (σ 42) (σ 43) E m r → K_L_climb_48 (d + 3) Q (E : Int) (m : Int) ((r + 1 : Nat) : Int) τ := fun ht => nx τ (s.skip (fun l2 r2 h => by omega) (fun l2 r2 h t => by
          by_cases z : l2 = m ∧ r2 = r
          · obtain ⟨rfl, rfl⟩ := z; exact absurd t ht
          · omega))
        refine e_L_climb_48 ⟨fun _ => ?_, fun h => by omega⟩
        rw [e1]
        refine sp_L_order P' (by omega) (Nat.le_refl E) ⟨fun h1 => ?_, fun h1 => ?_⟩
        · refine sp_L_order P' (Nat.le_refl E) (by omega) ⟨fun h3 => ?_, fun h3 => ?_⟩
          · rw [ar.1, ar.2.1] at h1 h3
            unfold od at h1 h3
            exact sp_L_climbBridge P s ⟨by omega, hr, by omega, by omega⟩ (fun l2 r2 h => by omega) (by omega) (fun l2 r2 h => by omega) (fun L R h => by omega) nx
          · rw [ar.1, ar.2.1] at h3
            unfold od at h3
            exact no (fun t => by have := t.2.2.2; omega)
        · rw [ar.1, ar.2.1] at h1
          unfold od at h1
          exact no (fun t => by have := t.2.2.1; omega)
  refine main E (Nat.le_refl E) _ ⟨fun k i hk => ?_, E, E, ?_, ?_, Or.inl ⟨rfl, rfl, ?_, ?_, fun l r h t => by have := t.1; omega⟩⟩
  · rw [ms_ne (by omega), ms_ne (by omega), ms_ne (by omega), ms_ne (by omega)]
  · simp (discharger := decide) only [ms_ni, ms_eq]
  · simp (discharger := decide) only [ms_ni, ms_eq]
  · simp (discharger := decide) only [ms_ni, ms_eq]
  · simp (discharger := decide) only [ms_eq]
