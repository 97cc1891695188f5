-- PURE, 16: mix
/-- parts of look l come out whole, times m by 12 -/
def whl (A : Mem) (l m : Nat) : Prop := ∀ t s, t < tN A → s < sg A l → (pt A l t s * (m : Int)).tmod 12 = 0
def shr (A : Mem) (l m t s : Nat) : Int := (pt A l t s * (m : Int)).tdiv 12
def fMix (A : Mem) (a b m t s : Nat) : Int := if s < sg A a then shr A a m t s else shr A b (12 - m) t (s - sg A a)
theorem sgI {A : Mem} (hR : RR A) {l : Nat} (hl : (l : Int) < A 7 10) : A 13 l = ((sg A l : Nat) : Int) ∧ 1 ≤ sg A l ∧ sg A l ≤ 6 ∧ A 53 l = ((sg A l : Nat) : Int) := by
  have := hR.1.sgn hl
  have h2 : A 53 l = A 13 l := this.1
  unfold sg
  omega
theorem pm_bd {A : Mem} (hR : RR A) {l m t s : Nat} (hl : (l : Int) < A 7 10) (hm : m ≤ 12) (ht : t < tN A) (hs : s < sg A l) : 0 ≤ pt A l t s * (m : Int) ∧ pt A l t s * (m : Int) ≤ 720 := by
  have h := (partM hR hl ht (s := s) (by have := (sgI hR hl).1; omega)).2
  refine ⟨Int.mul_nonneg h.1 (by omega), ?_⟩
  have : pt A l t s * (m : Int) ≤ 60 * 12 := Int.mul_le_mul h.2 (by omega) (by omega) (by omega)
  omega
theorem shr_bd {A : Mem} (hR : RR A) {l m t s : Nat} (hl : (l : Int) < A 7 10) (hm : m ≤ 12) (ht : t < tN A) (hs : s < sg A l) : 0 ≤ shr A l m t s ∧ shr A l m t s ≤ 60 := by
  have := pm_bd hR hl hm ht hs
  unfold shr
  rw [Int.tdiv_eq_ediv_of_nonneg this.1]
  omega
theorem shr_sum {A : Mem} (hR : RR A) {l m t : Nat} (hl : (l : Int) < A 7 10) (hw : whl A l m) (ht : t < tN A) : 12 * sumN (sg A l) (fun s => shr A l m t s) = 60 * (m : Int) := by
  rw [← sumN_mul, ← hR.1.sum60 hl ht, Int.mul_comm (sumN _ _), ← sumN_mul]
  refine sumN_congr (fun s hs => ?_)
  have h1 := hw t s ht hs
  have h2 := Int.mul_tdiv_add_tmod (pt A l t s * (m : Int)) 12
  unfold shr
  rw [Int.mul_comm (m : Int)]
  omega
theorem sumN_app {u v : Nat → Int} {a : Nat} : ∀ {b : Nat}, sumN (a + b) (fun s => if s < a then u s else v (s - a)) = sumN a u + sumN b v
  | 0 => by
    rw [Nat.add_zero, sumN_congr (g := u) (fun s hs => if_pos hs)]
    exact (Int.add_zero _).symm
  | b + 1 => by
    show sumN (a + b) (fun s => if s < a then u s else v (s - a)) + (if a + b < a then u (a + b) else v (a + b - a)) = sumN a u + (sumN b v + v b)
    rw [sumN_app, if_neg (by omega), show a + b - a = b by omega]
    omega
theorem sp_S_isWhole {d : Nat} {A : Mem} {Q : Int → Mem → Prop} (hR : RR A) {l m : Nat} (hl : (l : Int) < A 7 10) (hm : m ≤ 12) (h1 : whl A l m → Q 1 A) (h0 : ¬ whl A l m → Q 0 A) : wp (d + 2) m_S_isWhole [.inr (.inr 7), .inl (l : Int), .inl (m : Int)] A Q := by
  have sc := hR.sc
  have hT4 := tN4 hR.1
  have hTe : A 7 1 = ((tN A : Nat) : Int) := by show A 7 1 = ((A 7 1).toNat : Int); omega
  have hS := sgI hR hl
  refine e_S_isWhole ?_
  refine upto (n := tN A) (P := fun t => (∀ t2 s, t2 < t → s < sg A l → (pt A l t2 s * (m : Int)).tmod 12 = 0) → K_S_isWhole_2 (d + 1) Q (l : Int) (m : Int) ((t : Nat) : Int) A) (fun hg => ?_) (fun t ht ih hg => ?_) (fun t2 s h => absurd h (by omega))
  · exact e_S_isWhole_2 ⟨fun h => by omega, fun _ => h1 hg⟩
  · refine e_S_isWhole_2 ⟨fun _ => ?_, fun h => by omega⟩
    refine upto (n := sg A l) (P := fun s => (∀ s2, s2 < s → (pt A l t s2 * (m : Int)).tmod 12 = 0) → K_S_isWhole_13 (d + 1) Q (l : Int) (m : Int) (t : Int) ((s : Nat) : Int) A) (fun hg2 => ?_) (fun s hs ih2 hg2 => ?_) (fun s2 h => absurd h (by omega))
    · refine e_S_isWhole_13 ⟨⟨by omega, by omega⟩, fun h => by rw [Int.toNat_natCast] at h; omega, fun _ => ?_⟩
      have e1 : w32 ((t : Int) + 1) = ((t + 1 : Nat) : Int) := w32_eq (by omega) (by omega)
      rw [e1]
      refine ih (fun t2 s2 h3 h4 => ?_)
      by_cases e : t2 = t
      · subst e; exact hg2 s2 h4
      · exact hg t2 s2 (by omega) h4
    · have e1 : w32 ((s : Int) + 1) = ((s + 1 : Nat) : Int) := w32_eq (by omega) (by omega)
      have hb := pm_bd hR (m := m) (s := s) hl hm ht hs
      refine e_S_isWhole_13 ⟨⟨by omega, by omega⟩, fun _ => ?_, fun h => by rw [Int.toNat_natCast] at h; omega⟩
      refine sp_S_partOf Eqv.rfl (by omega) (by omega) (by omega) ?_
      rw [w32_id (by omega) (by omega), e1]
      refine ⟨fun h => ih2 (fun s2 h2 => ?_), fun h => h0 (fun z => h (z t s ht hs))⟩
      by_cases e : s2 = s
      · subst e; exact h
      · exact hg2 s2 (by omega)
theorem sp_S_writeShare {d : Nat} {A σ : Mem} {Q : Int → Mem → Prop} (hR : RR A) {l m n f0 : Nat} {g : Nat → Nat → Int} (hn : A 7 10 = (n : Int)) (hn12 : n < 12) (hl : l < n) (hm : m ≤ 12) (hf : f0 + sg A l ≤ 6) (hW : WR 14 A σ n g) (hQ : ∀ σ1 g1, WR 14 A σ1 n g1 → (∀ t s, t < tN A → s < f0 → g1 t s = g t s) → (∀ t s, t < tN A → s < sg A l → g1 t (f0 + s) = shr A l m t s) → Q 0 σ1) : wp (d + 2) m_S_writeShare [.inr (.inr 7), .inl (l : Int), .inl (m : Int), .inl (f0 : Int)] σ Q := by
  have sc := hR.sc
  have hT4 := tN4 hR.1
  have hTe : A 7 1 = ((tN A : Nat) : Int) := by show A 7 1 = ((A 7 1).toNat : Int); omega
  have hS := sgI hR (l := l) (by omega)
  refine e_S_writeShare ?_
  refine upto (n := tN A) (P := fun t => ∀ σ g1, WR 14 A σ n g1 → (∀ t2 s, t2 < tN A → s < f0 → g1 t2 s = g t2 s) → (∀ t2 s, t2 < t → s < sg A l → g1 t2 (f0 + s) = shr A l m t2 s) → K_S_writeShare_3 (d + 1) Q (l : Int) (m : Int) (f0 : Int) ((t : Nat) : Int) σ) (fun σ g1 hW hg0 hg => ?_) (fun t ht ih σ g1 hW hg0 hg => ?_) σ g hW (fun _ _ _ _ => rfl) (fun t2 s h => absurd h (by omega))
  · exact e_S_writeShare_3 ⟨fun h => by rw [hW.out (by decide)] at h; omega, fun _ => hQ σ g1 hW hg0 hg⟩
  · have e0 : σ 7 1 = A 7 1 := hW.out (by decide)
    refine e_S_writeShare_3 ⟨fun _ => ?_, fun h => by rw [e0] at h; omega⟩
    refine upto (n := sg A l) (P := fun s => ∀ σ g1, WR 14 A σ n g1 → (∀ t2 s, t2 < tN A → s < f0 → g1 t2 s = g t2 s) → (∀ t2 s, t2 < t → s < sg A l → g1 t2 (f0 + s) = shr A l m t2 s) → (∀ s2, s2 < s → g1 t (f0 + s2) = shr A l m t s2) → K_S_writeShare_15 (d + 1) Q (l : Int) (m : Int) (f0 : Int) (t : Int) ((s : Nat) : Int) σ) (fun σ g1 hW hg0 hg hg2 => ?_) (fun s hs ih2 σ g1 hW hg0 hg hg2 => ?_) σ g1 hW hg0 hg (fun s2 h => absurd h (by omega))
    · refine e_S_writeShare_15 ⟨⟨by omega, by omega⟩, fun h => by rw [Int.toNat_natCast, hW.out (by decide)] at h; omega, fun _ => ?_⟩
      have e1 : w32 ((t : Int) + 1) = ((t + 1 : Nat) : Int) := w32_eq (by omega) (by omega)
      rw [e1]
      refine ih _ _ hW hg0 (fun t2 s2 h3 h4 => ?_)
      by_cases e : t2 = t
      · subst e; exact hg2 s2 h4
      · exact hg t2 s2 (by omega) h4
    · have e1 : w32 ((s : Int) + 1) = ((s + 1 : Nat) : Int) := w32_eq (by omega) (by omega)
      have e2 : w32 ((f0 : Int) + (s : Int)) = ((f0 + s : Nat) : Int) := w32_eq (by omega) (by omega)
      have hb := pm_bd hR (m := m) (s := s) (l := l) (by omega) hm ht hs
      have hb2 := shr_bd hR (m := m) (s := s) (l := l) (by omega) hm ht hs
      refine e_S_writeShare_15 ⟨⟨by omega, by omega⟩, fun _ => ?_, fun h => by rw [Int.toNat_natCast, hW.out (by decide)] at h; omega⟩
      refine sp_S_partOf2 hW hl (by omega) (by omega) (by omega) ?_
      rw [w32_id (x := pt A l t s * (m : Int)) (by omega) (by omega), e1, e2]
      have e3 : w32 ((pt A l t s * (m : Int)).tdiv 12) = shr A l m t s := w32_id (by unfold shr at hb2; omega) (by unfold shr at hb2; omega)
      rw [e3]
      refine sp_S_write hW hn hn12 (by omega) (by omega) (fun σ3 hW3 => ih2 _ _ hW3 (fun t2 s2 h1 h2 => ?_) (fun t2 s2 h1 h2 => ?_) (fun s2 h2 => ?_))
      · rw [updG_ne (by omega)]; exact hg0 t2 s2 h1 h2
      · rw [updG_ne (by omega)]; exact hg t2 s2 h1 h2
      · by_cases e : s2 = s
        · subst e; exact updG_eq
        · rw [updG_ne (by omega)]; exact hg2 s2 (by omega)
theorem RR.c54 {A : Mem} {r : Nat → Int} {n : Nat} (h : RR A) (hn : A 7 10 = (n : Int)) (hr : ∀ i, i < 24 * n → r i = A 54 i) : RR (fun k i => if k = 54 then r i else A k i) := by
  refine ⟨⟨h.1.1, h.1.2.1, h.1.2.2.1, h.1.2.2.2.1, h.1.2.2.2.2.1, h.1.2.2.2.2.2.1, h.1.2.2.2.2.2.2.1, fun l t s hl ht hs => ?_, h.1.2.2.2.2.2.2.2.2⟩, h.2⟩
  have hl2 : (l : Int) < A 7 10 := hl
  have ht2 : (t : Int) < A 7 1 := ht
  have hs2 : (s : Int) < A 13 l := hs
  have h1 := h.1.tr
  have h2 := h.1.sgn hl2
  have g := h.1.prt hl2 ht2 hs2
  refine ⟨?_, g.2⟩
  show r (24 * l + 6 * t + s) = _
  rw [hr _ (by omega)]
  exact g.1
theorem WR.RR {A σ : Mem} {n : Nat} {g : Nat → Nat → Int} (h : RR A) (hn : A 7 10 = (n : Int)) (hW : WR 54 A σ n g) : RR σ := by
  have e : σ = (fun k i => if k = 54 then σ 54 i else A k i) := by
    funext k i
    split
    · rename_i hk; rw [hk]
    · rename_i hk; exact hW.out hk
  rw [e]
  exact h.c54 hn (fun i hi => hW.1 54 i (by omega))
