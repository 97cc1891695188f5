-- PURE, 17: mix, the reference and the pair
def rowW (A : Mem) (l m t k : Nat) : Prop := ∀ s, s < k → (pt A l t s * (m : Int)).tmod 12 = 0
set_option maxHeartbeats 1000000 in
theorem mix_m {A σ1 : Mem} (hR : RR A) {a b x n m o : Nat} (hn : A 7 10 = (n : Int)) (hn12 : n < 12) (ha : a < n) (hb : b < n) (hx : 1 ≤ x ∧ x ≤ 11) (hk : sg A a + sg A b ≤ 6) (x49 : ∀ i, σ1 49 i = A 49 i) (x53 : ∀ i, σ1 53 i = A 53 i) (x54 : ∀ i, σ1 54 i = A 54 i) (hm : (m : Int) + (o : Int) = A 31 0) (ho : moOK m o) {Q : Int → Mem → Prop}
    (hQ1 : whl A a x ∧ whl A b (12 - x) → ∀ B, ML σ1 B n (sg A a + sg A b) (fMix A a b x) (tN A) m o → B 49 16 = σ1 49 16 → Q (n : Int) B)
    (hQ0 : ¬ (whl A a x ∧ whl A b (12 - x)) → ∀ σ g, WR 54 σ1 σ n g → wp 39 m_M_refuse [.inr (.inr 49), .inl (-3)] σ (fun (r1 : Int) (s2 : Mem) => Q r1 s2))
    {σ2 : Mem} {g2 : Nat → Nat → Int} (hW2 : WR 54 σ1 σ2 n g2) : K_M_mix_98 39 Q (a : Int) (b : Int) (x : Int) 1 0 σ2 := by
  have sc := hR.sc
  have hT4 := tN4 hR.1
  have hTe : A 7 1 = ((tN A : Nat) : Int) := by show A 7 1 = ((A 7 1).toNat : Int); omega
  have hSa := sgI hR (l := a) (by omega)
  have hSb := sgI hR (l := b) (by omega)
  have e12 : w32 (12 - (x : Int)) = ((12 - x : Nat) : Int) := w32_eq (by omega) (by omega)
  refine upto (n := tN A) (P := fun t => ∀ σ g (fl : Int), WR 54 σ1 σ n g → (∀ t2 s, t2 < t → s < sg A a + sg A b → g t2 s = fMix A a b x t2 s) → ((fl = 1 ∧ ∀ t2, t2 < t → rowW A a x t2 (sg A a) ∧ rowW A b (12 - x) t2 (sg A b)) ∨ (fl = 0 ∧ ¬ (whl A a x ∧ whl A b (12 - x)))) → K_M_mix_98 39 Q (a : Int) (b : Int) (x : Int) fl ((t : Nat) : Int) σ) (fun σ g fl hW hg hF => ?_) (fun t ht ih σ g fl hW hg hF => ?_) σ2 g2 1 hW2 (fun t2 s h => absurd h (by omega)) (Or.inl ⟨rfl, fun t2 h => absurd h (by omega)⟩)
  · refine e_M_mix_98 ⟨fun h => by rw [hW.out (by decide), x49] at h; omega, fun _ => ⟨fun h => hQ0 ?_ σ g hW, fun h => ⟨⟨by omega, by omega⟩, ⟨by omega, by omega⟩, ?_⟩⟩⟩
    · rcases hF with hF | hF
      · omega
      · exact hF.2
    · rw [Int.toNat_natCast, Int.toNat_natCast, hW.out (by decide), hW.out (by decide), x53, x53, hSa.2.2.2, hSb.2.2.2]
      have e : w32 (((sg A a : Nat) : Int) + ((sg A b : Nat) : Int)) = ((sg A a + sg A b : Nat) : Int) := w32_eq (by omega) (by omega)
      rw [e]
      have hall : whl A a x ∧ whl A b (12 - x) := by
        rcases hF with hF | hF
        · exact ⟨fun t s ht hs => (hF.2 t ht).1 s hs, fun t s ht hs => (hF.2 t ht).2 s hs⟩
        · exact absurd hF.1 h
      exact sp_M_newLook0 (T := tN A) (m := m) (o := o) hT4 hk hW (by rw [x49]; omega) hn12 hg (by rw [x49]; omega) ho (hQ1 hall)
  · have e0 : σ 49 0 = A 7 1 := by rw [hW.out (by decide), x49]; omega
    refine e_M_mix_98 ⟨fun _ => ?_, fun h => by rw [e0] at h; omega⟩
    have second : ∀ σ g (fl : Int), WR 54 σ1 σ n g → (∀ t2 s, t2 < t → s < sg A a + sg A b → g t2 s = fMix A a b x t2 s) → (∀ s, s < sg A a → g t s = fMix A a b x t s) → ((fl = 1 ∧ (∀ t2, t2 < t → rowW A a x t2 (sg A a) ∧ rowW A b (12 - x) t2 (sg A b)) ∧ rowW A a x t (sg A a)) ∨ (fl = 0 ∧ ¬ (whl A a x ∧ whl A b (12 - x)))) → K_M_mix_188 39 Q (a : Int) (b : Int) (x : Int) fl (t : Int) ((0 : Nat) : Int) σ := by
      intro σ g fl hW hg hga hF
      refine upto (n := sg A b) (P := fun s => ∀ σ g (fl : Int), WR 54 σ1 σ n g → (∀ t2 s, t2 < t → s < sg A a + sg A b → g t2 s = fMix A a b x t2 s) → (∀ s2, s2 < sg A a + s → g t s2 = fMix A a b x t s2) → ((fl = 1 ∧ (∀ t2, t2 < t → rowW A a x t2 (sg A a) ∧ rowW A b (12 - x) t2 (sg A b)) ∧ rowW A a x t (sg A a) ∧ rowW A b (12 - x) t s) ∨ (fl = 0 ∧ ¬ (whl A a x ∧ whl A b (12 - x)))) → K_M_mix_188 39 Q (a : Int) (b : Int) (x : Int) fl (t : Int) ((s : Nat) : Int) σ) (fun σ g fl hW hg hga hF => ?_) (fun s hs ih2 σ g fl hW hg hga hF => ?_) σ g fl hW hg (fun s2 h => hga s2 (by omega)) ?_
      · refine e_M_mix_188 ⟨⟨by omega, by omega⟩, fun h => by rw [Int.toNat_natCast, hW.out (by decide), x53] at h; omega, fun _ => ?_⟩
        have e1 : w32 ((t : Int) + 1) = ((t + 1 : Nat) : Int) := w32_eq (by omega) (by omega)
        rw [e1]
        refine ih σ g fl hW (fun t2 s h1 h2 => ?_) ?_
        · by_cases e : t2 = t
          · subst e; exact hga s h2
          · exact hg t2 s (by omega) h2
        · rcases hF with hF | hF
          · refine Or.inl ⟨hF.1, fun t2 h2 => ?_⟩
            by_cases e : t2 = t
            · subst e; exact hF.2.2
            · exact hF.2.1 t2 (by omega)
          · exact Or.inr hF
      · have e1 : w32 ((s : Int) + 1) = ((s + 1 : Nat) : Int) := w32_eq (by omega) (by omega)
        have e6 : σ 49 6 = (n : Int) := by rw [hW.out (by decide), x49]; omega
        have hbd := pm_bd hR (m := 12 - x) (s := s) (l := b) (by omega) (by omega) ht hs
        have hb2 := shr_bd hR (m := 12 - x) (s := s) (l := b) (by omega) (by omega) ht hs
        have e53 : w32 (σ 53 a + (s : Int)) = ((sg A a + s : Nat) : Int) := by rw [hW.out (by decide), x53, hSa.2.2.2]; exact w32_eq (by omega) (by omega)
        have e9 : σ 54 (24 * b + 6 * t + s) = pt A b t s := by
          rw [hW.1 54 _ (by omega), x54]; exact (partM hR (by omega) ht (by omega)).1
        have nxt : ∀ fl2 : Int, ((fl2 = 1 ∧ (∀ t2, t2 < t → rowW A a x t2 (sg A a) ∧ rowW A b (12 - x) t2 (sg A b)) ∧ rowW A a x t (sg A a) ∧ rowW A b (12 - x) t (s + 1)) ∨ (fl2 = 0 ∧ ¬ (whl A a x ∧ whl A b (12 - x)))) → K_M_mix_188 39 Q (a : Int) (b : Int) (x : Int) fl2 (t : Int) ((s + 1 : Nat) : Int) (mset σ 54 (24 * n + 6 * t + (sg A a + s)) (shr A b (12 - x) t s)) := fun fl2 hF2 => by
          refine ih2 _ _ fl2 (hW.set (by omega) (by omega)) (fun t2 s2 h1 h2 => ?_) (fun s2 h2 => ?_) hF2
          · rw [updG_ne (by omega)]; exact hg t2 s2 h1 h2
          · by_cases e : s2 = sg A a + s
            · subst e
              rw [updG_eq]
              unfold fMix
              rw [if_neg (by omega), show sg A a + s - sg A a = s by omega]
            · rw [updG_ne (by omega)]; exact hga s2 (by omega)
        refine e_M_mix_188 ⟨⟨by omega, by omega⟩, fun _ => ?_, fun h => by rw [Int.toNat_natCast, hW.out (by decide), x53] at h; omega⟩
        refine sp_M_place (by omega) (by omega) (by omega) ⟨⟨by omega, by omega⟩, ?_⟩
        rw [Int.toNat_natCast, Int.toNat_natCast, e9, e12, w32_id (x := pt A b t s * ((12 - x : Nat) : Int)) (by omega) (by omega), e1, e6, e53]
        have e3 : w32 ((pt A b t s * ((12 - x : Nat) : Int)).tdiv 12) = shr A b (12 - x) t s := w32_id (by unfold shr at hb2; omega) (by unfold shr at hb2; omega)
        rw [e3]
        refine ⟨fun h => ⟨⟨by omega, by omega⟩, sp_M_place (by omega) (by omega) (by omega) ⟨⟨by omega, by omega⟩, nxt 0 ?_⟩⟩, fun h => ⟨fun h3 => ⟨⟨by omega, by omega⟩, sp_M_place (by omega) (by omega) (by omega) ⟨⟨by omega, by omega⟩, nxt 1 ?_⟩⟩, fun h3 => ⟨⟨by omega, by omega⟩, sp_M_place (by omega) (by omega) (by omega) ⟨⟨by omega, by omega⟩, nxt 0 ?_⟩⟩⟩⟩
        · rcases hF with hF | hF
          · omega
          · exact Or.inr ⟨rfl, hF.2⟩
        · rcases hF with hF | hF
          · refine Or.inl ⟨rfl, hF.2.1, hF.2.2.1, fun s2 h2 => ?_⟩
            by_cases e : s2 = s
            · subst e; exact h3
            · exact hF.2.2.2 s2 (by omega)
          · omega
        · exact Or.inr ⟨rfl, fun z => h3 (z.2 t s ht hs)⟩
      · rcases hF with hF | hF
        · exact Or.inl ⟨hF.1, hF.2.1, hF.2.2, fun s h => absurd h (by omega)⟩
        · exact Or.inr hF
    refine upto (n := sg A a) (P := fun s => ∀ σ g (fl : Int), WR 54 σ1 σ n g → (∀ t2 s, t2 < t → s < sg A a + sg A b → g t2 s = fMix A a b x t2 s) → (∀ s2, s2 < s → g t s2 = fMix A a b x t s2) → ((fl = 1 ∧ (∀ t2, t2 < t → rowW A a x t2 (sg A a) ∧ rowW A b (12 - x) t2 (sg A b)) ∧ rowW A a x t s) ∨ (fl = 0 ∧ ¬ (whl A a x ∧ whl A b (12 - x)))) → K_M_mix_110 39 Q (a : Int) (b : Int) (x : Int) fl (t : Int) ((s : Nat) : Int) σ) (fun σ g fl hW hg hga hF => ?_) (fun s hs ih2 σ g fl hW hg hga hF => ?_) σ g fl hW hg (fun s2 h => absurd h (by omega)) ?_
    · refine e_M_mix_110 ⟨⟨by omega, by omega⟩, fun h => by rw [Int.toNat_natCast, hW.out (by decide), x53] at h; omega, fun _ => ?_⟩
      exact second σ g fl hW hg hga hF
    · have e1 : w32 ((s : Int) + 1) = ((s + 1 : Nat) : Int) := w32_eq (by omega) (by omega)
      have e6 : σ 49 6 = (n : Int) := by rw [hW.out (by decide), x49]; omega
      have hbd := pm_bd hR (m := x) (s := s) (l := a) (by omega) (by omega) ht hs
      have hb2 := shr_bd hR (m := x) (s := s) (l := a) (by omega) (by omega) ht hs
      have e9 : σ 54 (24 * a + 6 * t + s) = pt A a t s := by
        rw [hW.1 54 _ (by omega), x54]; exact (partM hR (by omega) ht (by omega)).1
      have nxt : ∀ fl2 : Int, ((fl2 = 1 ∧ (∀ t2, t2 < t → rowW A a x t2 (sg A a) ∧ rowW A b (12 - x) t2 (sg A b)) ∧ rowW A a x t (s + 1)) ∨ (fl2 = 0 ∧ ¬ (whl A a x ∧ whl A b (12 - x)))) → K_M_mix_110 39 Q (a : Int) (b : Int) (x : Int) fl2 (t : Int) ((s + 1 : Nat) : Int) (mset σ 54 (24 * n + 6 * t + s) (shr A a x t s)) := fun fl2 hF2 => by
        refine ih2 _ _ fl2 (hW.set (by omega) (by omega)) (fun t2 s2 h1 h2 => ?_) (fun s2 h2 => ?_) hF2
        · rw [updG_ne (by omega)]; exact hg t2 s2 h1 h2
        · by_cases e : s2 = s
          · subst e
            rw [updG_eq]
            unfold fMix
            rw [if_pos hs]
          · rw [updG_ne (by omega)]; exact hga s2 (by omega)
      refine e_M_mix_110 ⟨⟨by omega, by omega⟩, fun _ => ?_, fun h => by rw [Int.toNat_natCast, hW.out (by decide), x53] at h; omega⟩
      refine sp_M_place (by omega) (by omega) (by omega) ⟨⟨by omega, by omega⟩, ?_⟩
      rw [Int.toNat_natCast, e9, w32_id (x := pt A a t s * (x : Int)) (by omega) (by omega), e1, e6]
      have e3 : w32 ((pt A a t s * (x : Int)).tdiv 12) = shr A a x t s := w32_id (by unfold shr at hb2; omega) (by unfold shr at hb2; omega)
      rw [e3]
      refine ⟨fun h => sp_M_place (by omega) (by omega) (by omega) ⟨⟨by omega, by omega⟩, nxt 0 ?_⟩, fun h => ⟨fun h3 => sp_M_place (by omega) (by omega) (by omega) ⟨⟨by omega, by omega⟩, nxt 1 ?_⟩, fun h3 => sp_M_place (by omega) (by omega) (by omega) ⟨⟨by omega, by omega⟩, nxt 0 ?_⟩⟩⟩
      · rcases hF with hF | hF
        · omega
        · exact Or.inr ⟨rfl, hF.2⟩
      · rcases hF with hF | hF
        · refine Or.inl ⟨rfl, hF.2.1, fun s2 h2 => ?_⟩
          by_cases e : s2 = s
          · subst e; exact h3
          · exact hF.2.2 s2 (by omega)
        · omega
      · exact Or.inr ⟨rfl, fun z => h3 (z.1 t s ht hs)⟩
    · rcases hF with hF | hF
      · exact Or.inl ⟨hF.1, hF.2, fun s h => absurd h (by omega)⟩
      · exact Or.inr hF
theorem pr_mix {A : Mem} (hR : RR A) {a1 : Int} (i1 : InI a1) {a2 : Int} (i2 : InI a2) {a3 : Int} (i3 : InI a3) : wp 40 m_X_mix [.inr (.inr 0), .inl a1, .inl a2, .inl a3] A (fun r σ1 => wp 40 m_M_mix [.inr (.inr 49), .inl a1, .inl a2, .inl a3] σ1 (fun r2 σ2 => PQ r r2 σ2)) := by
  have sc := hR.sc
  have hT4 := tN4 hR.1
  unfold InI at i1 i2 i3
  have hs : ∀ l : Nat, (l : Int) < A 7 10 → A 53 l = A 13 l ∧ 1 ≤ A 13 l ∧ A 13 l ≤ 6 := fun l hl => hR.1.sgn hl
  have hs1 := hs a1.toNat
  have hs2 := hs a2.toNat
  repeat' first
    | with_reducible refine e_X_mix ?_
    | with_reducible refine e_S_hasLook ?_
    | with_reducible refine xr1 ?_
    | with_reducible refine xr2 ?_
    | with_reducible refine xr3 ?_
    | with_reducible refine xr4 ?_
    | with_reducible refine xr6 ?_
    | with_reducible refine mr1 ?_
    | with_reducible refine mr2 ?_
    | with_reducible refine mr3 ?_
    | with_reducible refine mr4 ?_
    | with_reducible refine mr6 ?_
    | with_reducible refine xf1 ?_
    | with_reducible refine xf2 ?_
    | with_reducible refine xf3 ?_
    | with_reducible refine xf6 ?_
    | with_reducible refine mf1 ?_
    | with_reducible refine mf2 ?_
    | with_reducible refine mf3 ?_
    | with_reducible refine mf6 ?_
    | with_reducible exact isB0
    | with_reducible exact isB1
    | with_reducible refine And.intro ?_ ?_
    | (with_reducible refine fun (hz : (_ : Int) < _) => ?_) <;> ((try simp (discharger := first | decide | omega) only [ms_eq, ms_nk, ms_ni, w32_id, w64_id, Int.toNat_natCast, not_true_eq_false, not_false_eq_true] at hz) ; (try (exfalso; omega)))
    | (with_reducible refine fun (hz : (_ : Int) ≤ _) => ?_) <;> ((try simp (discharger := first | decide | omega) only [ms_eq, ms_nk, ms_ni, w32_id, w64_id, Int.toNat_natCast, not_true_eq_false, not_false_eq_true] at hz) ; (try (exfalso; omega)))
    | (with_reducible refine fun (hz : (_ : Int) = _) => ?_) <;> ((try simp (discharger := first | decide | omega) only [ms_eq, ms_nk, ms_ni, w32_id, w64_id, Int.toNat_natCast, not_true_eq_false, not_false_eq_true] at hz) ; (try (exfalso; omega)))
    | (with_reducible refine fun (hz : ¬ (_ : Int) = _) => ?_) <;> ((try simp (discharger := first | decide | omega) only [ms_eq, ms_nk, ms_ni, w32_id, w64_id, Int.toNat_natCast, not_true_eq_false, not_false_eq_true] at hz) ; (try (exfalso; omega)))
    | (with_reducible refine fun (hz : _ ∨ _) => ?_) <;> ((try simp (discharger := first | decide | omega) only [ms_eq, ms_nk, ms_ni, w32_id, w64_id, Int.toNat_natCast, not_true_eq_false, not_false_eq_true] at hz) ; (try (exfalso; omega)))
    | omega
    | (simp (discharger := first | decide | omega) only [ms_eq, ms_nk, ms_ni, w32_id, w64_id, Int.toNat_natCast, not_true_eq_false, not_false_eq_true] ; omega)
  all_goals first
    | (repeat' first
      | with_reducible refine e_M_mix ?_
      | with_reducible refine e_M_isLook ?_
      | with_reducible refine e_M_in ?_
      | with_reducible refine xr1 ?_
      | with_reducible refine xr2 ?_
      | with_reducible refine xr3 ?_
      | with_reducible refine xr4 ?_
      | with_reducible refine xr6 ?_
      | with_reducible refine mr1 ?_
      | with_reducible refine mr2 ?_
      | with_reducible refine mr3 ?_
      | with_reducible refine mr4 ?_
      | with_reducible refine mr6 ?_
      | with_reducible refine xf1 ?_
      | with_reducible refine xf2 ?_
      | with_reducible refine xf3 ?_
      | with_reducible refine xf6 ?_
      | with_reducible refine mf1 ?_
      | with_reducible refine mf2 ?_
      | with_reducible refine mf3 ?_
      | with_reducible refine mf6 ?_
      | with_reducible exact isB0
      | with_reducible exact isB1
      | with_reducible refine And.intro ?_ ?_
      | (with_reducible refine fun (hz : (_ : Int) < _) => ?_) <;> ((try simp (discharger := first | decide | omega) only [ms_eq, ms_nk, ms_ni, w32_id, w64_id, Int.toNat_natCast, not_true_eq_false, not_false_eq_true] at hz) ; (try (exfalso; omega)))
      | (with_reducible refine fun (hz : (_ : Int) ≤ _) => ?_) <;> ((try simp (discharger := first | decide | omega) only [ms_eq, ms_nk, ms_ni, w32_id, w64_id, Int.toNat_natCast, not_true_eq_false, not_false_eq_true] at hz) ; (try (exfalso; omega)))
      | (with_reducible refine fun (hz : (_ : Int) = _) => ?_) <;> ((try simp (discharger := first | decide | omega) only [ms_eq, ms_nk, ms_ni, w32_id, w64_id, Int.toNat_natCast, not_true_eq_false, not_false_eq_true] at hz) ; (try (exfalso; omega)))
      | (with_reducible refine fun (hz : ¬ (_ : Int) = _) => ?_) <;> ((try simp (discharger := first | decide | omega) only [ms_eq, ms_nk, ms_ni, w32_id, w64_id, Int.toNat_natCast, not_true_eq_false, not_false_eq_true] at hz) ; (try (exfalso; omega)))
      | (with_reducible refine fun (hz : _ ∨ _) => ?_) <;> ((try simp (discharger := first | decide | omega) only [ms_eq, ms_nk, ms_ni, w32_id, w64_id, Int.toNat_natCast, not_true_eq_false, not_false_eq_true] at hz) ; (try (exfalso; omega)))
      | omega
      | (simp (discharger := first | decide | omega) only [ms_eq, ms_nk, ms_ni, w32_id, w64_id, Int.toNat_natCast, not_true_eq_false, not_false_eq_true] ; omega)
       all_goals first
         | exact PQ.rf0 hR (by decide)
         | skip
       done)
    | skip
  obtain ⟨m, o, hm, ho⟩ := moEx (n := A 31 0) (by omega)
  obtain ⟨a, rfl⟩ : ∃ k : Nat, a1 = (k : Int) := ⟨a1.toNat, by omega⟩
  obtain ⟨b, rfl⟩ : ∃ k : Nat, a2 = (k : Int) := ⟨a2.toNat, by omega⟩
  obtain ⟨x, rfl⟩ : ∃ k : Nat, a3 = (k : Int) := ⟨a3.toNat, by omega⟩
  obtain ⟨n, hn⟩ : ∃ n : Nat, A 7 10 = (n : Int) := ⟨(A 7 10).toNat, by omega⟩
  simp only [Int.toNat_natCast] at *
  have hn12 : n < 12 := by omega
  have hSa := sgI hR (l := a) (by omega)
  have hSb := sgI hR (l := b) (by omega)
  have e12 : w32 (12 - (x : Int)) = ((12 - x : Nat) : Int) := w32_eq (by omega) (by omega)
  have ek : w32 (A 13 a + A 13 b) = ((sg A a + sg A b : Nat) : Int) := w32_eq (by omega) (by omega)
  have hk6 : sg A a + sg A b ≤ 6 := by omega
  rw [e12, ek]
  have refd : ¬ (whl A a x ∧ whl A b (12 - x)) → wp 40 m_M_mix [.inr (.inr 49), .inl (a : Int), .inl (b : Int), .inl (x : Int)] (mset A 48 3 (w32 (A 48 3 + 1))) (fun r2 σ2 => PQ (-3) r2 σ2) := fun hno => by
    repeat' first
      | with_reducible refine e_M_mix ?_
      | with_reducible refine e_M_isLook ?_
      | with_reducible refine e_M_in ?_
      | with_reducible refine xr1 ?_
      | with_reducible refine xr2 ?_
      | with_reducible refine xr3 ?_
      | with_reducible refine xr4 ?_
      | with_reducible refine xr6 ?_
      | with_reducible refine mr1 ?_
      | with_reducible refine mr2 ?_
      | with_reducible refine mr3 ?_
      | with_reducible refine mr4 ?_
      | with_reducible refine mr6 ?_
      | with_reducible refine xf1 ?_
      | with_reducible refine xf2 ?_
      | with_reducible refine xf3 ?_
      | with_reducible refine xf6 ?_
      | with_reducible refine mf1 ?_
      | with_reducible refine mf2 ?_
      | with_reducible refine mf3 ?_
      | with_reducible refine mf6 ?_
      | with_reducible exact isB0
      | with_reducible exact isB1
      | with_reducible refine And.intro ?_ ?_
      | (with_reducible refine fun (hz : (_ : Int) < _) => ?_) <;> ((try simp (discharger := first | decide | omega) only [ms_eq, ms_nk, ms_ni, w32_id, w64_id, Int.toNat_natCast, not_true_eq_false, not_false_eq_true] at hz) ; (try (exfalso; omega)))
      | (with_reducible refine fun (hz : (_ : Int) ≤ _) => ?_) <;> ((try simp (discharger := first | decide | omega) only [ms_eq, ms_nk, ms_ni, w32_id, w64_id, Int.toNat_natCast, not_true_eq_false, not_false_eq_true] at hz) ; (try (exfalso; omega)))
      | (with_reducible refine fun (hz : (_ : Int) = _) => ?_) <;> ((try simp (discharger := first | decide | omega) only [ms_eq, ms_nk, ms_ni, w32_id, w64_id, Int.toNat_natCast, not_true_eq_false, not_false_eq_true] at hz) ; (try (exfalso; omega)))
      | (with_reducible refine fun (hz : ¬ (_ : Int) = _) => ?_) <;> ((try simp (discharger := first | decide | omega) only [ms_eq, ms_nk, ms_ni, w32_id, w64_id, Int.toNat_natCast, not_true_eq_false, not_false_eq_true] at hz) ; (try (exfalso; omega)))
      | (with_reducible refine fun (hz : _ ∨ _) => ?_) <;> ((try simp (discharger := first | decide | omega) only [ms_eq, ms_nk, ms_ni, w32_id, w64_id, Int.toNat_natCast, not_true_eq_false, not_false_eq_true] at hz) ; (try (exfalso; omega)))
      | omega
      | (simp (discharger := first | decide | omega) only [ms_eq, ms_nk, ms_ni, w32_id, w64_id, Int.toNat_natCast, not_true_eq_false, not_false_eq_true] ; omega)
    refine sp_M_clear (n := n) (by simp (discharger := first | decide | omega) only [ms_eq, ms_nk, ms_ni, w32_id, w64_id, Int.toNat_natCast, not_true_eq_false, not_false_eq_true]; omega) hn12 (fun σ2 g2 hW2 hg2 => ?_)
    refine mix_m hR hn hn12 (by omega) (by omega) (by omega) hk6 (fun i => ms_nk (by decide)) (fun i => ms_nk (by decide)) (fun i => ms_nk (by decide)) hm ho (fun h => absurd h hno) (fun _ σ g hW => mr3 ⟨rfl, ?_⟩) hW2
    have e1 : σ 64 3 = A 64 3 := by rw [hW.out (by decide)]; rfl
    rw [e1]
    have hW3 : WR 54 (mset (mset A 48 3 (w32 (A 48 3 + 1))) 64 3 (w32 (A 64 3 + 1))) (mset σ 64 3 (w32 (A 64 3 + 1))) n g := by
      refine ⟨fun k i hk => ?_, fun t s ht hs => ?_⟩
      · by_cases e : k = 64 ∧ i = 3
        · rw [e.1, e.2, ms_eq, ms_eq]
        · rw [ms_ne (by omega), hW.1 k i hk, ms_ne (σ := mset A 48 3 (w32 (A 48 3 + 1))) (by omega)]
      · rw [ms_nk (by decide)]; exact hW.2 t s ht hs
    exact hW3.RR (hR.rf rfl rfl (by decide)) hn
  refine sp_S_isWhole hR (by omega) (by omega) (fun w1 => ⟨fun h => by omega, fun _ => ?_⟩) (fun w1 => ⟨fun _ => xr3 (refd (fun z => w1 z.1)), fun h => absurd rfl h⟩)
  refine sp_S_isWhole hR (by omega) (by omega) (fun w2 => ⟨fun h => by omega, fun _ => ?_⟩) (fun w2 => ⟨fun _ => xr3 (refd (fun z => w2 z.2)), fun h => absurd rfl h⟩)
  refine sp_S_writeShare (f0 := 0) hR hn hn12 (by omega) (by omega) (by omega) WR.rfl (fun s18 g1 hW1 _ hg1 => ⟨⟨by omega, by omega⟩, ?_⟩)
  rw [hW1.out (by decide), hSa.1]
  refine sp_S_writeShare hR hn hn12 (by omega) (by omega) hk6 hW1 (fun s20 g2 hW2 hg2 hg3 => ?_)
  refine sp_X_keepLook0 (f := fMix A a b x) hT4 hk6 hW2 hn hn12 (fun t s ht hs => ?_) hm ho (fun σ1 X hv => ?_)
  · unfold fMix
    by_cases e : s < sg A a
    · rw [if_pos e, hg2 t s ht e]
      have := hg1 t s ht e
      rw [Nat.zero_add] at this
      exact this
    · rw [if_neg e]
      have := hg3 t (s - sg A a) ht (by omega)
      rw [show sg A a + (s - sg A a) = s by omega] at this
      exact this
  · have x49 : ∀ i, σ1 49 i = A 49 i := fun i => X.1 49 i (by omega) (by omega) (by omega) (by omega) (by omega)
    have x53 : ∀ i, σ1 53 i = A 53 i := fun i => X.1 53 i (by omega) (by omega) (by omega) (by omega) (by omega)
    have x54 : ∀ i, σ1 54 i = A 54 i := fun i => X.1 54 i (by omega) (by omega) (by omega) (by omega) (by omega)
    have y1 := hSa.2.2.2
    have y2 := hSb.2.2.2
    repeat' first
      | with_reducible refine e_M_mix ?_
      | with_reducible refine e_M_isLook ?_
      | with_reducible refine e_M_in ?_
      | with_reducible refine xr1 ?_
      | with_reducible refine xr2 ?_
      | with_reducible refine xr3 ?_
      | with_reducible refine xr4 ?_
      | with_reducible refine xr6 ?_
      | with_reducible refine mr1 ?_
      | with_reducible refine mr2 ?_
      | with_reducible refine mr3 ?_
      | with_reducible refine mr4 ?_
      | with_reducible refine mr6 ?_
      | with_reducible refine xf1 ?_
      | with_reducible refine xf2 ?_
      | with_reducible refine xf3 ?_
      | with_reducible refine xf6 ?_
      | with_reducible refine mf1 ?_
      | with_reducible refine mf2 ?_
      | with_reducible refine mf3 ?_
      | with_reducible refine mf6 ?_
      | with_reducible exact isB0
      | with_reducible exact isB1
      | with_reducible refine And.intro ?_ ?_
      | (with_reducible refine fun (hz : (_ : Int) < _) => ?_) <;> ((try simp (discharger := first | decide | omega) only [ms_eq, ms_nk, ms_ni, w32_id, w64_id, Int.toNat_natCast, not_true_eq_false, not_false_eq_true, x49, x53, y1, y2] at hz) ; (try (exfalso; omega)))
      | (with_reducible refine fun (hz : (_ : Int) ≤ _) => ?_) <;> ((try simp (discharger := first | decide | omega) only [ms_eq, ms_nk, ms_ni, w32_id, w64_id, Int.toNat_natCast, not_true_eq_false, not_false_eq_true, x49, x53, y1, y2] at hz) ; (try (exfalso; omega)))
      | (with_reducible refine fun (hz : (_ : Int) = _) => ?_) <;> ((try simp (discharger := first | decide | omega) only [ms_eq, ms_nk, ms_ni, w32_id, w64_id, Int.toNat_natCast, not_true_eq_false, not_false_eq_true, x49, x53, y1, y2] at hz) ; (try (exfalso; omega)))
      | (with_reducible refine fun (hz : ¬ (_ : Int) = _) => ?_) <;> ((try simp (discharger := first | decide | omega) only [ms_eq, ms_nk, ms_ni, w32_id, w64_id, Int.toNat_natCast, not_true_eq_false, not_false_eq_true, x49, x53, y1, y2] at hz) ; (try (exfalso; omega)))
      | (with_reducible refine fun (hz : _ ∨ _) => ?_) <;> ((try simp (discharger := first | decide | omega) only [ms_eq, ms_nk, ms_ni, w32_id, w64_id, Int.toNat_natCast, not_true_eq_false, not_false_eq_true, x49, x53, y1, y2] at hz) ; (try (exfalso; omega)))
      | omega
      | (simp (discharger := first | decide | omega) only [ms_eq, ms_nk, ms_ni, w32_id, w64_id, Int.toNat_natCast, not_true_eq_false, not_false_eq_true, x49, x53, y1, y2] ; omega)
    refine sp_M_clear (n := n) (by rw [x49]; omega) hn12 (fun σ2 g4 hW4 hg4 => ?_)
    refine mix_m hR hn hn12 (by omega) (by omega) (by omega) hk6 x49 x53 x54 hm ho (fun _ B M hv2 => ⟨rfl, ?_⟩) (fun h => absurd ⟨w1, w2⟩ h) hW4
    refine hR.addLook hn hn12 (by omega) hm ho X M (Or.inl ⟨hv, hv2⟩) (fun t s ht hs => ?_) (fun t ht => ?_)
    · unfold fMix
      split
      · exact shr_bd hR (by omega) (by omega) ht (by omega)
      · exact shr_bd hR (by omega) (by omega) ht (by omega)
    · have := sumN_app (u := fun s => shr A a x t s) (v := fun s => shr A b (12 - x) t s) (a := sg A a) (b := sg A b)
      show sumN (sg A a + sg A b) (fun s => if s < sg A a then shr A a x t s else shr A b (12 - x) t (s - sg A a)) = 60
      rw [this]
      have h1 := shr_sum hR (l := a) (t := t) (by omega) w1 ht
      have h2 := shr_sum hR (l := b) (t := t) (by omega) w2 ht
      omega
