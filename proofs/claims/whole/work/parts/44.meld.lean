-- PURE, 15: meld
theorem sumN_le {f : Nat → Int} {k : Nat} : ∀ {n : Nat}, (∀ i, i < n → 0 ≤ f i) → k < n → f k ≤ sumN n f
  | 0, _, hk => absurd hk (by omega)
  | n + 1, h, hk => by
    show f k ≤ sumN n f + f n
    by_cases e : k = n
    · subst e
      have := sumN_nn (n := k) (f := f) (fun i hi => h i (by omega))
      omega
    · have := sumN_le (n := n) (f := f) (k := k) (fun i hi => h i (by omega)) (by omega)
      have := h n (by omega)
      omega
/-- signs low and high of a row as one, when those below x have been taken -/
def mI (p : Nat → Int) (low high x s : Nat) : Int := (if s < high then (if s < x then p s else 0) else (if s + 1 < x then p (s + 1) else 0)) + (if s = low ∧ high < x then p high else 0)
theorem sumN_skip {p : Nat → Int} {high : Nat} : ∀ {k : Nat}, high ≤ k → sumN k (fun s => if s < high then p s else p (s + 1)) + p high = sumN (k + 1) p
  | 0, h => by
    have : high = 0 := by omega
    subst this
    rfl
  | k + 1, h => by
    by_cases e : high = k + 1
    · subst e
      rw [sumN_congr (g := p) (fun s hs => if_pos hs)]
      rfl
    · have ih := sumN_skip (p := p) (high := high) (k := k) (by omega)
      show sumN k (fun s => if s < high then p s else p (s + 1)) + (if k < high then p k else p (k + 1)) + p high = sumN (k + 1) p + p (k + 1)
      rw [if_neg (by omega), ← ih]
      omega
theorem mI_sum {p : Nat → Int} {low high k : Nat} (h1 : low < high) (h2 : high ≤ k) : sumN k (fun s => mI p low high (k + 1) s) = sumN (k + 1) p := by
  rw [← sumN_skip (p := p) h2]
  have e : sumN k (fun s => mI p low high (k + 1) s) = sumN k (fun s => (if s < high then p s else p (s + 1)) + (if s = low then p high else 0)) := sumN_congr (fun s hs => by
    unfold mI
    grind)
  rw [e, sumN_add, sumN_delta, if_pos (by omega)]
theorem partM {A : Mem} (hR : RR A) {l t s : Nat} (hl : (l : Int) < A 7 10) (ht : t < tN A) (hs : (s : Int) < A 13 l) : A 54 (24 * l + 6 * t + s) = pt A l t s ∧ 0 ≤ pt A l t s ∧ pt A l t s ≤ 60 := hR.1.prt hl (lt_tN ht) hs
theorem SR.sum60 {ms : Nat → Nat → Int} {A : Mem} (h : SR 7 ms A) {l t : Nat} (hl : (l : Int) < A 7 10) (ht : t < tN A) : sumN (sg A l) (fun s => pt A l t s) = 60 := h.2.2.2.2.2.2.2.2.1 l t hl (lt_tN ht)
theorem WR.pt {A σ : Mem} {n : Nat} {g : Nat → Nat → Int} (h : WR 14 A σ n g) {l t s : Nat} (hl : l < n) (ht : t < 4) (hs : s < 6) : pt σ l t s = pt A l t s := h.1 14 _ (by omega)
theorem sp_S_partOf2 {d : Nat} {A σ : Mem} {Q : Int → Mem → Prop} {n : Nat} {g : Nat → Nat → Int} (h : WR 14 A σ n g) {l t s : Nat} (hl : l < n) (hl2 : l < 12) (ht : t < 4) (hs : s < 6) (hQ : Q (pt A l t s) σ) : wp (d + 1) m_S_partOf [.inr (.inr 7), .inl (l : Int), .inl (t : Int), .inl (s : Int)] σ Q := sp_S_partOf Eqv.rfl hl2 ht hs (by rw [h.pt hl ht hs]; exact hQ)
theorem meld_x {A : Mem} (hR : RR A) {l lo hi n K m o : Nat} (hn : A 7 10 = (n : Int)) (hn12 : n < 12) (hl : l < n) (hK : A 13 l = (K : Int)) (hlh : lo < hi) (hhi : hi < K) (hm : (m : Int) + (o : Int) = A 31 0) (ho : moOK m o) {Q : Int → Mem → Prop} (hQ : ∀ σ1, XL A σ1 n (K - 1) (fun t s => mI (fun s => pt A l t s) lo hi K s) m o → σ1 0 2 = A 0 2 → Q (n : Int) σ1) : K_X_meld_100 39 Q (l : Int) (lo : Int) (hi : Int) ((K - 1 : Nat) : Int) ((0 : Nat) : Int) A := by
  have sc := hR.sc
  have hT4 := tN4 hR.1
  have hTe : A 7 1 = ((tN A : Nat) : Int) := by show A 7 1 = ((A 7 1).toNat : Int); omega
  have hK6 := hR.1.sgn (l := l) (by omega)
  refine upto (n := tN A) (P := fun t => ∀ σ g, WR 14 A σ n g → (∀ t2 s2, t2 < t → s2 < K - 1 → g t2 s2 = mI (fun s => pt A l t2 s) lo hi K s2) → K_X_meld_100 39 Q (l : Int) (lo : Int) (hi : Int) ((K - 1 : Nat) : Int) ((t : Nat) : Int) σ) (fun σ g hW hg => ?_) (fun t ht ih σ g hW hg => ?_) A _ WR.rfl (fun t2 s2 h => absurd h (by omega))
  · refine e_X_meld_100 ⟨fun h => by rw [hW.out (by decide)] at h; omega, fun _ => ?_⟩
    exact sp_X_keepLook0 (k := K - 1) (f := fun t s => mI (fun s => pt A l t s) lo hi K s) hT4 (by omega) hW hn hn12 hg hm ho hQ
  · have e0 : σ 7 1 = A 7 1 := hW.out (by decide)
    refine e_X_meld_100 ⟨fun _ => ?_, fun h => by rw [e0] at h; omega⟩
    refine upto (n := K - 1) (P := fun s => ∀ σ g, WR 14 A σ n g → (∀ t2 s2, t2 < t → s2 < K - 1 → g t2 s2 = mI (fun s => pt A l t2 s) lo hi K s2) → (∀ s2, s2 < s → g t s2 = mI (fun s => pt A l t s) lo hi K s2) → K_X_meld_115 39 Q (l : Int) (lo : Int) (hi : Int) ((K - 1 : Nat) : Int) (t : Int) ((s : Nat) : Int) σ) (fun σ g hW hg hg2 => ?_) (fun s hs ih2 σ g hW hg hg2 => ?_) σ g hW hg (fun s2 h => absurd h (by omega))
    · refine e_X_meld_115 ⟨fun h => by omega, fun _ => ?_⟩
      have e1 : w32 ((t : Int) + 1) = ((t + 1 : Nat) : Int) := w32_eq (by omega) (by omega)
      rw [e1]
      refine ih _ _ hW (fun t2 s2 h1 h2 => ?_)
      by_cases e : t2 = t
      · subst e; exact hg2 s2 h2
      · exact hg t2 s2 (by omega) h2
    · have e1 : w32 ((s : Int) + 1) = ((s + 1 : Nat) : Int) := w32_eq (by omega) (by omega)
      have b1 := partM hR (l := l) (t := t) (s := s) (by omega) ht (by omega)
      have b2 := partM hR (l := l) (t := t) (s := hi) (by omega) ht (by omega)
      have b3 := partM hR (l := l) (t := t) (s := s + 1) (by omega) ht (by omega)
      have nxt : ∀ v, v = mI (fun s => pt A l t s) lo hi K s → ∀ σ3, WR 14 A σ3 n (updG g t s v) → K_X_meld_115 39 Q (l : Int) (lo : Int) (hi : Int) ((K - 1 : Nat) : Int) (t : Int) ((s + 1 : Nat) : Int) σ3 := fun v hv σ3 hW3 => by
        refine ih2 _ _ hW3 (fun t2 s2 h1 h2 => ?_) (fun s2 h2 => ?_)
        · rw [updG_ne (by omega)]; exact hg t2 s2 h1 h2
        · by_cases e : s2 = s
          · subst e; rw [updG_eq]; exact hv
          · rw [updG_ne (by omega)]; exact hg2 s2 (by omega)
      refine e_X_meld_115 ⟨fun _ => ?_, fun h => by omega⟩
      rw [e1]
      refine ⟨fun h => sp_S_partOf2 hW hl (by omega) (by omega) (by omega) ⟨fun h2 => sp_S_partOf2 hW hl (by omega) (by omega) (by omega) (sp_S_write hW hn hn12 (by omega) (by omega) (nxt _ ?_)), fun h2 => sp_S_write hW hn hn12 (by omega) (by omega) (nxt _ ?_)⟩, fun h => sp_S_partOf2 hW hl (by omega) (by omega) (by omega) ⟨fun h2 => by omega, fun h2 => sp_S_write hW hn hn12 (by omega) (by omega) (nxt _ ?_)⟩⟩
      · rw [w32_id (by omega) (by omega)]
        unfold mI
        rw [if_pos (by omega), if_pos (by omega), if_pos (by omega)]
      · unfold mI
        rw [if_pos (by omega), if_pos (by omega), if_neg (by omega), Int.add_zero]
      · unfold mI
        rw [if_neg (by omega), if_pos (by omega), if_neg (by omega), Int.add_zero]
theorem meld_m {A σ1 : Mem} (hR : RR A) {l lo hi n K m o : Nat} (hn : A 7 10 = (n : Int)) (hn12 : n < 12) (hl : l < n) (hK : A 13 l = (K : Int)) (hlh : lo < hi) (hhi : hi < K) (x49 : ∀ i, σ1 49 i = A 49 i) (x53 : σ1 53 l = A 53 l) (x54 : ∀ i, σ1 54 i = A 54 i) (hm : (m : Int) + (o : Int) = A 31 0) (ho : moOK m o) {Q : Int → Mem → Prop} (hQ : ∀ B, ML σ1 B n (K - 1) (fun t s => mI (fun s => pt A l t s) lo hi K s) (tN A) m o → B 49 16 = σ1 49 16 → Q (n : Int) B) {σ2 : Mem} {g2 : Nat → Nat → Int} (hW2 : WR 54 σ1 σ2 n g2) (hg2 : ∀ t s, t < 4 → s < 6 → g2 t s = 0) : K_M_meld_90 39 Q (l : Int) (lo : Int) (hi : Int) 0 σ2 := by
  have sc := hR.sc
  have hT4 := tN4 hR.1
  have hTe : A 7 1 = ((tN A : Nat) : Int) := by show A 7 1 = ((A 7 1).toNat : Int); omega
  have hK6 := hR.1.sgn (l := l) (by omega)
  have hK53 : A 53 l = (K : Int) := by rw [← hK]; exact hK6.1
  refine upto (n := tN A) (P := fun t => ∀ σ g, WR 54 σ1 σ n g → (∀ t2 s2, t2 < 4 → s2 < 6 → g t2 s2 = if t2 < t then mI (fun s => pt A l t2 s) lo hi K s2 else 0) → K_M_meld_90 39 Q (l : Int) (lo : Int) (hi : Int) ((t : Nat) : Int) σ) (fun σ g hW hg => ?_) (fun t ht ih σ g hW hg => ?_) σ2 g2 hW2 (fun t2 s2 h1 h2 => by rw [if_neg (by omega)]; exact hg2 t2 s2 h1 h2)
  · refine e_M_meld_90 ⟨fun h => by rw [hW.out (by decide), x49] at h; omega, fun _ => ⟨⟨by omega, by omega⟩, ?_⟩⟩
    rw [Int.toNat_natCast, hW.out (by decide), x53, hK53]
    have e1 : w32 ((K : Int) - 1) = ((K - 1 : Nat) : Int) := w32_eq (by omega) (by omega)
    rw [e1]
    exact sp_M_newLook0 (k := K - 1) (T := tN A) (m := m) (o := o) hT4 (by omega) hW (by rw [x49]; omega) hn12 (fun t2 s2 h1 h2 => by rw [hg t2 s2 (by omega) (by omega), if_pos h1]) (by rw [x49]; omega) ho hQ
  · have e0 : σ 49 0 = A 7 1 := by rw [hW.out (by decide), x49]; omega
    refine e_M_meld_90 ⟨fun _ => ?_, fun h => by rw [e0] at h; omega⟩
    refine upto (n := K) (P := fun x => ∀ σ g, WR 54 σ1 σ n g → (∀ t2 s2, t2 < 4 → s2 < 6 → g t2 s2 = if t2 < t then mI (fun s => pt A l t2 s) lo hi K s2 else if t2 = t then mI (fun s => pt A l t s) lo hi x s2 else 0) → K_M_meld_102 39 Q (l : Int) (lo : Int) (hi : Int) (t : Int) ((x : Nat) : Int) σ) (fun σ g hW hg => ?_) (fun x hx ih2 σ g hW hg => ?_) σ g hW (fun t2 s2 h1 h2 => ?_)
    · refine e_M_meld_102 ⟨⟨by omega, by omega⟩, fun h => by rw [Int.toNat_natCast, hW.out (by decide), x53, hK53] at h; omega, fun _ => ?_⟩
      have e1 : w32 ((t : Int) + 1) = ((t + 1 : Nat) : Int) := w32_eq (by omega) (by omega)
      rw [e1]
      refine ih _ _ hW (fun t2 s2 h1 h2 => ?_)
      rw [hg t2 s2 h1 h2]
      by_cases e : t2 = t
      · subst e; rw [if_neg (by omega), if_pos rfl, if_pos (by omega)]
      · by_cases e2 : t2 < t
        · rw [if_pos e2, if_pos (by omega)]
        · rw [if_neg e2, if_neg e, if_neg (by omega)]
    · have e1 : w32 ((x : Int) + 1) = ((x + 1 : Nat) : Int) := w32_eq (by omega) (by omega)
      have e6 : σ 49 6 = (n : Int) := by rw [hW.out (by decide), x49]; omega
      have b0 : ∀ s : Nat, s < K → 0 ≤ pt A l t s ∧ pt A l t s ≤ 60 := fun s hs => (partM hR (l := l) (t := t) (s := s) (by omega) ht (by omega)).2
      have b1 := partM hR (l := l) (t := t) (s := x) (by omega) ht (by omega)
      have e9 : σ 54 (24 * l + 6 * t + x) = pt A l t x := by
        rw [hW.1 54 _ (by omega), x54]; exact b1.1
      have nxt : ∀ to : Nat, to < 6 → (to = if x = hi then lo else if hi < x then x - 1 else x) → K_M_meld_102 39 Q (l : Int) (lo : Int) (hi : Int) (t : Int) ((x + 1 : Nat) : Int) (mset σ 54 (24 * n + 6 * t + to) (w32 (σ 54 (24 * n + 6 * t + to) + σ 54 (24 * l + 6 * t + x)))) := fun to hto hte => by
        have gt : σ 54 (24 * n + 6 * t + to) = mI (fun s => pt A l t s) lo hi x to := by
          rw [hW.2 t to (by omega) hto, hg t to (by omega) hto, if_neg (by omega), if_pos rfl]
        have bm : 0 ≤ mI (fun s => pt A l t s) lo hi x to ∧ mI (fun s => pt A l t s) lo hi x to ≤ 120 := by
          have c1 := b0 to
          have c2 := b0 (to + 1)
          have c3 := b0 hi (by omega)
          unfold mI
          dsimp only
          split <;> split <;> split <;> omega
        rw [e9, gt, w32_id (by omega) (by omega)]
        refine ih2 _ _ (hW.set (by omega) hto) (fun t2 s2 h1 h2 => ?_)
        by_cases e : t2 = t ∧ s2 = to
        · obtain ⟨rfl, rfl⟩ := e
          rw [updG_eq, if_neg (by omega), if_pos rfl]
          unfold mI
          grind
        · rw [updG_ne e, hg t2 s2 h1 h2]
          by_cases e2 : t2 < t
          · rw [if_pos e2, if_pos e2]
          · rw [if_neg e2, if_neg e2]
            by_cases e3 : t2 = t
            · subst e3
              rw [if_pos rfl, if_pos rfl]
              have : s2 ≠ to := fun z => e ⟨rfl, z⟩
              unfold mI
              grind
            · rw [if_neg e3, if_neg e3]
      refine e_M_meld_102 ⟨⟨by omega, by omega⟩, fun _ => ?_, fun h => by rw [Int.toNat_natCast, hW.out (by decide), x53, hK53] at h; omega⟩
      rw [e6, e1]
      refine ⟨fun h => ?_, fun h => ⟨fun h2 => ?_, fun h2 => ?_⟩⟩
      · refine sp_M_place (by omega) (by omega) (by omega) ⟨⟨by omega, by omega⟩, sp_M_place (by omega) (by omega) (by omega) ⟨⟨by omega, by omega⟩, ⟨by omega, by omega⟩, ?_⟩⟩
        rw [Int.toNat_natCast, Int.toNat_natCast]
        exact nxt lo (by omega) (by rw [if_pos (by omega)])
      · have e5 : w32 ((x : Int) - 1) = ((x - 1 : Nat) : Int) := w32_eq (by omega) (by omega)
        rw [e5]
        refine sp_M_place (by omega) (by omega) (by omega) ⟨⟨by omega, by omega⟩, sp_M_place (by omega) (by omega) (by omega) ⟨⟨by omega, by omega⟩, ⟨by omega, by omega⟩, ?_⟩⟩
        rw [Int.toNat_natCast, Int.toNat_natCast]
        exact nxt (x - 1) (by omega) (by rw [if_neg (by omega), if_pos (by omega)])
      · refine sp_M_place (by omega) (by omega) (by omega) ⟨⟨by omega, by omega⟩, sp_M_place (by omega) (by omega) (by omega) ⟨⟨by omega, by omega⟩, ⟨by omega, by omega⟩, ?_⟩⟩
        rw [Int.toNat_natCast, Int.toNat_natCast]
        exact nxt x (by omega) (by rw [if_neg (by omega), if_neg (by omega)])
    · rw [hg t2 s2 h1 h2]
      have : mI (fun s => pt A l t s) lo hi 0 s2 = 0 := by
        unfold mI
        rw [if_neg (show ¬ s2 < 0 by omega), if_neg (show ¬ s2 + 1 < 0 by omega), if_neg (show ¬ (s2 = lo ∧ hi < 0) by omega)]
        split <;> rfl
      by_cases e2 : t2 < t
      · rw [if_pos e2, if_pos e2]
      · rw [if_neg e2, if_neg e2, this]
        split <;> rfl
theorem pr_meld {A : Mem} (hR : RR A) {a1 : Int} (i1 : InI a1) {a2 : Int} (i2 : InI a2) {a3 : Int} (i3 : InI a3) : wp 40 m_X_meld [.inr (.inr 0), .inl a1, .inl a2, .inl a3] A (fun r σ1 => wp 40 m_M_meld [.inr (.inr 49), .inl a1, .inl a2, .inl a3] σ1 (fun r2 σ2 => PQ r r2 σ2)) := by
  have sc := hR.sc
  have hT4 := tN4 hR.1
  unfold InI at i1 i2 i3
  have hs : ∀ l : Nat, (l : Int) < A 7 10 → A 53 l = A 13 l ∧ 1 ≤ A 13 l ∧ A 13 l ≤ 6 := fun l hl => hR.1.sgn hl
  have hs1 := hs a1.toNat
  repeat' first
    | with_reducible refine e_X_meld ?_
    | with_reducible refine e_S_hasSign ?_
    | with_reducible refine e_S_hasLook ?_
    | with_reducible refine xr1 ?_
    | with_reducible refine xr2 ?_
    | with_reducible refine xr3 ?_
    | with_reducible refine xr4 ?_
    | with_reducible refine xr6 ?_
    | with_reducible refine mr1 ?_
    | with_reducible refine mr2 ?_
    | with_reducible refine mr3 ?_
    | with_reducible refine mr4 ?_
    | with_reducible refine mr6 ?_
    | with_reducible refine xf1 ?_
    | with_reducible refine xf2 ?_
    | with_reducible refine xf3 ?_
    | with_reducible refine xf6 ?_
    | with_reducible refine mf1 ?_
    | with_reducible refine mf2 ?_
    | with_reducible refine mf3 ?_
    | with_reducible refine mf6 ?_
    | with_reducible exact isB0
    | with_reducible exact isB1
    | with_reducible refine And.intro ?_ ?_
    | (with_reducible refine fun (hz : (_ : Int) < _) => ?_) <;> ((try simp (discharger := first | decide | omega) only [ms_eq, ms_nk, ms_ni, w32_id, w64_id, Int.toNat_natCast, not_true_eq_false, not_false_eq_true] at hz) ; (try (exfalso; omega)))
    | (with_reducible refine fun (hz : (_ : Int) ≤ _) => ?_) <;> ((try simp (discharger := first | decide | omega) only [ms_eq, ms_nk, ms_ni, w32_id, w64_id, Int.toNat_natCast, not_true_eq_false, not_false_eq_true] at hz) ; (try (exfalso; omega)))
    | (with_reducible refine fun (hz : (_ : Int) = _) => ?_) <;> ((try simp (discharger := first | decide | omega) only [ms_eq, ms_nk, ms_ni, w32_id, w64_id, Int.toNat_natCast, not_true_eq_false, not_false_eq_true] at hz) ; (try (exfalso; omega)))
    | (with_reducible refine fun (hz : ¬ (_ : Int) = _) => ?_) <;> ((try simp (discharger := first | decide | omega) only [ms_eq, ms_nk, ms_ni, w32_id, w64_id, Int.toNat_natCast, not_true_eq_false, not_false_eq_true] at hz) ; (try (exfalso; omega)))
    | (with_reducible refine fun (hz : _ ∨ _) => ?_) <;> ((try simp (discharger := first | decide | omega) only [ms_eq, ms_nk, ms_ni, w32_id, w64_id, Int.toNat_natCast, not_true_eq_false, not_false_eq_true] at hz) ; (try (exfalso; omega)))
    | omega
    | (simp (discharger := first | decide | omega) only [ms_eq, ms_nk, ms_ni, w32_id, w64_id, Int.toNat_natCast, not_true_eq_false, not_false_eq_true] ; omega)
  all_goals first
    | (repeat' first
      | with_reducible refine e_M_meld ?_
      | with_reducible refine e_M_isSign ?_
      | with_reducible refine e_M_isLook ?_
      | with_reducible refine e_M_in ?_
      | with_reducible refine xr1 ?_
      | with_reducible refine xr2 ?_
      | with_reducible refine xr3 ?_
      | with_reducible refine xr4 ?_
      | with_reducible refine xr6 ?_
      | with_reducible refine mr1 ?_
      | with_reducible refine mr2 ?_
      | with_reducible refine mr3 ?_
      | with_reducible refine mr4 ?_
      | with_reducible refine mr6 ?_
      | with_reducible refine xf1 ?_
      | with_reducible refine xf2 ?_
      | with_reducible refine xf3 ?_
      | with_reducible refine xf6 ?_
      | with_reducible refine mf1 ?_
      | with_reducible refine mf2 ?_
      | with_reducible refine mf3 ?_
      | with_reducible refine mf6 ?_
      | with_reducible exact isB0
      | with_reducible exact isB1
      | with_reducible refine And.intro ?_ ?_
      | (with_reducible refine fun (hz : (_ : Int) < _) => ?_) <;> ((try simp (discharger := first | decide | omega) only [ms_eq, ms_nk, ms_ni, w32_id, w64_id, Int.toNat_natCast, not_true_eq_false, not_false_eq_true] at hz) ; (try (exfalso; omega)))
      | (with_reducible refine fun (hz : (_ : Int) ≤ _) => ?_) <;> ((try simp (discharger := first | decide | omega) only [ms_eq, ms_nk, ms_ni, w32_id, w64_id, Int.toNat_natCast, not_true_eq_false, not_false_eq_true] at hz) ; (try (exfalso; omega)))
      | (with_reducible refine fun (hz : (_ : Int) = _) => ?_) <;> ((try simp (discharger := first | decide | omega) only [ms_eq, ms_nk, ms_ni, w32_id, w64_id, Int.toNat_natCast, not_true_eq_false, not_false_eq_true] at hz) ; (try (exfalso; omega)))
      | (with_reducible refine fun (hz : ¬ (_ : Int) = _) => ?_) <;> ((try simp (discharger := first | decide | omega) only [ms_eq, ms_nk, ms_ni, w32_id, w64_id, Int.toNat_natCast, not_true_eq_false, not_false_eq_true] at hz) ; (try (exfalso; omega)))
      | (with_reducible refine fun (hz : _ ∨ _) => ?_) <;> ((try simp (discharger := first | decide | omega) only [ms_eq, ms_nk, ms_ni, w32_id, w64_id, Int.toNat_natCast, not_true_eq_false, not_false_eq_true] at hz) ; (try (exfalso; omega)))
      | omega
      | (simp (discharger := first | decide | omega) only [ms_eq, ms_nk, ms_ni, w32_id, w64_id, Int.toNat_natCast, not_true_eq_false, not_false_eq_true] ; omega)
       all_goals first
         | exact PQ.rf0 hR (by decide)
         | skip
       done)
    | skip
  obtain ⟨m, o, hm, ho⟩ := moEx (n := A 31 0) (by omega)
  obtain ⟨l, rfl⟩ : ∃ k : Nat, a1 = (k : Int) := ⟨a1.toNat, by omega⟩
  obtain ⟨a, rfl⟩ : ∃ k : Nat, a2 = (k : Int) := ⟨a2.toNat, by omega⟩
  obtain ⟨b, rfl⟩ : ∃ k : Nat, a3 = (k : Int) := ⟨a3.toNat, by omega⟩
  obtain ⟨n, hn⟩ : ∃ n : Nat, A 7 10 = (n : Int) := ⟨(A 7 10).toNat, by omega⟩
  rw [Int.toNat_natCast] at *
  obtain ⟨K, hK⟩ : ∃ K : Nat, A 13 l = (K : Int) := ⟨(A 13 l).toNat, by omega⟩
  have hn12 : n < 12 := by omega
  have hab : a ≠ b := by omega
  have e1 : w32 (A 13 l - 1) = ((K - 1 : Nat) : Int) := by rw [hK]; exact w32_eq (by omega) (by omega)
  have e2 : min (a : Int) (b : Int) = ((min a b : Nat) : Int) := by omega
  have e3 : max (a : Int) (b : Int) = ((max a b : Nat) : Int) := by omega
  rw [e1, e2, e3]
  refine meld_x hR hn hn12 (by omega) hK (by omega) (by omega) hm ho (fun σ1 X hv => ?_)
  have x49 : ∀ i, σ1 49 i = A 49 i := fun i => X.1 49 i (by omega) (by omega) (by omega) (by omega) (by omega)
  have x53 : ∀ i, σ1 53 i = A 53 i := fun i => X.1 53 i (by omega) (by omega) (by omega) (by omega) (by omega)
  have x54 : ∀ i, σ1 54 i = A 54 i := fun i => X.1 54 i (by omega) (by omega) (by omega) (by omega) (by omega)
  have fin : ∀ lo hi : Nat, (lo : Int) = min a b → (hi : Int) = max a b → wp 39 m_M_clearLook [.inr (.inr 49)] σ1 (fun (_ : Int) (s6 : Mem) => K_M_meld_90 39 (fun r2 σ2 => PQ (n : Int) r2 σ2) (l : Int) (lo : Int) (hi : Int) 0 s6) := fun lo hi h1 h2 => by
    have hlo : lo = min a b := by omega
    have hhi : hi = max a b := by omega
    subst hlo hhi
    refine sp_M_clear (n := n) (by rw [x49]; omega) hn12 (fun σ2 g2 hW2 hg2 => ?_)
    refine meld_m hR hn hn12 (by omega) hK (by omega) (by omega) x49 (x53 _) x54 hm ho (fun B M hv2 => ⟨rfl, ?_⟩) hW2 hg2
    have hsum : ∀ t, t < tN A → sumN (K - 1) (fun s => mI (fun s => pt A l t s) (min a b) (max a b) K s) = 60 := fun t ht => by
      have e := mI_sum (p := fun s => pt A l t s) (low := min a b) (high := max a b) (k := K - 1) (by omega) (by omega)
      rw [show K - 1 + 1 = K by omega] at e
      rw [e]
      have := hR.1.sum60 (l := l) (t := t) (by omega) ht
      have e5 : sg A l = K := by unfold sg; omega
      rw [e5] at this
      exact this
    have hnn : ∀ t s, t < tN A → s < K - 1 → 0 ≤ mI (fun s => pt A l t s) (min a b) (max a b) K s := fun t s ht hs => by
      have c : ∀ s : Nat, s < K → 0 ≤ pt A l t s ∧ pt A l t s ≤ 60 := fun s hs => (partM hR (l := l) (t := t) (s := s) (by omega) ht (by omega)).2
      have c1 := c s
      have c2 := c (s + 1)
      have c3 := c (max a b) (by omega)
      unfold mI
      dsimp only
      split <;> split <;> split <;> omega
    refine hR.addLook hn hn12 (by omega) hm ho X M (Or.inl ⟨hv, hv2⟩) (fun t s ht hs => ⟨hnn t s ht hs, ?_⟩) hsum
    rw [← hsum t ht]
    exact sumN_le (f := fun s => mI (fun s => pt A l t s) (min a b) (max a b) K s) (fun i hi => hnn t i ht hi) hs
  have hs2 : A 53 l = A 13 l := (hs l (by omega)).1
  repeat' first
    | with_reducible refine e_M_meld ?_
    | with_reducible refine e_M_isSign ?_
    | with_reducible refine e_M_isLook ?_
    | with_reducible refine e_M_in ?_
    | with_reducible refine xr1 ?_
    | with_reducible refine xr2 ?_
    | with_reducible refine xr3 ?_
    | with_reducible refine xr4 ?_
    | with_reducible refine xr6 ?_
    | with_reducible refine mr1 ?_
    | with_reducible refine mr2 ?_
    | with_reducible refine mr3 ?_
    | with_reducible refine mr4 ?_
    | with_reducible refine mr6 ?_
    | with_reducible refine xf1 ?_
    | with_reducible refine xf2 ?_
    | with_reducible refine xf3 ?_
    | with_reducible refine xf6 ?_
    | with_reducible refine mf1 ?_
    | with_reducible refine mf2 ?_
    | with_reducible refine mf3 ?_
    | with_reducible refine mf6 ?_
    | with_reducible exact isB0
    | with_reducible exact isB1
    | with_reducible refine And.intro ?_ ?_
    | (with_reducible refine fun (hz : (_ : Int) < _) => ?_) <;> ((try simp (discharger := first | decide | omega) only [ms_eq, ms_nk, ms_ni, w32_id, w64_id, Int.toNat_natCast, not_true_eq_false, not_false_eq_true, x49, x53, hs2] at hz) ; (try (exfalso; omega)))
    | (with_reducible refine fun (hz : (_ : Int) ≤ _) => ?_) <;> ((try simp (discharger := first | decide | omega) only [ms_eq, ms_nk, ms_ni, w32_id, w64_id, Int.toNat_natCast, not_true_eq_false, not_false_eq_true, x49, x53, hs2] at hz) ; (try (exfalso; omega)))
    | (with_reducible refine fun (hz : (_ : Int) = _) => ?_) <;> ((try simp (discharger := first | decide | omega) only [ms_eq, ms_nk, ms_ni, w32_id, w64_id, Int.toNat_natCast, not_true_eq_false, not_false_eq_true, x49, x53, hs2] at hz) ; (try (exfalso; omega)))
    | (with_reducible refine fun (hz : ¬ (_ : Int) = _) => ?_) <;> ((try simp (discharger := first | decide | omega) only [ms_eq, ms_nk, ms_ni, w32_id, w64_id, Int.toNat_natCast, not_true_eq_false, not_false_eq_true, x49, x53, hs2] at hz) ; (try (exfalso; omega)))
    | (with_reducible refine fun (hz : _ ∨ _) => ?_) <;> ((try simp (discharger := first | decide | omega) only [ms_eq, ms_nk, ms_ni, w32_id, w64_id, Int.toNat_natCast, not_true_eq_false, not_false_eq_true, x49, x53, hs2] at hz) ; (try (exfalso; omega)))
    | omega
    | (simp (discharger := first | decide | omega) only [ms_eq, ms_nk, ms_ni, w32_id, w64_id, Int.toNat_natCast, not_true_eq_false, not_false_eq_true, x49, x53, hs2] ; omega)
  · exact fin a b (by omega) (by omega)
  · exact fin b a (by omega) (by omega)
