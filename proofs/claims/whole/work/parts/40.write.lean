-- PURE, 11: looks are written
theorem upto {n : Nat} {P : Nat → Prop} (h0 : P n) (hs : ∀ t, t < n → P (t + 1) → P t) : P 0 := by
  have : ∀ k t, t + k = n → P t := by
    intro k
    induction k with
    | zero => intro t ht; have : t = n := by omega
              rw [this]; exact h0
    | succ k ih => intro t ht; exact hs t (by omega) (ih (t + 1) (by omega))
  exact this n 0 (by omega)
def updG (g : Nat → Nat → Int) (t s : Nat) (v : Int) : Nat → Nat → Int := fun t2 s2 => if t2 = t ∧ s2 = s then v else g t2 s2
/-- all but the rows of look n (cell c) is as it was, and these are g -/
def WR (c : Nat) (A σ : Mem) (n : Nat) (g : Nat → Nat → Int) : Prop := (∀ k i, ¬ (k = c ∧ 24 * n ≤ i ∧ i < 24 * n + 24) → σ k i = A k i) ∧ ∀ t s, t < 4 → s < 6 → σ c (24 * n + 6 * t + s) = g t s
theorem WR.set {c : Nat} {A σ : Mem} {n : Nat} {g : Nat → Nat → Int} (h : WR c A σ n g) {t s : Nat} {v : Int} (ht : t < 4) (hs : s < 6) : WR c A (mset σ c (24 * n + 6 * t + s) v) n (updG g t s v) := by
  refine ⟨fun k i hk => ?_, fun t2 s2 ht2 hs2 => ?_⟩
  · rw [ms_ne (by omega)]
    exact h.1 k i hk
  · unfold updG
    split
    · rename_i hh
      rw [hh.1, hh.2, ms_eq]
    · rename_i hh
      rw [ms_ni (by omega)]
      exact h.2 t2 s2 ht2 hs2
theorem WR.rfl {c n : Nat} {A : Mem} : WR c A A n (fun t s => A c (24 * n + 6 * t + s)) := ⟨fun _ _ _ => Eq.refl _, fun _ _ _ _ => Eq.refl _⟩
theorem sp_S_write {d : Nat} {A σ : Mem} {Q : Int → Mem → Prop} {n t s : Nat} {v : Int} {g : Nat → Nat → Int} (hW : WR 14 A σ n g) (hn : A 7 10 = (n : Int)) (hn2 : n < 12) (ht : t < 4) (hs : s < 6) (hQ : ∀ σ1, WR 14 A σ1 n (updG g t s v) → Q 0 σ1) : wp (d + 1) m_S_write [.inr (.inr 7), .inl (t : Int), .inl (s : Int), .inl v] σ Q := by
  have e : σ 7 10 = (n : Int) := by rw [hW.1 7 10 (by omega)]; exact hn
  refine e_S_write ⟨fun _ => ?_, fun h => by omega⟩
  rw [e]
  have e1 : w32 ((n : Int) * 24) = ((24 * n : Nat) : Int) := w32_eq (by omega) (by omega)
  have e2 : w32 ((t : Int) * 6) = ((6 * t : Nat) : Int) := w32_eq (by omega) (by omega)
  have e3 : w32 (((24 * n : Nat) : Int) + ((6 * t : Nat) : Int)) = ((24 * n + 6 * t : Nat) : Int) := w32_eq (by omega) (by omega)
  have e4 : w32 (((24 * n + 6 * t : Nat) : Int) + (s : Int)) = ((24 * n + 6 * t + s : Nat) : Int) := w32_eq (by omega) (by omega)
  rw [e1, e2, e3, e4, Int.toNat_natCast]
  exact ⟨⟨by omega, by omega⟩, hQ _ (hW.set ht hs)⟩
theorem sp_M_place {d : Nat} {σ : Mem} {Q : Int → Mem → Prop} {l t s : Nat} (hl : l < 100) (ht : t < 100) (hs : s < 100) (hQ : Q ((24 * l + 6 * t + s : Nat) : Int) σ) : wp (d + 1) m_M_place [.inl (l : Int), .inl (t : Int), .inl (s : Int)] σ Q := by
  have e1 : w32 (24 * (l : Int)) = ((24 * l : Nat) : Int) := w32_eq (by omega) (by omega)
  have e2 : w32 (6 * (t : Int)) = ((6 * t : Nat) : Int) := w32_eq (by omega) (by omega)
  have e3 : w32 (((24 * l : Nat) : Int) + ((6 * t : Nat) : Int)) = ((24 * l + 6 * t : Nat) : Int) := w32_eq (by omega) (by omega)
  have e4 : w32 (((24 * l + 6 * t : Nat) : Int) + (s : Int)) = ((24 * l + 6 * t + s : Nat) : Int) := w32_eq (by omega) (by omega)
  refine e_M_place ?_
  rw [e1, e2, e3, e4]
  exact hQ
theorem sp_M_clear {d : Nat} {A : Mem} {Q : Int → Mem → Prop} {n : Nat} (hn : A 49 6 = (n : Int)) (hn2 : n < 12) (hQ : ∀ σ1 g, WR 54 A σ1 n g → (∀ t s, t < 4 → s < 6 → g t s = 0) → Q 0 σ1) : wp (d + 1) m_M_clearLook [.inr (.inr 49)] A Q := by
  refine e_M_clearLook ?_
  have loop : ∀ σ, (∀ k i, ¬ (k = 54 ∧ 24 * n ≤ i ∧ i < 24 * n + 24) → σ k i = A k i) → (∀ j, j < 0 → σ 54 (24 * n + j) = 0) → K_M_clearLook_2 d Q ((0 : Nat) : Int) σ := by
    refine upto (n := 24) (P := fun x => ∀ σ, (∀ k i, ¬ (k = 54 ∧ 24 * n ≤ i ∧ i < 24 * n + 24) → σ k i = A k i) → (∀ j, j < x → σ 54 (24 * n + j) = 0) → K_M_clearLook_2 d Q ((x : Nat) : Int) σ) (fun σ h1 h2 => ?_) (fun x hx ih σ h1 h2 => ?_)
    · refine e_M_clearLook_2 ⟨fun h => by omega, fun _ => hQ σ (fun _ _ => 0) ⟨h1, fun t s ht hs => ?_⟩ (fun _ _ _ _ => rfl)⟩
      have := h2 (6 * t + s) (by omega)
      rw [show 24 * n + 6 * t + s = 24 * n + (6 * t + s) by omega]
      exact this
    · refine e_M_clearLook_2 ⟨fun _ => ?_, fun h => by omega⟩
      have e0 : σ 49 6 = (n : Int) := by rw [h1 49 6 (by omega)]; exact hn
      rw [e0]
      have e1 : w32 (24 * (n : Int)) = ((24 * n : Nat) : Int) := w32_eq (by omega) (by omega)
      have e2 : w32 (((24 * n : Nat) : Int) + (x : Int)) = ((24 * n + x : Nat) : Int) := w32_eq (by omega) (by omega)
      have e3 : w32 ((x : Int) + 1) = ((x + 1 : Nat) : Int) := w32_eq (by omega) (by omega)
      rw [e1, e2, e3, Int.toNat_natCast]
      refine ⟨⟨by omega, by omega⟩, ih _ (fun k i hk => ?_) (fun j hj => ?_)⟩
      · rw [ms_ne (by omega)]
        exact h1 k i hk
      · by_cases e : j = x
        · subst e; exact ms_eq
        · rw [ms_ni (by omega)]
          exact h2 j (by omega)
  exact loop A (fun _ _ _ => rfl) (fun j hj => by omega)
/-- the class has one look more -/
def XL (A σ : Mem) (n k : Nat) (f : Nat → Nat → Int) (m o : Nat) : Prop :=
  (∀ c i, ¬ (c = 7 ∧ i = 10) → ¬ (c = 13 ∧ i = n) → ¬ (c = 14 ∧ 24 * n ≤ i) → ¬ (31 ≤ c ∧ c ≤ 34) → ¬ (c = 0 ∧ i = 2) → σ c i = A c i) ∧ σ 7 10 = (n : Int) + 1 ∧ σ 13 n = (k : Int) ∧ (∀ t s, t < tN A → s < k → σ 14 (24 * n + 6 * t + s) = f t s) ∧
  σ 31 0 = (m : Int) + 1 ∧ (∀ j, j < m → σ 32 j = A 32 (j + o) ∧ σ 33 j = A 33 (j + o) ∧ σ 34 j = A 34 (j + o)) ∧ σ 32 m = 0 ∧ σ 33 m = 0 ∧ σ 34 m = 0
def ML (A σ : Mem) (n k : Nat) (f : Nat → Nat → Int) (T m o : Nat) : Prop :=
  (∀ c i, ¬ (c = 49 ∧ (i = 6 ∨ i = 16 ∨ i = 19)) → ¬ (c = 53 ∧ i = n) → ¬ (c = 54 ∧ 24 * n ≤ i) → ¬ (61 ≤ c ∧ c ≤ 63) → σ c i = A c i) ∧ σ 49 6 = (n : Int) + 1 ∧ σ 53 n = (k : Int) ∧ (∀ t s, t < T → s < k → σ 54 (24 * n + 6 * t + s) = f t s) ∧
  σ 49 19 = (m : Int) + 1 ∧ (∀ j, j < m → σ 61 j = A 61 (j + o) ∧ σ 62 j = A 62 (j + o) ∧ σ 63 j = A 63 (j + o)) ∧ σ 61 m = 0 ∧ σ 62 m = 0 ∧ σ 63 m = 0
theorem sp_X_keepLook {d : Nat} {A σ : Mem} {Q : Int → Mem → Prop} {n k m o : Nat} {g f : Nat → Nat → Int} (hT : tN A ≤ 4) (hk : k ≤ 6) (hW : WR 14 A σ n g) (hn : A 7 10 = (n : Int)) (hn2 : n < 12) (hf : ∀ t s, t < tN A → s < k → g t s = f t s) (hm : (m : Int) + (o : Int) = A 31 0) (ho : moOK m o) {v : Int} (hQ : ∀ σ1, XL A σ1 n k f m o → σ1 0 2 = v → Q (n : Int) σ1) : wp (d + 3) m_X_keepLook [.inr (.inr 0), .inl (k : Int)] (mset σ 0 2 v) Q := by
  have e : σ 7 10 = (n : Int) := by rw [hW.1 7 10 (by omega)]; exact hn
  refine e_X_keepLook ?_
  simp (discharger := first | decide | omega) only [ms_eq, ms_nk, ms_ni, w32_id, w64_id, Int.toNat_natCast, not_true_eq_false, not_false_eq_true, e]
  refine ⟨⟨by omega, by omega⟩, sp_P_keep (m := m) (o := o) (by simp (discharger := first | decide | omega) only [ms_eq, ms_nk, ms_ni, w32_id, w64_id, Int.toNat_natCast, not_true_eq_false, not_false_eq_true]; rw [hW.1 31 0 (by omega)]; exact hm) ho (fun s2 k1 => hQ s2 ?_ ?_)⟩
  · obtain ⟨q1, u1, u2, u3⟩ := k1
    refine ⟨fun c i h1 h2 h3 h4 h5 => ?_, ?_, ?_, fun t s ht hs => ?_, u1, fun j hj => ?_, u3⟩
    · rw [q1 c i (by omega) (by omega) (by omega) (by omega), ms_ne (by omega), ms_ne (by omega), ms_ne (by omega)]
      exact hW.1 c i (by omega)
    · rw [q1 7 10 (by omega) (by omega) (by omega) (by omega), ms_eq]
    · rw [q1 13 n (by omega) (by omega) (by omega) (by omega), ms_nk (by decide), ms_eq]
    · rw [q1 14 _ (by omega) (by omega) (by omega) (by omega)]
      simp (discharger := first | decide | omega) only [ms_eq, ms_nk, ms_ni, w32_id, w64_id, Int.toNat_natCast, not_true_eq_false, not_false_eq_true]
      rw [hW.2 t s (by omega) (by omega)]
      exact hf t s ht hs
    · have := u2 j hj
      have w : ∀ c i, 31 ≤ c ∧ c ≤ 34 → mset (mset (mset σ 0 2 v) 13 n ↑k) 7 10 (↑n + 1) c i = A c i := fun c i hc => by
        rw [ms_ne (by omega), ms_ne (by omega), ms_ne (by omega)]
        exact hW.1 c i (by omega)
      rw [w 32 _ (by omega), w 33 _ (by omega), w 34 _ (by omega)] at this
      exact this
  · rw [k1.1 0 2 (by omega) (by omega) (by omega) (by omega)]
    simp (discharger := first | decide | omega) only [ms_eq, ms_nk, ms_ni, w32_id, w64_id, Int.toNat_natCast, not_true_eq_false, not_false_eq_true]
theorem mset_self {σ : Mem} {c i : Nat} : mset σ c i (σ c i) = σ := by
  funext k j
  unfold mset
  split
  · rename_i h
    rw [h.1, h.2]
  · rfl
theorem sp_X_keepLook0 {d : Nat} {A σ : Mem} {Q : Int → Mem → Prop} {n k m o : Nat} {g f : Nat → Nat → Int} (hT : tN A ≤ 4) (hk : k ≤ 6) (hW : WR 14 A σ n g) (hn : A 7 10 = (n : Int)) (hn2 : n < 12) (hf : ∀ t s, t < tN A → s < k → g t s = f t s) (hm : (m : Int) + (o : Int) = A 31 0) (ho : moOK m o) (hQ : ∀ σ1, XL A σ1 n k f m o → σ1 0 2 = A 0 2 → Q (n : Int) σ1) : wp (d + 3) m_X_keepLook [.inr (.inr 0), .inl (k : Int)] σ Q := by
  have := sp_X_keepLook (d := d) (Q := Q) (v := σ 0 2) hT hk hW hn hn2 hf hm ho (fun σ1 h1 h2 => hQ σ1 h1 (by rw [h2]; exact hW.1 0 2 (by omega)))
  rw [mset_self] at this
  exact this
theorem sp_M_newLook {d : Nat} {A σ : Mem} {Q : Int → Mem → Prop} {n k m o T : Nat} {g f : Nat → Nat → Int} (hT : T ≤ 4) (hk : k ≤ 6) (hW : WR 54 A σ n g) (hn : A 49 6 = (n : Int)) (hn2 : n < 12) (hf : ∀ t s, t < T → s < k → g t s = f t s) (hm : (m : Int) + (o : Int) = A 49 19) (ho : moOK m o) {v : Int} (hQ : ∀ σ1, ML A σ1 n k f T m o → σ1 49 16 = v → Q (n : Int) σ1) : wp (d + 2) m_M_newLook [.inr (.inr 49), .inl (k : Int)] (mset σ 49 16 v) Q := by
  have e : σ 49 6 = (n : Int) := by rw [hW.1 49 6 (by omega)]; exact hn
  refine e_M_newLook ?_
  simp (discharger := first | decide | omega) only [ms_eq, ms_nk, ms_ni, w32_id, w64_id, Int.toNat_natCast, not_true_eq_false, not_false_eq_true, e]
  refine ⟨⟨by omega, by omega⟩, sp_M_keepBack (m := m) (o := o) (by simp (discharger := first | decide | omega) only [ms_eq, ms_nk, ms_ni, w32_id, w64_id, Int.toNat_natCast, not_true_eq_false, not_false_eq_true]; rw [hW.1 49 19 (by omega)]; exact hm) ho (fun s2 k1 => ?_)⟩
  have e2 : s2 49 6 = (n : Int) := by
    rw [k1.1 49 6 (by omega) (by omega) (by omega) (by omega)]
    simp (discharger := first | decide | omega) only [ms_eq, ms_nk, ms_ni, w32_id, w64_id, Int.toNat_natCast, not_true_eq_false, not_false_eq_true, e]
  simp (discharger := first | decide | omega) only [ms_eq, ms_nk, ms_ni, w32_id, w64_id, Int.toNat_natCast, not_true_eq_false, not_false_eq_true, e2]
  have e5 : (n : Int) + 1 - 1 = (n : Int) := by omega
  rw [e5]
  refine hQ _ ?_ ?_
  · obtain ⟨q1, u1, u2, u3⟩ := k1
    refine ⟨fun c i h1 h2 h3 h4 => ?_, ?_, ?_, fun t s ht hs => ?_, ?_, fun j hj => ?_, ?_⟩
    · rw [ms_ne (by omega), q1 c i (by omega) (by omega) (by omega) (by omega), ms_ne (by omega), ms_ne (by omega)]
      exact hW.1 c i (by omega)
    · simp (discharger := first | decide | omega) only [ms_eq, ms_nk, ms_ni, w32_id, w64_id, Int.toNat_natCast, not_true_eq_false, not_false_eq_true]
    · simp (discharger := first | decide | omega) only [ms_eq, ms_nk, ms_ni, w32_id, w64_id, Int.toNat_natCast, not_true_eq_false, not_false_eq_true]
      rw [q1 53 n (by omega) (by omega) (by omega) (by omega), ms_eq]
    · simp (discharger := first | decide | omega) only [ms_eq, ms_nk, ms_ni, w32_id, w64_id, Int.toNat_natCast, not_true_eq_false, not_false_eq_true]
      rw [q1 54 _ (by omega) (by omega) (by omega) (by omega)]
      simp (discharger := first | decide | omega) only [ms_eq, ms_nk, ms_ni, w32_id, w64_id, Int.toNat_natCast, not_true_eq_false, not_false_eq_true]
      rw [hW.2 t s (by omega) (by omega)]
      exact hf t s ht hs
    · simp (discharger := first | decide | omega) only [ms_eq, ms_nk, ms_ni, w32_id, w64_id, Int.toNat_natCast, not_true_eq_false, not_false_eq_true]
      exact u1
    · have := u2 j hj
      have w : ∀ c i, 61 ≤ c ∧ c ≤ 63 → mset (mset σ 49 16 v) 53 n ↑k c i = A c i := fun c i hc => by
        rw [ms_ne (by omega), ms_ne (by omega)]
        exact hW.1 c i (by omega)
      rw [w 61 _ (by omega), w 62 _ (by omega), w 63 _ (by omega)] at this
      simp (discharger := first | decide | omega) only [ms_eq, ms_nk, ms_ni, w32_id, w64_id, Int.toNat_natCast, not_true_eq_false, not_false_eq_true]
      exact this
    · simp (discharger := first | decide | omega) only [ms_eq, ms_nk, ms_ni, w32_id, w64_id, Int.toNat_natCast, not_true_eq_false, not_false_eq_true]
      exact u3
  · simp (discharger := first | decide | omega) only [ms_eq, ms_nk, ms_ni, w32_id, w64_id, Int.toNat_natCast, not_true_eq_false, not_false_eq_true]
    rw [k1.1 49 16 (by omega) (by omega) (by omega) (by omega)]
    simp (discharger := first | decide | omega) only [ms_eq, ms_nk, ms_ni, w32_id, w64_id, Int.toNat_natCast, not_true_eq_false, not_false_eq_true]
theorem sp_M_newLook0 {d : Nat} {A σ : Mem} {Q : Int → Mem → Prop} {n k m o T : Nat} {g f : Nat → Nat → Int} (hT : T ≤ 4) (hk : k ≤ 6) (hW : WR 54 A σ n g) (hn : A 49 6 = (n : Int)) (hn2 : n < 12) (hf : ∀ t s, t < T → s < k → g t s = f t s) (hm : (m : Int) + (o : Int) = A 49 19) (ho : moOK m o) (hQ : ∀ σ1, ML A σ1 n k f T m o → σ1 49 16 = A 49 16 → Q (n : Int) σ1) : wp (d + 2) m_M_newLook [.inr (.inr 49), .inl (k : Int)] σ Q := by
  have := sp_M_newLook (d := d) (Q := Q) (v := σ 49 16) hT hk hW hn hn2 hf hm ho (fun σ1 h1 h2 => hQ σ1 h1 (by rw [h2]; exact hW.1 49 16 (by omega)))
  rw [mset_self] at this
  exact this
theorem SR.addLook {A B : Mem} {n k : Nat} {f : Nat → Nat → Int} (h : SR 7 (mLive A) A) (hn : A 7 10 = (n : Int)) (hn2 : n < 12) (hk : 1 ≤ k ∧ k ≤ 6)
    (F : ∀ c i, ¬ (c = 7 ∧ i = 10) ∧ ¬ (c = 49 ∧ (i = 6 ∨ i = 16 ∨ i = 19)) ∧ ¬ ((c = 13 ∨ c = 53) ∧ i = n) ∧ ¬ ((c = 14 ∨ c = 54) ∧ 24 * n ≤ i) ∧ ¬ (31 ≤ c ∧ c ≤ 34) ∧ ¬ (61 ≤ c ∧ c ≤ 63) ∧ ¬ (c = 0 ∧ i = 2) → B c i = A c i)
    (f1 : B 7 10 = (n : Int) + 1) (f2 : B 49 6 = (n : Int) + 1) (f3 : B 13 n = (k : Int)) (f4 : B 53 n = (k : Int)) (f5 : ∀ t s, t < tN A → s < k → B 14 (24 * n + 6 * t + s) = f t s) (f6 : ∀ t s, t < tN A → s < k → B 54 (24 * n + 6 * t + s) = f t s)
    (hf : ∀ t s, t < tN A → s < k → 0 ≤ f t s ∧ f t s ≤ 60) (hsum : ∀ t, t < tN A → sumN k (fun s => f t s) = 60) : SR 7 (mLive B) B := by
  have hb := h.2.1
  have g1 : B 7 1 = A 7 1 := F 7 1 (by omega)
  have g2 : B 7 2 = A 7 2 := F 7 2 (by omega)
  have g3 : B 7 3 = A 7 3 := F 7 3 (by omega)
  have g13 : B 7 13 = A 7 13 := F 7 13 (by omega)
  have g16 : B 7 16 = A 7 16 := F 7 16 (by omega)
  refine ⟨⟨?_, ?_, ?_, ?_, ?_, ?_⟩, ⟨by omega, by omega, by omega, by omega, by omega, by omega, by omega, by omega, by omega, by omega, by omega⟩, ?_, fun t ht => ?_, ?_, fun a t ha ht => ?_, fun l hl => ?_, fun l t s hl ht hs => ?_, fun l t hl ht => ?_, fun i hi => ?_, fun i hi => ?_⟩
  · show B 49 0 = B 7 1
    rw [F 49 0 (by omega), g1]; exact h.1.1
  · show B 49 1 = B 7 2
    rw [F 49 1 (by omega), g2]; exact h.1.2.1
  · show B 49 5 = B 7 3
    rw [F 49 5 (by omega), g3]; exact h.1.2.2.1
  · show B 49 6 = B 7 10
    rw [f1, f2]
  · show B 49 9 = B 7 13
    rw [F 49 9 (by omega), g13]; exact h.1.2.2.2.2.1
  · show B 49 12 = B 7 16
    rw [F 49 12 (by omega), g16]; exact h.1.2.2.2.2.2
  · rw [F 7 0 (by omega), g1, g2]; exact h.2.2.1
  · rw [g1] at ht
    show B 50 t = B 8 t ∧ 1 ≤ B 8 t ∧ B 8 t ≤ 99 ∧ B 51 t = B 9 t ∧ 1 ≤ B 9 t ∧ B 9 t ≤ 99
    rw [F 50 t (by omega), F 8 t (by omega), F 51 t (by omega), F 9 t (by omega)]
    exact h.2.2.2.1 t ht
  · have e : B 9 = A 9 := funext (fun t => F 9 t (by omega))
    rw [F 7 6 (by omega), g1]
    show A 7 6 = sumN (A 7 1).toNat (fun t => B 9 t)
    rw [e]
    exact h.2.2.2.2.1
  · rw [g2] at ha
    rw [g1] at ht
    show (B 52 (4 * a + t) = B 10 (4 * a + t) ∧ -99 ≤ B 10 (4 * a + t) ∧ B 10 (4 * a + t) ≤ 99) ∧ (B 52 (24 + 4 * a + t) = B 11 (4 * a + t) ∧ -99 ≤ B 11 (4 * a + t) ∧ B 11 (4 * a + t) ≤ 99) ∧ (B 52 (48 + 4 * a + t) = B 12 (4 * a + t) ∧ -99 ≤ B 12 (4 * a + t) ∧ B 12 (4 * a + t) ≤ 99)
    rw [F 52 _ (by omega), F 52 _ (by omega), F 52 _ (by omega), F 10 _ (by omega), F 11 _ (by omega), F 12 _ (by omega)]
    exact h.2.2.2.2.2.1 a t ha ht
  · show B 53 l = B 13 l ∧ 1 ≤ B 13 l ∧ B 13 l ≤ 6
    by_cases e : l = n
    · subst e
      rw [f3, f4]; omega
    · rw [F 53 l (by omega), F 13 l (by omega)]
      exact h.2.2.2.2.2.2.1 l (by omega)
  · rw [g1] at ht
    show B 54 (24 * l + 6 * t + s) = B 14 (24 * l + 6 * t + s) ∧ 0 ≤ B 14 (24 * l + 6 * t + s) ∧ B 14 (24 * l + 6 * t + s) ≤ 60
    have ht2 : t < tN A := tN_lt ht
    by_cases e : l = n
    · subst e
      have hs2 : (s : Int) < B 13 l := hs
      rw [f5 t s ht2 (by omega), f6 t s ht2 (by omega)]
      exact ⟨rfl, hf t s ht2 (by omega)⟩
    · have hs2 : (s : Int) < B 13 l := hs
      rw [F 13 l (by omega)] at hs2
      have hs3 := h.2.2.2.2.2.2.1 l (by omega)
      have hs4 : A 13 l ≤ 6 := hs3.2.2
      rw [F 54 _ (by omega), F 14 _ (by omega)]
      exact h.2.2.2.2.2.2.2.1 l t s (by omega) ht hs2
  · rw [g1] at ht
    show sumN (B 13 l).toNat (fun s => B 14 (24 * l + 6 * t + s)) = 60
    have ht2 : t < tN A := tN_lt ht
    by_cases e : l = n
    · subst e
      rw [f3, Int.toNat_natCast, ← hsum t ht2]
      exact sumN_congr (fun s hs => f5 t s ht2 hs)
    · rw [F 13 l (by omega)]
      have hs3 := h.2.2.2.2.2.2.1 l (by omega)
      have hs4 : A 13 l ≤ 6 := hs3.2.2
      have := h.2.2.2.2.2.2.2.2.1 l t (by omega) ht
      rw [← this]
      exact sumN_congr (fun s hs => F 14 _ (by omega))
  · rw [g13] at hi
    show B 55 i = B 15 i ∧ 0 ≤ B 15 i ∧ B 15 i < B 7 10 ∧ B 56 i = B 16 i ∧ 0 ≤ B 16 i ∧ B 16 i ≤ 99
    have := h.2.2.2.2.2.2.2.2.2.1 i hi
    have hx : A 55 i = A 15 i ∧ 0 ≤ A 15 i ∧ A 15 i < A 7 10 ∧ A 56 i = A 16 i ∧ 0 ≤ A 16 i ∧ A 16 i ≤ 99 := this
    rw [F 55 _ (by omega), F 15 _ (by omega), F 56 _ (by omega), F 16 _ (by omega)]
    omega
  · rw [g16] at hi
    have e17 : B 17 = A 17 := funext (fun t => F 17 t (by omega))
    have e57 : B 57 = A 57 := funext (fun t => F 57 t (by omega))
    have := h.2.2.2.2.2.2.2.2.2.2 i hi
    show B 58 i = B 18 i ∧ 1 ≤ B 18 i ∧ B 18 i ≤ 99 ∧ ∃ g : Int, 1 ≤ g ∧ (∀ t : Nat, t < 4 → B 17 (4 * i + t) = g * B 57 (4 * i + t) ∧ 0 ≤ B 17 (4 * i + t) ∧ B 17 (4 * i + t) ≤ 99 ∧ 0 ≤ B 57 (4 * i + t) ∧ (B 7 1 ≤ (t : Int) → B 17 (4 * i + t) = 0)) ∧ 1 ≤ sumN 4 (fun t => B 17 (4 * i + t))
    rw [F 58 _ (by omega), F 18 _ (by omega), e17, e57, g1]
    exact this
theorem RI.row {A : Mem} (h : RI A) : RI (mset (mset A 0 2 0) 49 16 0) := ⟨h.1, ⟨rfl, Int.le_refl 0, (by decide : (0 : Int) ≤ 24), fun j hj => by have : (j : Int) < 0 := hj; omega⟩, h.2.2⟩
theorem RR.addLook {A σ B : Mem} {n k m o : Nat} {f : Nat → Nat → Int} (hR : RR A) (hn : A 7 10 = (n : Int)) (hn2 : n < 12) (hk : 1 ≤ k ∧ k ≤ 6) (hm : (m : Int) + (o : Int) = A 31 0) (ho : moOK m o) (X : XL A σ n k f m o) (M : ML σ B n k f (tN A) m o) (hv : (σ 0 2 = A 0 2 ∧ B 49 16 = σ 49 16) ∨ (σ 0 2 = 0 ∧ B 49 16 = 0))
    (hf : ∀ t s, t < tN A → s < k → 0 ≤ f t s ∧ f t s ≤ 60) (hsum : ∀ t, t < tN A → sumN k (fun s => f t s) = 60) : RR B := by
  obtain ⟨x1, x2, x3, x4, x5, x6, x7⟩ := X
  obtain ⟨y1, y2, y3, y4, y5, y6, y7⟩ := M
  have hT := hR.1.tr
  have ht4 : tN A ≤ 4 := by show (A 7 1).toNat ≤ 4; omega
  have F : ∀ c i, ¬ (c = 7 ∧ i = 10) ∧ ¬ (c = 49 ∧ (i = 6 ∨ i = 16 ∨ i = 19)) ∧ ¬ ((c = 13 ∨ c = 53) ∧ i = n) ∧ ¬ ((c = 14 ∨ c = 54) ∧ 24 * n ≤ i) ∧ ¬ (31 ≤ c ∧ c ≤ 34) ∧ ¬ (61 ≤ c ∧ c ≤ 63) ∧ ¬ (c = 0 ∧ i = 2) → B c i = A c i := fun c i hc => by
    rw [y1 c i (by omega) (by omega) (by omega) (by omega), x1 c i (by omega) (by omega) (by omega) (by omega) (by omega)]
  have yb : ∀ c i, ¬ (c = 49 ∧ (i = 6 ∨ i = 16 ∨ i = 19)) ∧ ¬ (c = 53 ∧ i = n) ∧ ¬ (c = 54 ∧ 24 * n ≤ i) ∧ ¬ (61 ≤ c ∧ c ≤ 63) → B c i = σ c i := fun c i hc => y1 c i hc.1 hc.2.1 hc.2.2.1 hc.2.2.2
  have hS : SR 7 (mLive B) B := hR.1.addLook hn hn2 hk F (by rw [yb 7 10 (by omega)]; exact x2) y2 (by rw [yb 13 n (by omega)]; exact x3) y3 (fun t s ht hs => by rw [yb 14 _ (by omega)]; exact x4 t s ht hs) y4 hf hsum
  have hI : RI B := by
    rcases hv with hv | hv
    · refine RI_msk.mp ?_
      rw [mskB_eq (A := A) (fun c i hl => ?_)]
      · exact RI_msk.mpr hR.ri
      · by_cases e1 : c = 0 ∧ i = 2
        · rw [e1.1, e1.2, yb 0 2 (by omega)]; exact hv.1
        · by_cases e2 : c = 49 ∧ i = 16
          · rw [e2.1, e2.2, hv.2]; exact x1 49 16 (by omega) (by omega) (by omega) (by omega) (by omega)
          · have n7 := live_x (o := 7) hl rfl
            have n13 := live_x (o := 13) hl rfl
            have n14 := live_x (o := 14) hl rfl
            have n31 := live_x (o := 31) hl rfl
            have n32 := live_x (o := 32) hl rfl
            have n33 := live_x (o := 33) hl rfl
            have n34 := live_x (o := 34) hl rfl
            have n53 := live_x (o := 53) hl rfl
            have n54 := live_x (o := 54) hl rfl
            have n61 := live_x (o := 61) hl rfl
            have n62 := live_x (o := 62) hl rfl
            have n63 := live_x (o := 63) hl rfl
            have n49 := live_49 hl rfl
            have n496 : ¬ (c = 49 ∧ i = 6) := fun z => by
              obtain ⟨rfl, rfl⟩ := z
              cases hl
            exact F c i (by omega)
    · refine RI_msk.mp ?_
      rw [mskB_eq (A := mset (mset A 0 2 0) 49 16 0) (fun c i hl => ?_)]
      · exact RI_msk.mpr hR.ri.row
      · by_cases e1 : c = 0 ∧ i = 2
        · rw [e1.1, e1.2, yb 0 2 (by omega), hv.1]; rfl
        · by_cases e2 : c = 49 ∧ i = 16
          · rw [e2.1, e2.2, hv.2]; rfl
          · have n7 := live_x (o := 7) hl rfl
            have n13 := live_x (o := 13) hl rfl
            have n14 := live_x (o := 14) hl rfl
            have n31 := live_x (o := 31) hl rfl
            have n32 := live_x (o := 32) hl rfl
            have n33 := live_x (o := 33) hl rfl
            have n34 := live_x (o := 34) hl rfl
            have n53 := live_x (o := 53) hl rfl
            have n54 := live_x (o := 54) hl rfl
            have n61 := live_x (o := 61) hl rfl
            have n62 := live_x (o := 62) hl rfl
            have n63 := live_x (o := 63) hl rfl
            have n49 := live_49 hl rfl
            have n496 : ¬ (c = 49 ∧ i = 6) := fun z => by
              obtain ⟨rfl, rfl⟩ := z
              cases hl
            rw [ms_ne (by omega), ms_ne (by omega)]
            exact F c i (by omega)
  refine hR.push (A2 := B) (k := 0) (k2 := 0) (p := 0) (p2 := 0) (w := 0) (w2 := 0) hS hI (fun _ _ _ _ _ => rfl) hm ho ?_ (fun j hj => ?_) ?_ y5 (fun j hj => ?_) y7 (F 7 1 (by omega)) (F 7 2 (by omega)) (Or.inl ⟨rfl, rfl⟩) ?_ ?_ (fun i hi => F 15 i (by omega))
  · rw [yb 31 0 (by omega)]; exact x5
  · rw [yb 32 _ (by omega), yb 33 _ (by omega), yb 34 _ (by omega)]
    exact x6 j hj
  · rw [yb 32 _ (by omega), yb 33 _ (by omega), yb 34 _ (by omega)]
    exact x7
  · have := y6 j hj
    rw [x1 61 _ (by omega) (by omega) (by omega) (by omega) (by omega), x1 62 _ (by omega) (by omega) (by omega) (by omega) (by omega), x1 63 _ (by omega) (by omega) (by omega) (by omega) (by omega)] at this
    exact this
  · rw [yb 7 10 (by omega), x2, if_pos rfl, hn]
    omega
  · rw [F 7 13 (by omega), if_neg (by decide)]
    omega
