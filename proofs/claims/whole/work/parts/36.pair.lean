-- PURE, 7: pairs of calls: what is alike, refusals, what may be taken back
def msk (A : Mem) : Mem := fun k i => match live k i with
  | true => A k i
  | false => 0
theorem RR_msk {A : Mem} : RR (msk A) ↔ RR A := Iff.rfl
theorem msk_eq {A σ : Mem} (e : Eqv A σ) : msk σ = msk A := by
  funext k i
  unfold msk
  cases hl : live k i with
  | true => exact e k i hl
  | false => rfl
theorem RR.eqv {A σ : Mem} (h : RR A) (e : Eqv A σ) : RR σ := RR_msk.mp (by rw [msk_eq e]; exact RR_msk.mpr h)
theorem RR.sc {A : Mem} (h : RR A) : (A 49 0 = A 7 1 ∧ A 49 1 = A 7 2 ∧ A 49 5 = A 7 3 ∧ A 49 6 = A 7 10 ∧ A 49 9 = A 7 13 ∧ A 49 12 = A 7 16) ∧ (0 ≤ A 7 1 ∧ A 7 1 ≤ 4 ∧ 0 ≤ A 7 2 ∧ A 7 2 ≤ 6 ∧ (A 7 3 = 0 ∨ A 7 3 = 1) ∧ 0 ≤ A 7 10 ∧ A 7 10 ≤ 12 ∧ 0 ≤ A 7 13 ∧ A 7 13 ≤ 6 ∧ 0 ≤ A 7 16 ∧ A 7 16 ≤ 4) ∧ ((A 7 0 = 0 ∧ A 7 1 = 0) ∨ (A 7 0 = 1 ∧ 1 ≤ A 7 1 ∧ 1 ≤ A 7 2)) ∧ (A 31 0 = A 49 19 ∧ 0 ≤ A 31 0 ∧ A 31 0 ≤ 30) ∧ (A 0 2 = A 49 16 ∧ 0 ≤ A 0 2 ∧ A 0 2 ≤ 24) ∧ (A 1 1 = A 49 18 ∧ 0 ≤ A 1 1 ∧ A 1 1 ≤ 90) :=
  ⟨h.1.1, h.1.2.1, h.1.2.2.1, ⟨h.2.2.1.1, h.2.2.1.2.1, h.2.2.1.2.2.1⟩, ⟨h.2.2.2.1.1, h.2.2.2.1.2.1, h.2.2.2.1.2.2.1⟩, ⟨h.2.2.2.2.1.1, h.2.2.2.2.1.2.1, h.2.2.2.2.1.2.2.1⟩⟩
/-- what the law wants of a pair of calls -/
def PQ (r r2 : Int) (σ : Mem) : Prop := r = r2 ∧ RR σ
theorem ms_nk {σ : Mem} {o i k j : Nat} {x : Int} (h : k ≠ o) : mset σ o i x k j = σ k j := ms_ne (Or.inl h)
theorem ms_ni {σ : Mem} {o i k j : Nat} {x : Int} (h : j ≠ i) : mset σ o i x k j = σ k j := ms_ne (Or.inr h)
theorem xr {d : Nat} {σ : Mem} {Q : Int → Mem → Prop} {k : Nat} (hk : k < 7) (h : Q (-(k : Int)) (mset σ 48 k (w32 (σ 48 k + 1)))) : wp (d + 1) m_X_refuse [.inr (.inr 0), .inl (k : Int)] σ Q := by
  refine e_X_refuse ?_
  rw [Int.toNat_natCast, w32_id (x := -(k : Int)) (by omega) (by omega)]
  exact ⟨⟨by omega, by omega⟩, ⟨by omega, by omega⟩, h⟩
theorem mr {d : Nat} {σ : Mem} {Q : Int → Mem → Prop} {k : Nat} (hk : k < 7) (h : Q (-(k : Int)) (mset σ 64 k (w32 (σ 64 k + 1)))) : wp (d + 1) m_M_refuse [.inr (.inr 49), .inl (-(k : Int))] σ Q := by
  refine e_M_refuse ?_
  rw [Int.neg_neg, w32_id (x := (k : Int)) (by omega) (by omega), Int.toNat_natCast]
  exact ⟨⟨by omega, by omega⟩, ⟨by omega, by omega⟩, h⟩
theorem xr1 {d : Nat} {σ : Mem} {Q : Int → Mem → Prop} (h : Q (-1) (mset σ 48 1 (w32 (σ 48 1 + 1)))) : wp (d + 1) m_X_refuse [.inr (.inr 0), .inl 1] σ Q := xr (k := 1) (by decide) h
theorem xr2 {d : Nat} {σ : Mem} {Q : Int → Mem → Prop} (h : Q (-2) (mset σ 48 2 (w32 (σ 48 2 + 1)))) : wp (d + 1) m_X_refuse [.inr (.inr 0), .inl 2] σ Q := xr (k := 2) (by decide) h
theorem xr3 {d : Nat} {σ : Mem} {Q : Int → Mem → Prop} (h : Q (-3) (mset σ 48 3 (w32 (σ 48 3 + 1)))) : wp (d + 1) m_X_refuse [.inr (.inr 0), .inl 3] σ Q := xr (k := 3) (by decide) h
theorem xr4 {d : Nat} {σ : Mem} {Q : Int → Mem → Prop} (h : Q (-4) (mset σ 48 4 (w32 (σ 48 4 + 1)))) : wp (d + 1) m_X_refuse [.inr (.inr 0), .inl 4] σ Q := xr (k := 4) (by decide) h
theorem xr6 {d : Nat} {σ : Mem} {Q : Int → Mem → Prop} (h : Q (-6) (mset σ 48 6 (w32 (σ 48 6 + 1)))) : wp (d + 1) m_X_refuse [.inr (.inr 0), .inl 6] σ Q := xr (k := 6) (by decide) h
theorem mr1 {d : Nat} {σ : Mem} {Q : Int → Mem → Prop} (h : Q (-1) (mset σ 64 1 (w32 (σ 64 1 + 1)))) : wp (d + 1) m_M_refuse [.inr (.inr 49), .inl (-1)] σ Q := mr (k := 1) (by decide) h
theorem mr2 {d : Nat} {σ : Mem} {Q : Int → Mem → Prop} (h : Q (-2) (mset σ 64 2 (w32 (σ 64 2 + 1)))) : wp (d + 1) m_M_refuse [.inr (.inr 49), .inl (-2)] σ Q := mr (k := 2) (by decide) h
theorem mr3 {d : Nat} {σ : Mem} {Q : Int → Mem → Prop} (h : Q (-3) (mset σ 64 3 (w32 (σ 64 3 + 1)))) : wp (d + 1) m_M_refuse [.inr (.inr 49), .inl (-3)] σ Q := mr (k := 3) (by decide) h
theorem mr4 {d : Nat} {σ : Mem} {Q : Int → Mem → Prop} (h : Q (-4) (mset σ 64 4 (w32 (σ 64 4 + 1)))) : wp (d + 1) m_M_refuse [.inr (.inr 49), .inl (-4)] σ Q := mr (k := 4) (by decide) h
theorem mr6 {d : Nat} {σ : Mem} {Q : Int → Mem → Prop} (h : Q (-6) (mset σ 64 6 (w32 (σ 64 6 + 1)))) : wp (d + 1) m_M_refuse [.inr (.inr 49), .inl (-6)] σ Q := mr (k := 6) (by decide) h
def far (k : Int) : Int := -4000000000000000000 - k
theorem xf {d : Nat} {σ : Mem} {Q : Int → Mem → Prop} {k : Nat} (hk : k < 7) (h : Q (far k) (mset σ 48 k (w32 (σ 48 k + 1)))) : wp (d + 2) m_X_refuseFar [.inr (.inr 0), .inl (k : Int)] σ Q := by
  refine e_X_refuseFar (xr hk ?_)
  rw [w64_id (by omega) (by omega)]
  have e : -(k : Int) - 4000000000000000000 = far k := by unfold far; omega
  rw [e]
  exact h
theorem mf {d : Nat} {σ : Mem} {Q : Int → Mem → Prop} {k : Nat} (hk : k < 7) (h : Q (far k) (mset σ 64 k (w32 (σ 64 k + 1)))) : wp (d + 2) m_M_refuseFar [.inr (.inr 49), .inl (-(k : Int))] σ Q := by
  refine e_M_refuseFar (mr hk ?_)
  rw [w64_id (by omega) (by omega)]
  have e : -4000000000000000000 + -(k : Int) = far k := by unfold far; omega
  rw [e]
  exact h
theorem xf1 {d : Nat} {σ : Mem} {Q : Int → Mem → Prop} (h : Q (far 1) (mset σ 48 1 (w32 (σ 48 1 + 1)))) : wp (d + 2) m_X_refuseFar [.inr (.inr 0), .inl 1] σ Q := xf (k := 1) (by decide) h
theorem xf2 {d : Nat} {σ : Mem} {Q : Int → Mem → Prop} (h : Q (far 2) (mset σ 48 2 (w32 (σ 48 2 + 1)))) : wp (d + 2) m_X_refuseFar [.inr (.inr 0), .inl 2] σ Q := xf (k := 2) (by decide) h
theorem xf3 {d : Nat} {σ : Mem} {Q : Int → Mem → Prop} (h : Q (far 3) (mset σ 48 3 (w32 (σ 48 3 + 1)))) : wp (d + 2) m_X_refuseFar [.inr (.inr 0), .inl 3] σ Q := xf (k := 3) (by decide) h
theorem xf6 {d : Nat} {σ : Mem} {Q : Int → Mem → Prop} (h : Q (far 6) (mset σ 48 6 (w32 (σ 48 6 + 1)))) : wp (d + 2) m_X_refuseFar [.inr (.inr 0), .inl 6] σ Q := xf (k := 6) (by decide) h
theorem mf1 {d : Nat} {σ : Mem} {Q : Int → Mem → Prop} (h : Q (far 1) (mset σ 64 1 (w32 (σ 64 1 + 1)))) : wp (d + 2) m_M_refuseFar [.inr (.inr 49), .inl (-1)] σ Q := mf (k := 1) (by decide) h
theorem mf2 {d : Nat} {σ : Mem} {Q : Int → Mem → Prop} (h : Q (far 2) (mset σ 64 2 (w32 (σ 64 2 + 1)))) : wp (d + 2) m_M_refuseFar [.inr (.inr 49), .inl (-2)] σ Q := mf (k := 2) (by decide) h
theorem mf3 {d : Nat} {σ : Mem} {Q : Int → Mem → Prop} (h : Q (far 3) (mset σ 64 3 (w32 (σ 64 3 + 1)))) : wp (d + 2) m_M_refuseFar [.inr (.inr 49), .inl (-3)] σ Q := mf (k := 3) (by decide) h
theorem mf6 {d : Nat} {σ : Mem} {Q : Int → Mem → Prop} (h : Q (far 6) (mset σ 64 6 (w32 (σ 64 6 + 1)))) : wp (d + 2) m_M_refuseFar [.inr (.inr 49), .inl (-6)] σ Q := mf (k := 6) (by decide) h
/-- a refusal by both -/
theorem RR.rf {A : Mem} (h : RR A) {k : Nat} {x y : Int} (hx : x = w32 (A 48 k + 1)) (hy : y = w32 (A 64 k + 1)) (hk : k < 7) : RR (mset (mset A 48 k x) 64 k y) := by
  refine ⟨h.1, h.2.1, h.2.2.1, h.2.2.2.1, h.2.2.2.2.1, fun j hj => ?_⟩
  have e := h.2.2.2.2.2 j hj
  by_cases hjk : j = k
  · subst hjk
    rw [ms_eq, ms_nk (by decide), ms_eq, hx, hy, e]
  · simp only [ms_ni hjk]
    exact e
theorem PQ.rf {A σ : Mem} (h : RR A) {k : Nat} {r : Int} (hk : k < 7) (e : Eqv (mset (mset A 48 k (w32 (A 48 k + 1))) 64 k (w32 (A 64 k + 1))) σ) : PQ r r σ := ⟨rfl, (h.rf rfl rfl hk).eqv e⟩
theorem PQ.rf0 {A : Mem} (h : RR A) {k : Nat} {r : Int} (hk : k < 7) : PQ r r (mset (mset A 48 k (w32 (A 48 k + 1))) 64 k (w32 (A 64 k + 1))) := ⟨rfl, h.rf rfl rfl hk⟩
theorem PQ.eqv {A σ : Mem} (h : RR A) {r r2 : Int} (hr : r = r2) (e : Eqv A σ) : PQ r r2 σ := ⟨hr, h.eqv e⟩
theorem VU.congr {g f g2 f2 : Nat → Int} : ∀ {n : Nat} {l t : Int}, (∀ i : Nat, (i : Int) < t → g2 i = g i) → (∀ j, j < n → f2 j = f j) → VU g f n l t → VU g2 f2 n l t
  | 0, l, t, hg, hf, h => ⟨h.1, h.2.1, fun i hi => by rw [hg i hi]; exact h.2.2 i hi⟩
  | n + 1, l, t, hg, hf, h => by
    refine ⟨⟨h.1.1, h.1.2.1, fun i hi => by rw [hg i hi]; exact h.1.2.2 i hi⟩, ?_⟩
    rw [hf n (by omega)]
    refine VU.congr (fun i hi => hg i ?_) (fun j hj => hf j (by omega)) h.2
    split at hi <;> omega
theorem VU.drop {g f : Nat → Int} : ∀ {n : Nat} {l t : Int}, VU g f (n + 1) l t → VU g (fun j => f (j + 1)) n l t
  | 0, l, t, h => h.1
  | n + 1, l, t, h => ⟨h.1, VU.drop h.2⟩
theorem VU.base {g f : Nat → Int} {l t : Int} : ∀ {n : Nat}, VU g f n l t → 0 ≤ l ∧ 0 ≤ t ∧ ∀ i : Nat, (i : Int) < t → g i < l
  | 0, h => h
  | _ + 1, h => h.1
/-- an entry of the past, of class and reference -/
def entOK (A : Mem) (k p w k2 p2 w2 : Int) : Prop := (k = 0 ∧ k2 = 0) ∨ (k = 1 ∧ k2 = 1) ∨ (k = 3 ∧ k2 = 2 ∧ w = w2 ∧ (w = 0 ∨ w = 1)) ∨ (k = 2 ∧ k2 = 3 ∧ p2 = p + 48 ∧ w = w2 ∧ -99 ≤ w ∧ w ≤ 99 ∧ ∃ a t : Nat, (a : Int) < A 7 2 ∧ (t : Int) < A 7 1 ∧ p = ((4 * a + t : Nat) : Int))
theorem PastR.push {A B : Mem} {m o : Nat} {k p w k2 p2 w2 : Int} (h : PastR A) (hm : (m : Int) + (o : Int) = A 31 0) (ho : m < 30 ∧ (o = 0 ∨ (o = 1 ∧ m = 29)))
    (x1 : B 31 0 = (m : Int) + 1) (x2 : ∀ j, j < m → B 32 j = A 32 (j + o) ∧ B 33 j = A 33 (j + o) ∧ B 34 j = A 34 (j + o)) (x3 : B 32 m = k ∧ B 33 m = p ∧ B 34 m = w)
    (y1 : B 49 19 = (m : Int) + 1) (y2 : ∀ j, j < m → B 61 j = A 61 (j + o) ∧ B 62 j = A 62 (j + o) ∧ B 63 j = A 63 (j + o)) (y3 : B 61 m = k2 ∧ B 62 m = p2 ∧ B 63 m = w2)
    (z1 : B 7 1 = A 7 1) (z2 : B 7 2 = A 7 2) (he : entOK A k p w k2 p2 w2) (hb : 0 ≤ B 7 10 ∧ 0 ≤ B 7 13 ∧ ∀ i : Nat, (i : Int) < B 7 13 → B 15 i < B 7 10)
    (hl : B 7 10 - (if k = 0 then 1 else 0) = A 7 10) (ht : B 7 13 - (if k = 1 then 1 else 0) = A 7 13) (hg : ∀ i : Nat, (i : Int) < A 7 13 → B 15 i = A 15 i) : PastR B := by
  have hV := h.2.2.2.2
  refine ⟨by rw [x1, y1], by omega, by omega, fun j hj => ?_, ?_⟩
  · by_cases hjm : j = m
    · subst hjm
      rw [x3.1, x3.2.1, x3.2.2, y3.1, y3.2.1, y3.2.2, z1, z2]
      exact he
    · have hj2 : j < m := by omega
      rw [(x2 j hj2).1, (x2 j hj2).2.1, (x2 j hj2).2.2, (y2 j hj2).1, (y2 j hj2).2.1, (y2 j hj2).2.2, z1, z2]
      exact h.2.2.2.1 (j + o) (by omega)
  · have e1 : (B 31 0).toNat = m + 1 := by omega
    rw [e1]
    refine ⟨hb, ?_⟩
    rw [x3.1, hl, ht]
    rcases ho.2 with rfl | ⟨rfl, rfl⟩
    · have e2 : (A 31 0).toNat = m := by omega
      rw [e2] at hV
      exact hV.congr hg (fun j hj => (x2 j hj).1)
    · have e2 : (A 31 0).toNat = 29 + 1 := by omega
      rw [e2] at hV
      exact hV.drop.congr hg (fun j hj => (x2 j hj).1)
def keptX (σ σ1 : Mem) (m o : Nat) (k p w : Int) : Prop := (∀ c i, c ≠ 31 → c ≠ 32 → c ≠ 33 → c ≠ 34 → σ1 c i = σ c i) ∧ σ1 31 0 = (m : Int) + 1 ∧ (∀ j, j < m → σ1 32 j = σ 32 (j + o) ∧ σ1 33 j = σ 33 (j + o) ∧ σ1 34 j = σ 34 (j + o)) ∧ σ1 32 m = k ∧ σ1 33 m = p ∧ σ1 34 m = w
def keptM (σ σ1 : Mem) (m o : Nat) (k p w : Int) : Prop := (∀ c i, ¬ (c = 49 ∧ i = 19) → c ≠ 61 → c ≠ 62 → c ≠ 63 → σ1 c i = σ c i) ∧ σ1 49 19 = (m : Int) + 1 ∧ (∀ j, j < m → σ1 61 j = σ 61 (j + o) ∧ σ1 62 j = σ 62 (j + o) ∧ σ1 63 j = σ 63 (j + o)) ∧ σ1 61 m = k ∧ σ1 62 m = p ∧ σ1 63 m = w
def moOK (m o : Nat) : Prop := m < 30 ∧ (o = 0 ∨ (o = 1 ∧ m = 29))
theorem sp_P_keep {d : Nat} {σ : Mem} {Q : Int → Mem → Prop} {k p w : Int} {m o : Nat} (hm : (m : Int) + (o : Int) = σ 31 0) (ho : moOK m o) (hQ : ∀ σ1, keptX σ σ1 m o k p w → Q 0 σ1) : wp (d + 2) m_P_keep [.inr (.inr 31), .inl k, .inl p, .inl w] σ Q := by
  have ho2 := ho.2
  have ho1 := ho.1
  refine e_P_keep ⟨fun h => ?_, fun h => e_P_giveUpOldest ?_⟩
  · have o0 : o = 0 := by omega
    subst o0
    have e : σ 31 0 = (m : Int) := by omega
    simp (discharger := first | decide | omega) only [ms_eq, ms_nk, e, Int.toNat_natCast, w32_id]
    refine ⟨⟨by omega, by omega⟩, ⟨by omega, by omega⟩, ⟨by omega, by omega⟩, hQ _ ⟨fun c i h1 h2 h3 h4 => ?_, ?_, fun j hj => ?_, ?_, ?_, ?_⟩⟩
    · rw [ms_nk h1, ms_nk h4, ms_nk h3, ms_nk h2]
    · rw [ms_eq]
    · have : j ≠ m := by omega
      simp (discharger := first | decide | omega) only [ms_nk, ms_ni, Nat.add_zero, true_and]
    · simp (discharger := first | decide | omega) only [ms_nk, ms_eq]
    · simp (discharger := first | decide | omega) only [ms_nk, ms_eq]
    · simp (discharger := first | decide | omega) only [ms_nk, ms_eq]
  · have o1 : o = 1 ∧ m = 29 := by omega
    obtain ⟨rfl, rfl⟩ := o1
    have c1 : ∀ (τ : Mem) (so sp d dp n : Nat) (k j : Nat), k ≠ d → mcpy τ so sp d dp n k j = τ k j := fun τ so sp d dp n k j hk => if_neg (fun z => hk z.1)
    have c2 : ∀ (τ : Mem) (so sp d dp n : Nat) (j : Nat), dp ≤ j ∧ j < dp + n → mcpy τ so sp d dp n d j = τ so (sp + (j - dp)) := fun τ so sp d dp n j hj => if_pos ⟨rfl, hj.1, hj.2⟩
    have t29 : (29 : Int).toNat = 29 := rfl
    simp (discharger := first | decide | omega) only [ms_eq, ms_nk, c1, t29, w32_id]
    refine ⟨by omega, by omega, by omega, by omega, by omega, by omega, hQ _ ⟨fun c i h1 h2 h3 h4 => ?_, ?_, fun j hj => ?_, ?_, ?_, ?_⟩⟩
    · rw [ms_nk h1, ms_nk h4, ms_nk h3, ms_nk h2, c1 _ _ _ _ _ _ _ _ h4, c1 _ _ _ _ _ _ _ _ h3, c1 _ _ _ _ _ _ _ _ h2, ms_nk h1]
    · rw [ms_eq]; rfl
    · have : j ≠ 29 := by omega
      simp (discharger := first | decide | omega) only [ms_nk, ms_ni, c1]
      rw [c2 _ _ _ _ _ _ _ (by omega), c2 _ _ _ _ _ _ _ (by omega), c2 _ _ _ _ _ _ _ (by omega)]
      simp (discharger := first | decide | omega) only [ms_nk, c1, Nat.sub_zero, Nat.add_comm 1 j, true_and]
    · simp (discharger := first | decide | omega) only [ms_nk, ms_eq]
    · simp (discharger := first | decide | omega) only [ms_nk, ms_eq]
    · simp (discharger := first | decide | omega) only [ms_nk, ms_eq]
