-- PURE, 9: what is told: second, ties, test, undo
def liveS (k i : Nat) : Bool := match k with
  | 49 => Nat.beq i 0 || Nat.beq i 1 || Nat.beq i 5 || Nat.beq i 6 || Nat.beq i 9 || Nat.beq i 12
  | k => (Nat.ble 7 k && Nat.ble k 18) || (Nat.ble 50 k && Nat.ble k 58)
def liveI (k i : Nat) : Bool := match k with
  | 0 => Nat.beq i 2
  | 1 => Nat.beq i 1
  | 2 => true
  | 6 => true
  | 48 => true
  | 49 => Nat.beq i 16 || Nat.beq i 18 || Nat.beq i 55
  | 59 => true
  | 60 => true
  | 64 => true
  | 80 => true
  | k => Nat.ble 19 k && Nat.ble k 30
def mskB (f : Nat → Nat → Bool) (A : Mem) : Mem := fun k i => match f k i with
  | true => A k i
  | false => 0
theorem mskB_eq {f : Nat → Nat → Bool} {A σ : Mem} (e : ∀ k i, f k i = true → σ k i = A k i) : mskB f σ = mskB f A := by
  funext k i
  unfold mskB
  cases hl : f k i with
  | true => exact e k i hl
  | false => rfl
theorem SR_mskS {A : Mem} : SR 7 (mLive (mskB liveS A)) (mskB liveS A) ↔ SR 7 (mLive A) A := Iff.rfl
/-- all of R but the scene and the past -/
def RI (A : Mem) : Prop := ((A 19 0 = 0 ∧ A 49 55 = 0) ∨ (A 19 0 = 1 ∧ A 49 55 = 1 ∧ SR 19 (mImg A) A)) ∧
  (A 0 2 = A 49 16 ∧ 0 ≤ A 0 2 ∧ A 0 2 ≤ 24 ∧ ∀ j : Nat, (j : Int) < A 0 2 → A 6 j = A 59 j ∧ 0 ≤ A 6 j ∧ A 6 j ≤ 60) ∧
  (A 1 1 = A 49 18 ∧ 0 ≤ A 1 1 ∧ A 1 1 ≤ 90 ∧ ∀ j : Nat, (j : Int) < A 1 1 → A 2 j = A 60 j ∧ 0 ≤ A 2 j ∧ A 2 j ≤ 255) ∧
  ∀ j : Nat, j < 7 → A 48 j = A 64 j
theorem RI_msk {A : Mem} : RI (mskB liveI A) ↔ RI A := Iff.rfl
theorem RR.ri {A : Mem} (h : RR A) : RI A := ⟨h.2.1, h.2.2.2⟩
theorem RR.mk3 {A2 B : Mem} (hS : SR 7 (mLive A2) A2) (eS : ∀ k i, liveS k i = true → B k i = A2 k i) (hI : RI A2) (eI : ∀ k i, liveI k i = true → B k i = A2 k i) (hP : PastR B) : RR B := by
  have h1 : SR 7 (mLive B) B := SR_mskS.mp (by rw [mskB_eq eS]; exact SR_mskS.mpr hS)
  have h2 : RI B := RI_msk.mp (by rw [mskB_eq eI]; exact RI_msk.mpr hI)
  exact ⟨h1, h2.1, hP, h2.2⟩
theorem live_x {f : Nat → Nat → Bool} {k i o : Nat} (h : f k i = true) (ho : f o i = false) : k ≠ o := fun z => by
  subst z
  rw [ho] at h
  cases h
theorem live_49 {f : Nat → Nat → Bool} {k i : Nat} (h : f k i = true) (ho : f 49 19 = false) : ¬ (k = 49 ∧ i = 19) := fun z => by
  obtain ⟨rfl, rfl⟩ := z
  rw [ho] at h
  cases h
theorem moEx {n : Int} (h : 0 ≤ n ∧ n ≤ 30) : ∃ m o : Nat, (m : Int) + (o : Int) = n ∧ moOK m o := by
  by_cases e : n = 30
  · exact ⟨29, 1, by omega, by decide, Or.inr ⟨rfl, rfl⟩⟩
  · exact ⟨n.toNat, 0, by omega, by omega, Or.inl rfl⟩
theorem SR.tie2 {A : Mem} (h : SR 7 (mLive A) A) {v : Int} (hv : v = 0 ∨ v = 1) : SR 7 (mLive (mset (mset A 7 3 v) 49 5 v)) (mset (mset A 7 3 v) 49 5 v) :=
  ⟨⟨h.1.1, h.1.2.1, rfl, h.1.2.2.2⟩, ⟨h.2.1.1, h.2.1.2.1, h.2.1.2.2.1, h.2.1.2.2.2.1, hv, h.2.1.2.2.2.2.2⟩, h.2.2⟩
theorem SR.sec2 {A : Mem} (h : SR 7 (mLive A) A) {a t : Nat} {v : Int} (ha : (a : Int) < A 7 2) (ht : (t : Int) < A 7 1) (hv : -99 ≤ v ∧ v ≤ 99) : SR 7 (mLive (mset (mset A 12 (4 * a + t) v) 52 (48 + 4 * a + t) v)) (mset (mset A 12 (4 * a + t) v) 52 (48 + 4 * a + t) v) := by
  refine ⟨h.1, h.2.1, h.2.2.1, h.2.2.2.1, h.2.2.2.2.1, fun a2 t2 ha2 ht2 => ?_, h.2.2.2.2.2.2⟩
  have hb := h.2.1
  have ha3 : (a2 : Int) < A 7 2 := ha2
  have ht3 : (t2 : Int) < A 7 1 := ht2
  have g := h.gt ha3 ht3
  show (mset (mset A 12 (4 * a + t) v) 52 (48 + 4 * a + t) v 52 (4 * a2 + t2) = A 10 (4 * a2 + t2) ∧ -99 ≤ A 10 (4 * a2 + t2) ∧ A 10 (4 * a2 + t2) ≤ 99) ∧ (mset (mset A 12 (4 * a + t) v) 52 (48 + 4 * a + t) v 52 (24 + 4 * a2 + t2) = A 11 (4 * a2 + t2) ∧ -99 ≤ A 11 (4 * a2 + t2) ∧ A 11 (4 * a2 + t2) ≤ 99) ∧ (mset (mset A 12 (4 * a + t) v) 52 (48 + 4 * a + t) v 52 (48 + 4 * a2 + t2) = mset (mset A 12 (4 * a + t) v) 52 (48 + 4 * a + t) v 12 (4 * a2 + t2) ∧ -99 ≤ mset (mset A 12 (4 * a + t) v) 52 (48 + 4 * a + t) v 12 (4 * a2 + t2) ∧ mset (mset A 12 (4 * a + t) v) 52 (48 + 4 * a + t) v 12 (4 * a2 + t2) ≤ 99)
  by_cases e : 4 * a2 + t2 = 4 * a + t
  · have e3 : 48 + 4 * a2 + t2 = 48 + 4 * a + t := by omega
    have e4 : 24 + 4 * a2 + t2 ≠ 48 + 4 * a + t := by omega
    rw [e3]
    simp (discharger := first | assumption | decide | omega) only [e, ms_nk, ms_ni, ms_eq]
    rw [e] at g
    exact ⟨g.1, g.2.1, trivial, hv⟩
  · have e3 : 48 + 4 * a2 + t2 ≠ 48 + 4 * a + t := by omega
    have e4 : 24 + 4 * a2 + t2 ≠ 48 + 4 * a + t := by omega
    simp (discharger := first | assumption | decide | omega) only [ms_nk, ms_ni]
    exact g
theorem RR.push {A A2 B : Mem} {m o : Nat} {k p w k2 p2 w2 : Int} (hR : RR A) (hS : SR 7 (mLive A2) A2) (hI : RI A2) (e : ∀ c i, ¬ (31 ≤ c ∧ c ≤ 34) → ¬ (61 ≤ c ∧ c ≤ 63) → ¬ (c = 49 ∧ i = 19) → B c i = A2 c i)
    (hm : (m : Int) + (o : Int) = A 31 0) (ho : moOK m o)
    (x1 : B 31 0 = (m : Int) + 1) (x2 : ∀ j, j < m → B 32 j = A 32 (j + o) ∧ B 33 j = A 33 (j + o) ∧ B 34 j = A 34 (j + o)) (x3 : B 32 m = k ∧ B 33 m = p ∧ B 34 m = w)
    (y1 : B 49 19 = (m : Int) + 1) (y2 : ∀ j, j < m → B 61 j = A 61 (j + o) ∧ B 62 j = A 62 (j + o) ∧ B 63 j = A 63 (j + o)) (y3 : B 61 m = k2 ∧ B 62 m = p2 ∧ B 63 m = w2)
    (z1 : A2 7 1 = A 7 1) (z2 : A2 7 2 = A 7 2) (he : entOK A k p w k2 p2 w2)
    (hl : A2 7 10 - (if k = 0 then 1 else 0) = A 7 10) (ht : A2 7 13 - (if k = 1 then 1 else 0) = A 7 13) (hg : ∀ i : Nat, (i : Int) < A 7 13 → A2 15 i = A 15 i) : RR B := by
  have f : ∀ c i, ¬ (31 ≤ c ∧ c ≤ 34) ∧ ¬ (61 ≤ c ∧ c ≤ 63) ∧ ¬ (c = 49 ∧ i = 19) → B c i = A2 c i := fun c i h => e c i h.1 h.2.1 h.2.2
  refine RR.mk3 hS (fun c i hl => f c i ?_) hI (fun c i hl => f c i ?_) (hR.2.2.1.push hm ho x1 x2 x3 y1 y2 y3 ?_ ?_ he ?_ ?_ ?_ (fun i hi => ?_))
  · have n31 := live_x (o := 31) hl rfl
    have n32 := live_x (o := 32) hl rfl
    have n33 := live_x (o := 33) hl rfl
    have n34 := live_x (o := 34) hl rfl
    have n61 := live_x (o := 61) hl rfl
    have n62 := live_x (o := 62) hl rfl
    have n63 := live_x (o := 63) hl rfl
    have n49 := live_49 hl rfl
    omega
  · have n31 := live_x (o := 31) hl rfl
    have n32 := live_x (o := 32) hl rfl
    have n33 := live_x (o := 33) hl rfl
    have n34 := live_x (o := 34) hl rfl
    have n61 := live_x (o := 61) hl rfl
    have n62 := live_x (o := 62) hl rfl
    have n63 := live_x (o := 63) hl rfl
    have n49 := live_49 hl rfl
    omega
  · rw [f 7 1 (by omega), z1]
  · rw [f 7 2 (by omega), z2]
  · rw [f 7 10 (by omega), f 7 13 (by omega)]
    refine ⟨hS.2.1.2.2.2.2.2.1, hS.2.1.2.2.2.2.2.2.2.1, fun i hi => ?_⟩
    rw [f 15 i (by omega)]
    exact (hS.2.2.2.2.2.2.2.2.2.1 i hi).2.2.1
  · rw [f 7 10 (by omega)]
    exact hl
  · rw [f 7 13 (by omega)]
    exact ht
  · rw [f 15 i (by omega)]
    exact hg i hi
theorem pr_ties {A : Mem} (hR : RR A) {a1 : Int} (i1 : InI a1) : wp 40 m_X_ties [.inr (.inr 0), .inl a1] A (fun r σ1 => wp 40 m_M_ties [.inr (.inr 49), .inl a1] σ1 (fun r2 σ2 => PQ r r2 σ2)) := by
  have sc := hR.sc
  unfold InI at i1
  repeat' first
    | with_reducible refine e_X_ties ?_
    | with_reducible refine xr1 ?_
    | with_reducible refine xr2 ?_
    | with_reducible refine xr3 ?_
    | with_reducible refine xr4 ?_
    | with_reducible refine xr6 ?_
    | with_reducible refine mr1 ?_
    | with_reducible refine mr2 ?_
    | with_reducible refine mr3 ?_
    | with_reducible refine mr4 ?_
    | with_reducible refine mr6 ?_
    | with_reducible refine xf1 ?_
    | with_reducible refine xf2 ?_
    | with_reducible refine xf3 ?_
    | with_reducible refine xf6 ?_
    | with_reducible refine mf1 ?_
    | with_reducible refine mf2 ?_
    | with_reducible refine mf3 ?_
    | with_reducible refine mf6 ?_
    | with_reducible exact isB0
    | with_reducible exact isB1
    | with_reducible refine And.intro ?_ ?_
    | (with_reducible refine fun (hz : (_ : Int) < _) => ?_) <;> ((try simp (discharger := first | decide | omega) only [ms_eq, ms_nk, ms_ni, w32_id, w64_id, Int.toNat_natCast, not_true_eq_false, not_false_eq_true] at hz) ; (try (exfalso; omega)))
    | (with_reducible refine fun (hz : (_ : Int) ≤ _) => ?_) <;> ((try simp (discharger := first | decide | omega) only [ms_eq, ms_nk, ms_ni, w32_id, w64_id, Int.toNat_natCast, not_true_eq_false, not_false_eq_true] at hz) ; (try (exfalso; omega)))
    | (with_reducible refine fun (hz : (_ : Int) = _) => ?_) <;> ((try simp (discharger := first | decide | omega) only [ms_eq, ms_nk, ms_ni, w32_id, w64_id, Int.toNat_natCast, not_true_eq_false, not_false_eq_true] at hz) ; (try (exfalso; omega)))
    | (with_reducible refine fun (hz : ¬ (_ : Int) = _) => ?_) <;> ((try simp (discharger := first | decide | omega) only [ms_eq, ms_nk, ms_ni, w32_id, w64_id, Int.toNat_natCast, not_true_eq_false, not_false_eq_true] at hz) ; (try (exfalso; omega)))
    | (with_reducible refine fun (hz : _ ∨ _) => ?_) <;> ((try simp (discharger := first | decide | omega) only [ms_eq, ms_nk, ms_ni, w32_id, w64_id, Int.toNat_natCast, not_true_eq_false, not_false_eq_true] at hz) ; (try (exfalso; omega)))
    | omega
    | (simp (discharger := first | decide | omega) only [ms_eq, ms_nk, ms_ni, w32_id, w64_id, Int.toNat_natCast, not_true_eq_false, not_false_eq_true] ; omega)
  all_goals first
    | (repeat' first
      | with_reducible refine e_M_ties ?_
      | with_reducible refine e_M_in ?_
      | with_reducible refine xr1 ?_
      | with_reducible refine xr2 ?_
      | with_reducible refine xr3 ?_
      | with_reducible refine xr4 ?_
      | with_reducible refine xr6 ?_
      | with_reducible refine mr1 ?_
      | with_reducible refine mr2 ?_
      | with_reducible refine mr3 ?_
      | with_reducible refine mr4 ?_
      | with_reducible refine mr6 ?_
      | with_reducible refine xf1 ?_
      | with_reducible refine xf2 ?_
      | with_reducible refine xf3 ?_
      | with_reducible refine xf6 ?_
      | with_reducible refine mf1 ?_
      | with_reducible refine mf2 ?_
      | with_reducible refine mf3 ?_
      | with_reducible refine mf6 ?_
      | with_reducible exact isB0
      | with_reducible exact isB1
      | with_reducible refine And.intro ?_ ?_
      | (with_reducible refine fun (hz : (_ : Int) < _) => ?_) <;> ((try simp (discharger := first | decide | omega) only [ms_eq, ms_nk, ms_ni, w32_id, w64_id, Int.toNat_natCast, not_true_eq_false, not_false_eq_true] at hz) ; (try (exfalso; omega)))
      | (with_reducible refine fun (hz : (_ : Int) ≤ _) => ?_) <;> ((try simp (discharger := first | decide | omega) only [ms_eq, ms_nk, ms_ni, w32_id, w64_id, Int.toNat_natCast, not_true_eq_false, not_false_eq_true] at hz) ; (try (exfalso; omega)))
      | (with_reducible refine fun (hz : (_ : Int) = _) => ?_) <;> ((try simp (discharger := first | decide | omega) only [ms_eq, ms_nk, ms_ni, w32_id, w64_id, Int.toNat_natCast, not_true_eq_false, not_false_eq_true] at hz) ; (try (exfalso; omega)))
      | (with_reducible refine fun (hz : ¬ (_ : Int) = _) => ?_) <;> ((try simp (discharger := first | decide | omega) only [ms_eq, ms_nk, ms_ni, w32_id, w64_id, Int.toNat_natCast, not_true_eq_false, not_false_eq_true] at hz) ; (try (exfalso; omega)))
      | (with_reducible refine fun (hz : _ ∨ _) => ?_) <;> ((try simp (discharger := first | decide | omega) only [ms_eq, ms_nk, ms_ni, w32_id, w64_id, Int.toNat_natCast, not_true_eq_false, not_false_eq_true] at hz) ; (try (exfalso; omega)))
      | omega
      | (simp (discharger := first | decide | omega) only [ms_eq, ms_nk, ms_ni, w32_id, w64_id, Int.toNat_natCast, not_true_eq_false, not_false_eq_true] ; omega)
       all_goals first
         | exact PQ.rf0 hR (by decide)
         | skip
       done)
    | skip
  obtain ⟨m, o, hm, ho⟩ := moEx (n := A 31 0) (by omega)
  refine sp_P_keep hm ho (fun s4 k1 => ?_)
  have q1 := k1.1
  repeat' first
    | with_reducible refine e_M_ties ?_
    | with_reducible refine e_M_in ?_
    | with_reducible refine xr1 ?_
    | with_reducible refine xr2 ?_
    | with_reducible refine xr3 ?_
    | with_reducible refine xr4 ?_
    | with_reducible refine xr6 ?_
    | with_reducible refine mr1 ?_
    | with_reducible refine mr2 ?_
    | with_reducible refine mr3 ?_
    | with_reducible refine mr4 ?_
    | with_reducible refine mr6 ?_
    | with_reducible refine xf1 ?_
    | with_reducible refine xf2 ?_
    | with_reducible refine xf3 ?_
    | with_reducible refine xf6 ?_
    | with_reducible refine mf1 ?_
    | with_reducible refine mf2 ?_
    | with_reducible refine mf3 ?_
    | with_reducible refine mf6 ?_
    | with_reducible exact isB0
    | with_reducible exact isB1
    | with_reducible refine And.intro ?_ ?_
    | (with_reducible refine fun (hz : (_ : Int) < _) => ?_) <;> ((try simp (discharger := first | decide | omega) only [ms_eq, ms_nk, ms_ni, w32_id, w64_id, Int.toNat_natCast, not_true_eq_false, not_false_eq_true, q1] at hz) ; (try (exfalso; omega)))
    | (with_reducible refine fun (hz : (_ : Int) ≤ _) => ?_) <;> ((try simp (discharger := first | decide | omega) only [ms_eq, ms_nk, ms_ni, w32_id, w64_id, Int.toNat_natCast, not_true_eq_false, not_false_eq_true, q1] at hz) ; (try (exfalso; omega)))
    | (with_reducible refine fun (hz : (_ : Int) = _) => ?_) <;> ((try simp (discharger := first | decide | omega) only [ms_eq, ms_nk, ms_ni, w32_id, w64_id, Int.toNat_natCast, not_true_eq_false, not_false_eq_true, q1] at hz) ; (try (exfalso; omega)))
    | (with_reducible refine fun (hz : ¬ (_ : Int) = _) => ?_) <;> ((try simp (discharger := first | decide | omega) only [ms_eq, ms_nk, ms_ni, w32_id, w64_id, Int.toNat_natCast, not_true_eq_false, not_false_eq_true, q1] at hz) ; (try (exfalso; omega)))
    | (with_reducible refine fun (hz : _ ∨ _) => ?_) <;> ((try simp (discharger := first | decide | omega) only [ms_eq, ms_nk, ms_ni, w32_id, w64_id, Int.toNat_natCast, not_true_eq_false, not_false_eq_true, q1] at hz) ; (try (exfalso; omega)))
    | omega
    | (simp (discharger := first | decide | omega) only [ms_eq, ms_nk, ms_ni, w32_id, w64_id, Int.toNat_natCast, not_true_eq_false, not_false_eq_true, q1] ; omega)
  refine sp_M_keepBack (m := m) (o := o) (by rw [ms_nk (by decide), k1.1 49 19 (by decide) (by decide) (by decide) (by decide)]; omega) ho (fun s6 k2 => ?_)
  have q2 := k2.1
  have hv : a1 = 0 ∨ a1 = 1 := by omega
  obtain ⟨-, u1, u2, u3⟩ := k1
  obtain ⟨-, v1, v2, v3⟩ := k2
  have v4 : mset s4 7 3 a1 49 5 = A 7 3 := by rw [ms_nk (by decide), q1 49 5 (by decide) (by decide) (by decide) (by decide)]; omega
  rw [v4] at v3
  simp only [mset] at q2 v2
  refine ⟨by rw [ms_nk (by decide), q1 49 5 (by decide) (by decide) (by decide) (by decide)]; omega, hR.push (A2 := mset (mset A 7 3 a1) 49 5 a1) (k := 3) (k2 := 2) (p := 0) (p2 := 0) (w := A 7 3) (w2 := A 7 3) (hR.1.tie2 hv) hR.ri (fun c i h1 h2 h3 => ?_) hm ho ?_ (fun j hj => ?_) ?_ ?_ (fun j hj => ?_) ?_ rfl rfl ?_ ?_ ?_ (fun i hi => rfl)⟩
  · simp only [mset]
    grind
  · simp only [mset]; grind
  · simp only [mset]; grind
  · simp only [mset]; grind
  · simp only [mset]; grind
  · simp only [mset]; grind
  · simp only [mset]; grind
  · exact Or.inr (Or.inr (Or.inl ⟨rfl, rfl, rfl, hR.1.tie⟩))
  · simp only [mset]; grind
  · simp only [mset]; grind
theorem pr_second {A : Mem} (hR : RR A) {a1 : Int} (i1 : InI a1) {a2 : Int} (i2 : InI a2) {a3 : Int} (i3 : InI a3) : wp 40 m_X_second [.inr (.inr 0), .inl a1, .inl a2, .inl a3] A (fun r σ1 => wp 40 m_M_second [.inr (.inr 49), .inl a1, .inl a2, .inl a3] σ1 (fun r2 σ2 => PQ r r2 σ2)) := by
  have sc := hR.sc
  unfold InI at i1 i2 i3
  repeat' first
    | with_reducible refine e_X_second ?_
    | with_reducible refine e_S_lacksAct ?_
    | with_reducible refine e_S_hasAct ?_
    | with_reducible refine e_S_hasTruth ?_
    | with_reducible refine xr1 ?_
    | with_reducible refine xr2 ?_
    | with_reducible refine xr3 ?_
    | with_reducible refine xr4 ?_
    | with_reducible refine xr6 ?_
    | with_reducible refine mr1 ?_
    | with_reducible refine mr2 ?_
    | with_reducible refine mr3 ?_
    | with_reducible refine mr4 ?_
    | with_reducible refine mr6 ?_
    | with_reducible refine xf1 ?_
    | with_reducible refine xf2 ?_
    | with_reducible refine xf3 ?_
    | with_reducible refine xf6 ?_
    | with_reducible refine mf1 ?_
    | with_reducible refine mf2 ?_
    | with_reducible refine mf3 ?_
    | with_reducible refine mf6 ?_
    | with_reducible exact isB0
    | with_reducible exact isB1
    | with_reducible refine And.intro ?_ ?_
    | (with_reducible refine fun (hz : (_ : Int) < _) => ?_) <;> ((try simp (discharger := first | decide | omega) only [ms_eq, ms_nk, ms_ni, w32_id, w64_id, Int.toNat_natCast, not_true_eq_false, not_false_eq_true] at hz) ; (try (exfalso; omega)))
    | (with_reducible refine fun (hz : (_ : Int) ≤ _) => ?_) <;> ((try simp (discharger := first | decide | omega) only [ms_eq, ms_nk, ms_ni, w32_id, w64_id, Int.toNat_natCast, not_true_eq_false, not_false_eq_true] at hz) ; (try (exfalso; omega)))
    | (with_reducible refine fun (hz : (_ : Int) = _) => ?_) <;> ((try simp (discharger := first | decide | omega) only [ms_eq, ms_nk, ms_ni, w32_id, w64_id, Int.toNat_natCast, not_true_eq_false, not_false_eq_true] at hz) ; (try (exfalso; omega)))
    | (with_reducible refine fun (hz : ¬ (_ : Int) = _) => ?_) <;> ((try simp (discharger := first | decide | omega) only [ms_eq, ms_nk, ms_ni, w32_id, w64_id, Int.toNat_natCast, not_true_eq_false, not_false_eq_true] at hz) ; (try (exfalso; omega)))
    | (with_reducible refine fun (hz : _ ∨ _) => ?_) <;> ((try simp (discharger := first | decide | omega) only [ms_eq, ms_nk, ms_ni, w32_id, w64_id, Int.toNat_natCast, not_true_eq_false, not_false_eq_true] at hz) ; (try (exfalso; omega)))
    | omega
    | (simp (discharger := first | decide | omega) only [ms_eq, ms_nk, ms_ni, w32_id, w64_id, Int.toNat_natCast, not_true_eq_false, not_false_eq_true] ; omega)
  all_goals first
    | (repeat' first
      | with_reducible refine e_M_second ?_
      | with_reducible refine e_M_in ?_
      | with_reducible refine e_M_isAct ?_
      | with_reducible refine e_M_isTruth ?_
      | with_reducible refine xr1 ?_
      | with_reducible refine xr2 ?_
      | with_reducible refine xr3 ?_
      | with_reducible refine xr4 ?_
      | with_reducible refine xr6 ?_
      | with_reducible refine mr1 ?_
      | with_reducible refine mr2 ?_
      | with_reducible refine mr3 ?_
      | with_reducible refine mr4 ?_
      | with_reducible refine mr6 ?_
      | with_reducible refine xf1 ?_
      | with_reducible refine xf2 ?_
      | with_reducible refine xf3 ?_
      | with_reducible refine xf6 ?_
      | with_reducible refine mf1 ?_
      | with_reducible refine mf2 ?_
      | with_reducible refine mf3 ?_
      | with_reducible refine mf6 ?_
      | with_reducible exact isB0
      | with_reducible exact isB1
      | with_reducible refine And.intro ?_ ?_
      | (with_reducible refine fun (hz : (_ : Int) < _) => ?_) <;> ((try simp (discharger := first | decide | omega) only [ms_eq, ms_nk, ms_ni, w32_id, w64_id, Int.toNat_natCast, not_true_eq_false, not_false_eq_true] at hz) ; (try (exfalso; omega)))
      | (with_reducible refine fun (hz : (_ : Int) ≤ _) => ?_) <;> ((try simp (discharger := first | decide | omega) only [ms_eq, ms_nk, ms_ni, w32_id, w64_id, Int.toNat_natCast, not_true_eq_false, not_false_eq_true] at hz) ; (try (exfalso; omega)))
      | (with_reducible refine fun (hz : (_ : Int) = _) => ?_) <;> ((try simp (discharger := first | decide | omega) only [ms_eq, ms_nk, ms_ni, w32_id, w64_id, Int.toNat_natCast, not_true_eq_false, not_false_eq_true] at hz) ; (try (exfalso; omega)))
      | (with_reducible refine fun (hz : ¬ (_ : Int) = _) => ?_) <;> ((try simp (discharger := first | decide | omega) only [ms_eq, ms_nk, ms_ni, w32_id, w64_id, Int.toNat_natCast, not_true_eq_false, not_false_eq_true] at hz) ; (try (exfalso; omega)))
      | (with_reducible refine fun (hz : _ ∨ _) => ?_) <;> ((try simp (discharger := first | decide | omega) only [ms_eq, ms_nk, ms_ni, w32_id, w64_id, Int.toNat_natCast, not_true_eq_false, not_false_eq_true] at hz) ; (try (exfalso; omega)))
      | omega
      | (simp (discharger := first | decide | omega) only [ms_eq, ms_nk, ms_ni, w32_id, w64_id, Int.toNat_natCast, not_true_eq_false, not_false_eq_true] ; omega)
       all_goals first
         | exact PQ.rf0 hR (by decide)
         | skip
       done)
    | skip
  obtain ⟨m, o, hm, ho⟩ := moEx (n := A 31 0) (by omega)
  obtain ⟨a, rfl⟩ : ∃ a : Nat, a1 = (a : Int) := ⟨a1.toNat, by omega⟩
  obtain ⟨t, rfl⟩ : ∃ t : Nat, a2 = (t : Int) := ⟨a2.toNat, by omega⟩
  have e1 : w32 (w32 ((a : Int) * 4) + (t : Int)) = ((4 * a + t : Nat) : Int) := by rw [w32_id (x := (a : Int) * 4) (by omega) (by omega)]; exact w32_eq (by omega) (by omega)
  have e2 : w32 (w32 (48 + w32 (4 * (a : Int))) + (t : Int)) = ((48 + 4 * a + t : Nat) : Int) := by rw [w32_id (x := 4 * (a : Int)) (by omega) (by omega), w32_id (x := 48 + 4 * (a : Int)) (by omega) (by omega)]; exact w32_eq (by omega) (by omega)
  rw [e1, Int.toNat_natCast]
  refine sp_P_keep hm ho (fun s4 k1 => ⟨⟨by omega, by omega⟩, ?_⟩)
  have q1 := k1.1
  repeat' first
    | with_reducible refine e_M_second ?_
    | with_reducible refine e_M_in ?_
    | with_reducible refine e_M_isAct ?_
    | with_reducible refine e_M_isTruth ?_
    | with_reducible refine xr1 ?_
    | with_reducible refine xr2 ?_
    | with_reducible refine xr3 ?_
    | with_reducible refine xr4 ?_
    | with_reducible refine xr6 ?_
    | with_reducible refine mr1 ?_
    | with_reducible refine mr2 ?_
    | with_reducible refine mr3 ?_
    | with_reducible refine mr4 ?_
    | with_reducible refine mr6 ?_
    | with_reducible refine xf1 ?_
    | with_reducible refine xf2 ?_
    | with_reducible refine xf3 ?_
    | with_reducible refine xf6 ?_
    | with_reducible refine mf1 ?_
    | with_reducible refine mf2 ?_
    | with_reducible refine mf3 ?_
    | with_reducible refine mf6 ?_
    | with_reducible exact isB0
    | with_reducible exact isB1
    | with_reducible refine And.intro ?_ ?_
    | (with_reducible refine fun (hz : (_ : Int) < _) => ?_) <;> ((try simp (discharger := first | decide | omega) only [ms_eq, ms_nk, ms_ni, w32_id, w64_id, Int.toNat_natCast, not_true_eq_false, not_false_eq_true, q1, e2] at hz) ; (try (exfalso; omega)))
    | (with_reducible refine fun (hz : (_ : Int) ≤ _) => ?_) <;> ((try simp (discharger := first | decide | omega) only [ms_eq, ms_nk, ms_ni, w32_id, w64_id, Int.toNat_natCast, not_true_eq_false, not_false_eq_true, q1, e2] at hz) ; (try (exfalso; omega)))
    | (with_reducible refine fun (hz : (_ : Int) = _) => ?_) <;> ((try simp (discharger := first | decide | omega) only [ms_eq, ms_nk, ms_ni, w32_id, w64_id, Int.toNat_natCast, not_true_eq_false, not_false_eq_true, q1, e2] at hz) ; (try (exfalso; omega)))
    | (with_reducible refine fun (hz : ¬ (_ : Int) = _) => ?_) <;> ((try simp (discharger := first | decide | omega) only [ms_eq, ms_nk, ms_ni, w32_id, w64_id, Int.toNat_natCast, not_true_eq_false, not_false_eq_true, q1, e2] at hz) ; (try (exfalso; omega)))
    | (with_reducible refine fun (hz : _ ∨ _) => ?_) <;> ((try simp (discharger := first | decide | omega) only [ms_eq, ms_nk, ms_ni, w32_id, w64_id, Int.toNat_natCast, not_true_eq_false, not_false_eq_true, q1, e2] at hz) ; (try (exfalso; omega)))
    | omega
    | (simp (discharger := first | decide | omega) only [ms_eq, ms_nk, ms_ni, w32_id, w64_id, Int.toNat_natCast, not_true_eq_false, not_false_eq_true, q1, e2] ; omega)
  rw [e2, Int.toNat_natCast]
  refine sp_M_keepBack (m := m) (o := o) (by rw [ms_nk (by decide), k1.1 49 19 (by decide) (by decide) (by decide) (by decide)]; omega) ho (fun s6 k2 => ⟨⟨by omega, by omega⟩, ?_⟩)
  have q2 := k2.1
  obtain ⟨-, u1, u2, u3⟩ := k1
  obtain ⟨-, v1, v2, v3⟩ := k2
  have g := hR.1.gt (a := a) (t := t) (by omega) (by omega)
  have g3 : A 52 (48 + 4 * a + t) = A 12 (4 * a + t) ∧ -99 ≤ A 12 (4 * a + t) ∧ A 12 (4 * a + t) ≤ 99 := g.2.2
  have v4 : mset s4 12 (4 * a + t) a3 52 (48 + 4 * a + t) = A 12 (4 * a + t) := by rw [ms_nk (by decide), q1 _ _ (by decide) (by decide) (by decide) (by decide), g3.1]
  rw [v4] at v3
  simp only [mset] at q2 v2
  refine ⟨rfl, hR.push (A2 := mset (mset A 12 (4 * a + t) a3) 52 (48 + 4 * a + t) a3) (k := 2) (k2 := 3) (p := ((4 * a + t : Nat) : Int)) (p2 := ((48 + 4 * a + t : Nat) : Int)) (w := A 12 (4 * a + t)) (w2 := A 12 (4 * a + t)) (hR.1.sec2 (by omega) (by omega) (by omega)) hR.ri (fun c i h1 h2 h3 => ?_) hm ho ?_ (fun j hj => ?_) ?_ ?_ (fun j hj => ?_) ?_ rfl rfl ?_ ?_ ?_ (fun i hi => rfl)⟩
  · simp only [mset]; grind
  · simp only [mset]; grind
  · simp only [mset]; grind
  · simp only [mset]; grind
  · simp only [mset]; grind
  · simp only [mset]; grind
  · simp only [mset]; grind
  · exact Or.inr (Or.inr (Or.inr ⟨rfl, rfl, by omega, rfl, g3.2.1, g3.2.2, a, t, by omega, by omega, rfl⟩))
  · simp only [mset]; grind
  · simp only [mset]; grind
theorem SR.tst2 {A : Mem} (h : SR 7 (mLive A) A) {n l c : Nat} (hn : A 7 13 = (n : Int)) (hn6 : n < 6) (hl : (l : Int) < A 7 10) (hc : c ≤ 99) {B : Mem} (hB : B = mset (mset (mset (mset (mset (mset A 15 n l) 16 n c) 7 13 (n + 1 : Nat)) 55 n l) 56 n c) 49 9 (n + 1 : Nat)) : SR 7 (mLive B) B := by
  subst hB
  have hb := h.2.1
  have h13 : (mset (mset (mset (mset (mset (mset A 15 n l) 16 n c) 7 13 (n + 1 : Nat)) 55 n l) 56 n c) 49 9 (n + 1 : Nat)) 7 13 = ((n + 1 : Nat) : Int) := rfl
  refine ⟨⟨h.1.1, h.1.2.1, h.1.2.2.1, h.1.2.2.2.1, rfl, h.1.2.2.2.2.2⟩, ⟨hb.1, hb.2.1, hb.2.2.1, hb.2.2.2.1, hb.2.2.2.2.1, hb.2.2.2.2.2.1, hb.2.2.2.2.2.2.1, ?_, ?_, hb.2.2.2.2.2.2.2.2.2⟩, h.2.2.1, h.2.2.2.1, h.2.2.2.2.1, h.2.2.2.2.2.1, h.2.2.2.2.2.2.1, h.2.2.2.2.2.2.2.1, h.2.2.2.2.2.2.2.2.1, fun i hi => ?_, h.2.2.2.2.2.2.2.2.2.2⟩
  · rw [h13]; omega
  · rw [h13]; omega
  · rw [h13] at hi
    have g := h.2.2.2.2.2.2.2.2.2.1 i
    rw [hn] at g
    by_cases e : i = n
    · subst e
      show mset (mset (mset (mset (mset (mset A 15 i l) 16 i c) 7 13 (i + 1 : Nat)) 55 i l) 56 i c) 49 9 (i + 1 : Nat) 55 i = mset (mset (mset (mset (mset (mset A 15 i l) 16 i c) 7 13 (i + 1 : Nat)) 55 i l) 56 i c) 49 9 (i + 1 : Nat) 15 i ∧ 0 ≤ mset (mset (mset (mset (mset (mset A 15 i l) 16 i c) 7 13 (i + 1 : Nat)) 55 i l) 56 i c) 49 9 (i + 1 : Nat) 15 i ∧ mset (mset (mset (mset (mset (mset A 15 i l) 16 i c) 7 13 (i + 1 : Nat)) 55 i l) 56 i c) 49 9 (i + 1 : Nat) 15 i < A 7 10 ∧ mset (mset (mset (mset (mset (mset A 15 i l) 16 i c) 7 13 (i + 1 : Nat)) 55 i l) 56 i c) 49 9 (i + 1 : Nat) 56 i = mset (mset (mset (mset (mset (mset A 15 i l) 16 i c) 7 13 (i + 1 : Nat)) 55 i l) 56 i c) 49 9 (i + 1 : Nat) 16 i ∧ 0 ≤ mset (mset (mset (mset (mset (mset A 15 i l) 16 i c) 7 13 (i + 1 : Nat)) 55 i l) 56 i c) 49 9 (i + 1 : Nat) 16 i ∧ mset (mset (mset (mset (mset (mset A 15 i l) 16 i c) 7 13 (i + 1 : Nat)) 55 i l) 56 i c) 49 9 (i + 1 : Nat) 16 i ≤ 99
      simp only [mset]; grind
    · have g2 : A 55 i = A 15 i ∧ 0 ≤ A 15 i ∧ A 15 i < A 7 10 ∧ A 56 i = A 16 i ∧ 0 ≤ A 16 i ∧ A 16 i ≤ 99 := g (by omega)
      show mset (mset (mset (mset (mset (mset A 15 n l) 16 n c) 7 13 (n + 1 : Nat)) 55 n l) 56 n c) 49 9 (n + 1 : Nat) 55 i = mset (mset (mset (mset (mset (mset A 15 n l) 16 n c) 7 13 (n + 1 : Nat)) 55 n l) 56 n c) 49 9 (n + 1 : Nat) 15 i ∧ 0 ≤ mset (mset (mset (mset (mset (mset A 15 n l) 16 n c) 7 13 (n + 1 : Nat)) 55 n l) 56 n c) 49 9 (n + 1 : Nat) 15 i ∧ mset (mset (mset (mset (mset (mset A 15 n l) 16 n c) 7 13 (n + 1 : Nat)) 55 n l) 56 n c) 49 9 (n + 1 : Nat) 15 i < A 7 10 ∧ mset (mset (mset (mset (mset (mset A 15 n l) 16 n c) 7 13 (n + 1 : Nat)) 55 n l) 56 n c) 49 9 (n + 1 : Nat) 56 i = mset (mset (mset (mset (mset (mset A 15 n l) 16 n c) 7 13 (n + 1 : Nat)) 55 n l) 56 n c) 49 9 (n + 1 : Nat) 16 i ∧ 0 ≤ mset (mset (mset (mset (mset (mset A 15 n l) 16 n c) 7 13 (n + 1 : Nat)) 55 n l) 56 n c) 49 9 (n + 1 : Nat) 16 i ∧ mset (mset (mset (mset (mset (mset A 15 n l) 16 n c) 7 13 (n + 1 : Nat)) 55 n l) 56 n c) 49 9 (n + 1 : Nat) 16 i ≤ 99
      simp only [mset]; grind
theorem pr_test {A : Mem} (hR : RR A) {a1 : Int} (i1 : InI a1) {a2 : Int} (i2 : InI a2) : wp 40 m_X_test [.inr (.inr 0), .inl a1, .inl a2] A (fun r σ1 => wp 40 m_M_test [.inr (.inr 49), .inl a1, .inl a2] σ1 (fun r2 σ2 => PQ r r2 σ2)) := by
  have sc := hR.sc
  unfold InI at i1 i2
  repeat' first
    | with_reducible refine e_X_test ?_
    | with_reducible refine e_S_lacksLook ?_
    | with_reducible refine e_S_hasLook ?_
    | with_reducible refine xr1 ?_
    | with_reducible refine xr2 ?_
    | with_reducible refine xr3 ?_
    | with_reducible refine xr4 ?_
    | with_reducible refine xr6 ?_
    | with_reducible refine mr1 ?_
    | with_reducible refine mr2 ?_
    | with_reducible refine mr3 ?_
    | with_reducible refine mr4 ?_
    | with_reducible refine mr6 ?_
    | with_reducible refine xf1 ?_
    | with_reducible refine xf2 ?_
    | with_reducible refine xf3 ?_
    | with_reducible refine xf6 ?_
    | with_reducible refine mf1 ?_
    | with_reducible refine mf2 ?_
    | with_reducible refine mf3 ?_
    | with_reducible refine mf6 ?_
    | with_reducible exact isB0
    | with_reducible exact isB1
    | with_reducible refine And.intro ?_ ?_
    | (with_reducible refine fun (hz : (_ : Int) < _) => ?_) <;> ((try simp (discharger := first | decide | omega) only [ms_eq, ms_nk, ms_ni, w32_id, w64_id, Int.toNat_natCast, not_true_eq_false, not_false_eq_true] at hz) ; (try (exfalso; omega)))
    | (with_reducible refine fun (hz : (_ : Int) ≤ _) => ?_) <;> ((try simp (discharger := first | decide | omega) only [ms_eq, ms_nk, ms_ni, w32_id, w64_id, Int.toNat_natCast, not_true_eq_false, not_false_eq_true] at hz) ; (try (exfalso; omega)))
    | (with_reducible refine fun (hz : (_ : Int) = _) => ?_) <;> ((try simp (discharger := first | decide | omega) only [ms_eq, ms_nk, ms_ni, w32_id, w64_id, Int.toNat_natCast, not_true_eq_false, not_false_eq_true] at hz) ; (try (exfalso; omega)))
    | (with_reducible refine fun (hz : ¬ (_ : Int) = _) => ?_) <;> ((try simp (discharger := first | decide | omega) only [ms_eq, ms_nk, ms_ni, w32_id, w64_id, Int.toNat_natCast, not_true_eq_false, not_false_eq_true] at hz) ; (try (exfalso; omega)))
    | (with_reducible refine fun (hz : _ ∨ _) => ?_) <;> ((try simp (discharger := first | decide | omega) only [ms_eq, ms_nk, ms_ni, w32_id, w64_id, Int.toNat_natCast, not_true_eq_false, not_false_eq_true] at hz) ; (try (exfalso; omega)))
    | omega
    | (simp (discharger := first | decide | omega) only [ms_eq, ms_nk, ms_ni, w32_id, w64_id, Int.toNat_natCast, not_true_eq_false, not_false_eq_true] ; omega)
  all_goals first
    | (repeat' first
      | with_reducible refine e_M_test ?_
      | with_reducible refine e_M_in ?_
      | with_reducible refine e_M_isLook ?_
      | with_reducible refine xr1 ?_
      | with_reducible refine xr2 ?_
      | with_reducible refine xr3 ?_
      | with_reducible refine xr4 ?_
      | with_reducible refine xr6 ?_
      | with_reducible refine mr1 ?_
      | with_reducible refine mr2 ?_
      | with_reducible refine mr3 ?_
      | with_reducible refine mr4 ?_
      | with_reducible refine mr6 ?_
      | with_reducible refine xf1 ?_
      | with_reducible refine xf2 ?_
      | with_reducible refine xf3 ?_
      | with_reducible refine xf6 ?_
      | with_reducible refine mf1 ?_
      | with_reducible refine mf2 ?_
      | with_reducible refine mf3 ?_
      | with_reducible refine mf6 ?_
      | with_reducible exact isB0
      | with_reducible exact isB1
      | with_reducible refine And.intro ?_ ?_
      | (with_reducible refine fun (hz : (_ : Int) < _) => ?_) <;> ((try simp (discharger := first | decide | omega) only [ms_eq, ms_nk, ms_ni, w32_id, w64_id, Int.toNat_natCast, not_true_eq_false, not_false_eq_true] at hz) ; (try (exfalso; omega)))
      | (with_reducible refine fun (hz : (_ : Int) ≤ _) => ?_) <;> ((try simp (discharger := first | decide | omega) only [ms_eq, ms_nk, ms_ni, w32_id, w64_id, Int.toNat_natCast, not_true_eq_false, not_false_eq_true] at hz) ; (try (exfalso; omega)))
      | (with_reducible refine fun (hz : (_ : Int) = _) => ?_) <;> ((try simp (discharger := first | decide | omega) only [ms_eq, ms_nk, ms_ni, w32_id, w64_id, Int.toNat_natCast, not_true_eq_false, not_false_eq_true] at hz) ; (try (exfalso; omega)))
      | (with_reducible refine fun (hz : ¬ (_ : Int) = _) => ?_) <;> ((try simp (discharger := first | decide | omega) only [ms_eq, ms_nk, ms_ni, w32_id, w64_id, Int.toNat_natCast, not_true_eq_false, not_false_eq_true] at hz) ; (try (exfalso; omega)))
      | (with_reducible refine fun (hz : _ ∨ _) => ?_) <;> ((try simp (discharger := first | decide | omega) only [ms_eq, ms_nk, ms_ni, w32_id, w64_id, Int.toNat_natCast, not_true_eq_false, not_false_eq_true] at hz) ; (try (exfalso; omega)))
      | omega
      | (simp (discharger := first | decide | omega) only [ms_eq, ms_nk, ms_ni, w32_id, w64_id, Int.toNat_natCast, not_true_eq_false, not_false_eq_true] ; omega)
       all_goals first
         | exact PQ.rf0 hR (by decide)
         | skip
       done)
    | skip
  obtain ⟨m, o, hm, ho⟩ := moEx (n := A 31 0) (by omega)
  obtain ⟨l, rfl⟩ : ∃ l : Nat, a1 = (l : Int) := ⟨a1.toNat, by omega⟩
  obtain ⟨c, rfl⟩ : ∃ c : Nat, a2 = (c : Int) := ⟨a2.toNat, by omega⟩
  obtain ⟨n, hn⟩ : ∃ n : Nat, A 7 13 = (n : Int) := ⟨(A 7 13).toNat, by omega⟩
  have hn2 : A 49 9 = (n : Int) := by omega
  simp (discharger := first | decide | omega) only [ms_eq, ms_nk, ms_ni, w32_id, w64_id, Int.toNat_natCast, not_true_eq_false, not_false_eq_true, hn]
  refine sp_P_keep (m := m) (o := o) (by simp (discharger := first | decide | omega) only [ms_eq, ms_nk, ms_ni, w32_id, w64_id, Int.toNat_natCast, not_true_eq_false, not_false_eq_true]; exact hm) ho (fun s4 k1 => ?_)
  have q1 := k1.1
  have q3 : s4 49 9 = (n : Int) := by rw [q1 49 9 (by decide) (by decide) (by decide) (by decide)]; simp (discharger := first | decide | omega) only [ms_eq, ms_nk, ms_ni, w32_id, w64_id, Int.toNat_natCast, not_true_eq_false, not_false_eq_true]; exact hn2
  repeat' first
    | with_reducible refine e_M_test ?_
    | with_reducible refine e_M_in ?_
    | with_reducible refine e_M_isLook ?_
    | with_reducible refine xr1 ?_
    | with_reducible refine xr2 ?_
    | with_reducible refine xr3 ?_
    | with_reducible refine xr4 ?_
    | with_reducible refine xr6 ?_
    | with_reducible refine mr1 ?_
    | with_reducible refine mr2 ?_
    | with_reducible refine mr3 ?_
    | with_reducible refine mr4 ?_
    | with_reducible refine mr6 ?_
    | with_reducible refine xf1 ?_
    | with_reducible refine xf2 ?_
    | with_reducible refine xf3 ?_
    | with_reducible refine xf6 ?_
    | with_reducible refine mf1 ?_
    | with_reducible refine mf2 ?_
    | with_reducible refine mf3 ?_
    | with_reducible refine mf6 ?_
    | with_reducible exact isB0
    | with_reducible exact isB1
    | with_reducible refine And.intro ?_ ?_
    | (with_reducible refine fun (hz : (_ : Int) < _) => ?_) <;> ((try simp (discharger := first | decide | omega) only [ms_eq, ms_nk, ms_ni, w32_id, w64_id, Int.toNat_natCast, not_true_eq_false, not_false_eq_true, q1, q3] at hz) ; (try (exfalso; omega)))
    | (with_reducible refine fun (hz : (_ : Int) ≤ _) => ?_) <;> ((try simp (discharger := first | decide | omega) only [ms_eq, ms_nk, ms_ni, w32_id, w64_id, Int.toNat_natCast, not_true_eq_false, not_false_eq_true, q1, q3] at hz) ; (try (exfalso; omega)))
    | (with_reducible refine fun (hz : (_ : Int) = _) => ?_) <;> ((try simp (discharger := first | decide | omega) only [ms_eq, ms_nk, ms_ni, w32_id, w64_id, Int.toNat_natCast, not_true_eq_false, not_false_eq_true, q1, q3] at hz) ; (try (exfalso; omega)))
    | (with_reducible refine fun (hz : ¬ (_ : Int) = _) => ?_) <;> ((try simp (discharger := first | decide | omega) only [ms_eq, ms_nk, ms_ni, w32_id, w64_id, Int.toNat_natCast, not_true_eq_false, not_false_eq_true, q1, q3] at hz) ; (try (exfalso; omega)))
    | (with_reducible refine fun (hz : _ ∨ _) => ?_) <;> ((try simp (discharger := first | decide | omega) only [ms_eq, ms_nk, ms_ni, w32_id, w64_id, Int.toNat_natCast, not_true_eq_false, not_false_eq_true, q1, q3] at hz) ; (try (exfalso; omega)))
    | omega
    | (simp (discharger := first | decide | omega) only [ms_eq, ms_nk, ms_ni, w32_id, w64_id, Int.toNat_natCast, not_true_eq_false, not_false_eq_true, q1, q3] ; omega)
  simp (discharger := first | decide | omega) only [ms_eq, ms_nk, ms_ni, w32_id, w64_id, Int.toNat_natCast, not_true_eq_false, not_false_eq_true, q3]
  refine sp_M_keepBack (m := m) (o := o) (by simp (discharger := first | decide | omega) only [ms_eq, ms_nk, ms_ni, w32_id, w64_id, Int.toNat_natCast, not_true_eq_false, not_false_eq_true, q1]; omega) ho (fun s6 k2 => ?_)
  have q2 := k2.1
  have q4 : s6 49 9 = (n : Int) := by rw [q2 49 9 (by decide) (by decide) (by decide) (by decide)]; simp (discharger := first | decide | omega) only [ms_eq, ms_nk, ms_ni, w32_id, w64_id, Int.toNat_natCast, not_true_eq_false, not_false_eq_true]; exact q3
  simp (discharger := first | decide | omega) only [ms_eq, ms_nk, ms_ni, w32_id, w64_id, Int.toNat_natCast, not_true_eq_false, not_false_eq_true, q4]
  obtain ⟨-, u1, u2, u3⟩ := k1
  obtain ⟨-, v1, v2, v3⟩ := k2
  simp only [mset] at q1 u2 q2 v2
  refine ⟨by omega, hR.push (A2 := mset (mset (mset (mset (mset (mset A 15 n l) 16 n c) 7 13 (n + 1 : Nat)) 55 n l) 56 n c) 49 9 (n + 1 : Nat)) (k := 1) (k2 := 1) (p := 0) (p2 := 0) (w := 0) (w2 := 0) (hR.1.tst2 hn (by omega) (by omega) (by omega) rfl) hR.ri (fun c i h1 h2 h3 => ?_) hm ho ?_ (fun j hj => ?_) ?_ ?_ (fun j hj => ?_) ?_ rfl rfl ?_ ?_ ?_ (fun i hi => ?_)⟩
  · simp only [mset]; grind
  · simp only [mset]; grind
  · simp only [mset]; grind
  · simp only [mset]; grind
  · simp only [mset]; grind
  · simp only [mset]; grind
  · simp only [mset]; grind
  · exact Or.inr (Or.inl ⟨rfl, rfl⟩)
  · simp only [mset]; grind
  · simp only [mset]; grind
  · simp only [mset]; grind
