-- two truths: the reference's best
theorem sp_M_isBelow {d : Nat} {A σ : Mem} {Q : Int → Mem → Prop} {E i j : Nat} (P : PT A (σ 71) (σ 72) (σ 75) E) (hi : i ≤ E) (hj : j ≤ E) (h1 : σ 71 i * σ 72 j < σ 71 j * σ 72 i → Q 1 σ) (h0 : σ 71 j * σ 72 i ≤ σ 71 i * σ 72 j → Q 0 σ) : wp (d + 1) m_M_isBelow [.inr (.inr 49), .inl (i : Int), .inl (j : Int)] σ Q := by
  have hE := P.1
  have b1 := P.2.1 i hi
  have b2 := P.2.1 j hj
  refine e_M_isBelow ?_
  rw [Int.toNat_natCast, Int.toNat_natCast, m396 ⟨b1.1, by omega⟩ ⟨by omega, b2.2.2.2⟩, m396 ⟨b2.1, by omega⟩ ⟨by omega, b1.2.2.2⟩]
  exact ⟨⟨by omega, by omega⟩, ⟨by omega, by omega⟩, ⟨by omega, by omega⟩, ⟨by omega, by omega⟩, h1, h0⟩
def HHf (σ σ1 : Mem) : Prop := ∀ k i, ¬ (k = 49 ∧ (i = 42 ∨ i = 43)) → σ1 k i = σ k i
theorem td_cross {x y g : Int} (hg : g ≠ 0) (h1 : g ∣ x) (h2 : g ∣ y) : x.tdiv g * y = x * y.tdiv g := by
  obtain ⟨p, rfl⟩ := h1
  obtain ⟨q, rfl⟩ := h2
  rw [Int.mul_tdiv_cancel_left _ hg, Int.mul_tdiv_cancel_left _ hg]
  grind
theorem sp_M_findHeight {d : Nat} {A σ : Mem} {Q : Int → Mem → Prop} {E l r m : Nat} (P : PT A (σ 71) (σ 72) (σ 75) E) (hl : l ≤ E) (hr : r ≤ E) (hm : m ≤ E) (hne : ¬ l = r) (hp : 0 < bB (σ 71) (σ 72) l r m) (hQ : ∀ σ1, HHf σ σ1 → (-12295628928 ≤ σ1 49 42 ∧ σ1 49 42 ≤ 12295628928) → (0 < σ1 49 43 ∧ σ1 49 43 ≤ 62099136) → σ1 49 42 * bB (σ 71) (σ 72) l r m = bA (σ 71) (σ 72) (σ 75) l r m * σ1 49 43 → Q 0 σ1) : wp (d + 2) m_M_findHeight [.inr (.inr 49), .inl (l : Int), .inl (r : Int), .inl (m : Int)] σ Q := by
  have hE := P.1
  have x1 := bA_bd P hl hr hm
  have x2 := bB_bd P hl hr hm
  refine e_M_findHeight ⟨fun h => by omega, fun h => ?_⟩
  simp (discharger := decide) only [ms_nk, ms_ni, ms_eq, Int.toNat_natCast]
  rw [od_w P hr hm, od_w P hm hl, od_w P hr hl, bA_w P hl hr hm, bB_w P hl hr hm]
  refine ⟨⟨by omega, by omega⟩, ⟨by omega, by omega⟩, ⟨by omega, by omega⟩, ⟨by omega, by omega⟩, ⟨by omega, by omega⟩, ⟨by omega, by omega⟩, ⟨by omega, by omega⟩, ⟨by omega, by omega⟩, ⟨by omega, by omega⟩, ⟨by omega, by omega⟩, ⟨by omega, by omega⟩, ⟨by omega, by omega⟩, ⟨by omega, by omega⟩, ⟨by omega, by omega⟩, ⟨by omega, by omega⟩, ?_⟩
  refine sp_M_dv ⟨by omega, by omega⟩ ⟨by omega, by omega⟩ ?_
  generalize hX1 : bA (σ 71) (σ 72) (σ 75) l r m = X at x1 hQ ⊢
  generalize hX2 : bB (σ 71) (σ 72) l r m = Y at x2 hp hQ ⊢
  have hg := gI_pos (a := X) (b := Y) hp
  have y1 := tdiv_bd (a := X) (g := gI X Y) (L := 12295628928) hg x1
  have y2 := tdiv_bd (a := Y) (g := gI X Y) (L := 62099136) hg x2
  have dl := gI_dl (a := X) (b := Y)
  have dr := gI_dr (a := X) (b := Y)
  have cr := td_cross (show gI X Y ≠ 0 by omega) dl dr
  have pos : 0 < Y.tdiv (gI X Y) := by
    obtain ⟨c, hc⟩ := dr
    have e : Y.tdiv (gI X Y) = c := by
      have := Int.mul_tdiv_cancel_left c (show gI X Y ≠ 0 by omega)
      rw [← hc] at this
      exact this
    rw [e]
    have s := mp_pos (s := gI X Y) (x := c) (by omega)
    rw [← hc] at s
    exact s.1.mp hp
  simp (discharger := decide) only [ms_nk, ms_ni, ms_eq]
  rw [w64_id (x := X.tdiv (gI X Y)) (by omega) (by omega), w64_id (x := Y.tdiv (gI X Y)) (by omega) (by omega)]
  refine ⟨by omega, by omega, hQ _ (fun k i hk => ?_) ?_ ?_ ?_⟩
  · rw [ms_ne (by omega), ms_ne (by omega), ms_ne (by omega), ms_ne (by omega)]
  · rw [ms_ni (by decide), ms_eq]; exact y1
  · rw [ms_eq]; exact ⟨pos, y2.2⟩
  · rw [ms_ni (by decide), ms_eq, ms_eq]; exact cr
theorem sp_M_findHeightK {d : Nat} {A σ : Mem} {Q : Int → Mem → Prop} {E l r : Nat} (P : PT A (σ 71) (σ 72) (σ 75) E) (s : adm (σ 71) (σ 72) E l r) (hQ : ∀ σ1, HHf σ σ1 → (-12295628928 ≤ σ1 49 42 ∧ σ1 49 42 ≤ 12295628928) → (0 < σ1 49 43 ∧ σ1 49 43 ≤ 62099136) → σ1 49 42 * kB (σ 71) (σ 72) E l r = kA (σ 71) (σ 72) (σ 75) E l r * σ1 49 43 → Q 0 σ1) : wp (d + 2) m_M_findHeight [.inr (.inr 49), .inl (l : Int), .inl (r : Int), .inl (E : Int)] σ Q := by
  have hE := P.1
  have kp := kB_pos P s
  by_cases hne : l = r
  · have b1 := P.2.1 l s.1
    have b2 := P.2.2.2.1 l s.1
    have s1 := s.1
    refine e_M_findHeight ⟨fun _ => ?_, fun h => by omega⟩
    rw [Int.toNat_natCast, ms_nk (by decide)]
    refine ⟨⟨by omega, by omega⟩, ⟨by omega, by omega⟩, hQ _ (fun k i hk => ?_) ?_ ?_ ?_⟩
    · rw [ms_ne (by omega), ms_ne (by omega)]
    · rw [ms_ni (by decide), ms_eq]; omega
    · rw [ms_eq]; omega
    · rw [ms_ni (by decide), ms_eq, ms_eq]
      unfold kA kB
      rw [if_pos hne, if_pos hne]
  · have e1 : kA (σ 71) (σ 72) (σ 75) E l r = bA (σ 71) (σ 72) (σ 75) l r E := if_neg hne
    have e2 : kB (σ 71) (σ 72) E l r = bB (σ 71) (σ 72) l r E := if_neg hne
    rw [e1, e2] at hQ
    rw [e2] at kp
    exact sp_M_findHeight P s.1 s.2.1 (Nat.le_refl E) hne kp hQ
def BMf (σ σ1 : Mem) : Prop := ∀ k i, ¬ (k = 49 ∧ 42 ≤ i ∧ i ≤ 47) → σ1 k i = σ k i
theorem BMf.arr {σ τ : Mem} (h : BMf σ τ) : τ 71 = σ 71 ∧ τ 72 = σ 72 ∧ τ 75 = σ 75 := ⟨funext (fun i => h 71 i (by omega)), funext (fun i => h 72 i (by omega)), funext (fun i => h 75 i (by omega))⟩
theorem BMf.eqv {A σ τ : Mem} (hE : Eqv A σ) (h : BMf σ τ) : Eqv A τ := fun k i hl => by
  have l := live_ok (l := [(49, 42), (49, 43), (49, 44), (49, 45), (49, 46), (49, 47)]) hl (by decide)
  simp only [List.mem_cons, List.not_mem_nil, or_false, forall_eq_or_imp, forall_eq] at l
  rw [h k i (by omega)]
  exact hE k i hl
def ST2 (σ τ : Mem) (E : Nat) (V : Nat → Nat → Prop) : Prop := BMf σ τ ∧ ((τ 49 44 = -1 ∧ ∀ l r, V l r → ¬ adm (σ 71) (σ 72) E l r) ∨ (∃ L R : Nat, τ 49 44 = (L : Int) ∧ τ 49 45 = (R : Int) ∧ (-12295628928 ≤ τ 49 46 ∧ τ 49 46 ≤ 12295628928) ∧ τ 49 47 ≤ 62099136 ∧ B2 (σ 71) (σ 72) (σ 75) E V L R (τ 49 46) (τ 49 47)))
theorem ST2.skip {σ τ : Mem} {E : Nat} {V W : Nat → Nat → Prop} (s : ST2 σ τ E V) (hW : ∀ l r, W l r → adm (σ 71) (σ 72) E l r → V l r) : ST2 σ τ E W := ⟨s.1, by
  rcases s.2 with z | ⟨L, R, e1, e2, e3, e4, e5⟩
  · exact Or.inl ⟨z.1, fun l r w t => z.2 l r (hW l r w t) t⟩
  · exact Or.inr ⟨L, R, e1, e2, e3, e4, e5.skip hW⟩⟩
theorem sp_M_isHigher {d : Nat} {A σ : Mem} {Q : Int → Mem → Prop} {E L R l r : Nat} (P : PT A (σ 71) (σ 72) (σ 75) E) (hl : l ≤ E) (hr : r ≤ E) (hL : L ≤ E) (hR : R ≤ E) (e1 : σ 49 44 = (L : Int)) (e2 : σ 49 45 = (R : Int)) (b1 : -12295628928 ≤ σ 49 46 ∧ σ 49 46 ≤ 12295628928) (b2 : 0 < σ 49 47 ∧ σ 49 47 ≤ 62099136) (b3 : -12295628928 ≤ σ 49 42 ∧ σ 49 42 ≤ 12295628928) (b4 : 0 < σ 49 43 ∧ σ 49 43 ≤ 62099136)
    (h1 : σ 49 46 * σ 49 43 < σ 49 42 * σ 49 47 ∨ (σ 49 42 * σ 49 47 = σ 49 46 * σ 49 43 ∧ (σ 71 L * σ 72 l < σ 71 l * σ 72 L ∨ (σ 71 L * σ 72 l = σ 71 l * σ 72 L ∧ σ 71 r * σ 72 R < σ 71 R * σ 72 r))) → Q 1 σ)
    (h0 : σ 49 42 * σ 49 47 < σ 49 46 * σ 49 43 ∨ (σ 49 42 * σ 49 47 = σ 49 46 * σ 49 43 ∧ (σ 71 l * σ 72 L < σ 71 L * σ 72 l ∨ (σ 71 l * σ 72 L = σ 71 L * σ 72 l ∧ σ 71 R * σ 72 r ≤ σ 71 r * σ 72 R))) → Q 0 σ) : wp (d + 2) m_M_isHigher [.inr (.inr 49), .inl (l : Int), .inl (r : Int)] σ Q := by
  have m1 := mul_bd (x := σ 49 42) (y := σ 49 47) (Y := 62099136) b3 ⟨by omega, by omega⟩
  have m2 := mul_bd (x := σ 49 46) (y := σ 49 43) (Y := 62099136) b1 ⟨by omega, by omega⟩
  refine e_M_isHigher ?_
  rw [w64_id (x := σ 49 42 * σ 49 47) (by omega) (by omega), w64_id (x := σ 49 46 * σ 49 43) (by omega) (by omega), e1]
  refine ⟨fun h => sp_M_isBelow P hL hl (fun z => ⟨fun h => absurd h (by decide), fun _ => h1 (Or.inr ⟨h, Or.inl z⟩)⟩) (fun z => ⟨fun _ => ?_, fun h => absurd rfl h⟩), fun h => ⟨fun z => h1 (Or.inl z), fun z => h0 (Or.inl (by omega))⟩⟩
  rw [e1]
  refine sp_M_isBelow P hl hL (fun y => ⟨fun h => absurd h (by decide), fun _ => h0 (Or.inr ⟨h, Or.inl y⟩)⟩) (fun y => ⟨fun _ => ?_, fun h => absurd rfl h⟩)
  rw [e2]
  exact sp_M_isBelow P hr hR (fun x => ⟨fun h => absurd h (by decide), fun _ => h1 (Or.inr ⟨h, Or.inr ⟨by omega, x⟩⟩)⟩) (fun x => ⟨fun _ => h0 (Or.inr ⟨h, Or.inr ⟨by omega, x⟩⟩), fun h => absurd rfl h⟩)
theorem sp_M_tryPair {d : Nat} {A σ τ : Mem} {Q : Int → Mem → Prop} {E l r : Nat} {V W : Nat → Nat → Prop} (P : PT A (σ 71) (σ 72) (σ 75) E) (s : ST2 σ τ E V) (t : adm (σ 71) (σ 72) E l r) (hW : ∀ l2 r2, W l2 r2 → V l2 r2 ∨ (l2 = l ∧ r2 = r)) (hQ : ∀ τ1, ST2 σ τ1 E W → K_M_findBest_171 (d + 2) Q (E : Int) (l : Int) (r : Int) τ1) : K_M_findBest_115 (d + 2) Q (E : Int) (l : Int) (r : Int) 1 τ := by
  have hE := P.1
  have ar := s.1.arr
  have P' : PT A (τ 71) (τ 72) (τ 75) E := by rw [ar.1, ar.2.1, ar.2.2]; exact P
  refine e_M_findBest_115 ⟨fun h => absurd h (by decide), fun _ => ?_⟩
  refine sp_M_findHeightK P' (by rw [ar.1, ar.2.1]; exact t) (fun s1 f1 c1 c2 c3 => ?_)
  rw [ar.1, ar.2.1, ar.2.2] at c3
  have F : BMf σ s1 := fun k i hk => by rw [f1 k i (by omega)]; exact s.1 k i hk
  have ar1 := F.arr
  have P1 : PT A (s1 71) (s1 72) (s1 75) E := by rw [ar1.1, ar1.2.1, ar1.2.2]; exact P
  have put : ∀ W2, B2 (σ 71) (σ 72) (σ 75) E W2 l r (s1 49 42) (s1 49 43) → ST2 σ (mset (mset (mset (mset s1 49 44 (l : Int)) 49 45 (r : Int)) 49 46 (s1 49 42)) 49 47 (s1 49 43)) E W2 := fun W2 hB => by
    refine ⟨fun k i hk => ?_, Or.inr ⟨l, r, ?_, ?_, ?_, ?_, ?_⟩⟩
    · rw [ms_ne (by omega), ms_ne (by omega), ms_ne (by omega), ms_ne (by omega)]; exact F k i hk
    · simp (discharger := decide) only [ms_ni, ms_eq]
    · simp (discharger := decide) only [ms_ni, ms_eq]
    · simp (discharger := decide) only [ms_ni, ms_eq]; exact c1
    · simp (discharger := decide) only [ms_eq]; exact c2.2
    · simp (discharger := decide) only [ms_ni, ms_eq]; exact hB
  have set : B2 (σ 71) (σ 72) (σ 75) E W l r (s1 49 42) (s1 49 43) → K_M_findBest_145 (d + 2) Q (E : Int) (l : Int) (r : Int) s1 := fun hB => by
    refine e_M_findBest_145 ?_
    simp (discharger := decide) only [ms_ni, ms_eq]
    exact hQ _ (put W hB)
  rcases s.2 with z | ⟨L, R, e1, e2, e3, e4, e5⟩
  · have q44 : s1 49 44 = -1 := by rw [f1 49 44 (by omega)]; exact z.1
    refine ⟨fun _ => set (B2.first (A := A) (fun l2 r2 w t2 => ?_) t c2.1 c3), fun h => by omega⟩
    rcases hW l2 r2 w with v | v
    · exact absurd t2 (z.2 l2 r2 v)
    · exact v
  · have q44 : s1 49 44 = (L : Int) := by rw [f1 49 44 (by omega)]; exact e1
    have q45 : s1 49 45 = (R : Int) := by rw [f1 49 45 (by omega)]; exact e2
    have q46 : s1 49 46 = τ 49 46 := f1 49 46 (by omega)
    have q47 : s1 49 47 = τ 49 47 := f1 49 47 (by omega)
    refine ⟨fun h => by omega, fun _ => ?_⟩
    refine sp_M_isHigher P1 t.1 t.2.1 e5.1.1 e5.1.2.1 q44 q45 (by rw [q46]; exact e3) (by rw [q47]; exact ⟨e5.2.1, e4⟩) c1 c2 (fun h => ⟨fun h => absurd h (by decide), fun _ => set ?_⟩) (fun h => ⟨fun _ => hQ s1 ⟨F, Or.inr ⟨L, R, q44, q45, by rw [q46]; exact e3, by rw [q47]; exact e4, ?_⟩⟩, fun h => absurd rfl h⟩)
    · rw [q46, q47, ar1.1, ar1.2.1] at h
      exact e5.high P hW t c2.1 c3 h
    · rw [q46, q47, ar1.1, ar1.2.1] at h
      rw [q46, q47]
      exact e5.low P hW t c2.1 c3 h
def BF2 (σ σ1 : Mem) : Prop := ∀ k i, ¬ (k = 49 ∧ (i = 35 ∨ i = 38 ∨ (42 ≤ i ∧ i ≤ 47))) → k ≠ 67 → ¬ (71 ≤ k ∧ k ≤ 75) → σ1 k i = σ k i
theorem BF2.eqv {A σ τ : Mem} (hE : Eqv A σ) (h : BF2 σ τ) : Eqv A τ := fun k i hl => by
  have l := live_ok (l := [(49, 35), (49, 38), (49, 42), (49, 43), (49, 44), (49, 45), (49, 46), (49, 47)]) hl (by decide)
  simp only [List.mem_cons, List.not_mem_nil, or_false, forall_eq_or_imp, forall_eq] at l
  have n1 := live_x (o := 71) hl rfl
  have n2 := live_x (o := 72) hl rfl
  have n3 := live_x (o := 73) hl rfl
  have n4 := live_x (o := 74) hl rfl
  have n5 := live_x (o := 75) hl rfl
  rw [h k i (by omega) (live_x (o := 67) hl rfl) (by omega)]
  exact hE k i hl
theorem sp_M_findBest {d : Nat} {A σ : Mem} {Q : Int → Mem → Prop} (hR : SR 7 (mLive A) A) (h2 : A 7 1 = 2) (ho : 1 ≤ A 7 2) (hE : Eqv A σ) (hQ : ∀ σ1 (E L R : Nat), BF2 σ σ1 → σ1 49 35 = (E : Int) → E ≤ 17 → SV A (σ1 71) (σ1 72) (σ1 75) E → PT A (σ1 71) (σ1 72) (σ1 75) E → σ1 49 44 = (L : Int) → σ1 49 45 = (R : Int) → (-12295628928 ≤ σ1 49 46 ∧ σ1 49 46 ≤ 12295628928) → σ1 49 47 ≤ 62099136 → B2 (σ1 71) (σ1 72) (σ1 75) E (fun _ _ => True) L R (σ1 49 46) (σ1 49 47) → Q 0 σ1) : wp (d + 6) m_M_findBest [.inr (.inr 49)] σ Q := by
  have bf := hR.bef h2
  refine e_M_findBest (sp_M_findEdges hR h2 ho hE (fun σ0 E f0 c0 hE17 hS p1 p2 => ?_))
  have E0 := EF.eqv hE f0
  have bd : ∀ i, i ≤ E → 0 ≤ σ0 71 i ∧ σ0 71 i ≤ σ0 72 i ∧ σ0 72 i ≤ 396 := fun i hi => by
    by_cases z : i = E
    · subst z; rw [p1, p2]; omega
    · have := hS.2.2.2.1 i (by omega); omega
  refine upto (n := E + 1) (P := fun i => ∀ τ, (∀ k j, k ≠ 67 → k ≠ 75 → τ k j = σ0 k j) → (∀ j, j < i → τ 75 j = hX A (σ0 71 j) (σ0 72 j)) → K_M_findBest_6 (d + 5) Q ((i : Nat) : Int) τ) (fun τ F hv => ?_) (fun i hi ih τ F hv => ?_) σ0 (fun _ _ _ _ => rfl) (fun j hj => absurd hj (by omega))
  · have e35 : τ 49 35 = (E : Int) := by rw [F 49 35 (by decide) (by decide)]; exact c0
    have t71 : τ 71 = σ0 71 := funext (fun i => F 71 i (by decide) (by decide))
    have t72 : τ 72 = σ0 72 := funext (fun i => F 72 i (by decide) (by decide))
    have sv : SV A (τ 71) (τ 72) (τ 75) E := by
      rw [t71, t72]
      exact ⟨hS, ⟨p1, p2⟩, fun i hi => hv i (by omega)⟩
    have P := sv.pt hR h2 ho (by omega)
    refine e_M_findBest_6 ⟨fun _ => ?_, fun h => by omega⟩
    rw [e35]
    have main : ∀ m l : Nat, l + m = E + 1 → ∀ υ, ST2 τ υ E (fun l2 _ => l2 < l) → K_M_findBest_43 (d + 5) Q (E : Int) ((l : Nat) : Int) υ := by
      intro m
      induction m with
      | zero =>
        intro l hl υ s
        have u35 : υ 49 35 = (E : Int) := by rw [s.1 49 35 (by omega)]; exact e35
        refine e_M_findBest_43 ⟨fun _ => ?_, fun h => by omega⟩
        have s' : ST2 τ υ E (fun _ _ => True) := s.skip (fun l2 r2 _ t => by have := t.1; omega)
        have ar := s'.1.arr
        rcases s'.2 with z | ⟨L, R, e1, e2, e3, e4, e5⟩
        · exact absurd ⟨Nat.le_refl E, Nat.le_refl E, Or.inl ⟨rfl, rfl⟩⟩ (z.2 E E trivial)
        · refine hQ υ E L R (fun k i h1 h3 h4 => ?_) u35 hE17 (by rw [ar.1, ar.2.1, ar.2.2]; exact sv) (by rw [ar.1, ar.2.1, ar.2.2]; exact P) e1 e2 e3 e4 (by rw [ar.1, ar.2.1, ar.2.2]; exact e5)
          rw [s'.1 k i (by omega), F k i h3 (by omega), f0 k i (by omega) h3 (by omega)]
      | succ m ih =>
        intro l hl υ s
        have u35 : υ 49 35 = (E : Int) := by rw [s.1 49 35 (by omega)]; exact e35
        have el : w32 ((l : Int) + 1) = ((l + 1 : Nat) : Int) := w32_eq (by omega) (by omega)
        refine e_M_findBest_43 ⟨fun h => by omega, fun _ => ?_⟩
        refine upto (n := E + 1) (P := fun r => ∀ υ, ST2 τ υ E (fun l2 r2 => l2 < l ∨ (l2 = l ∧ r2 < r)) → K_M_findBest_53 (d + 5) Q (E : Int) (l : Int) ((r : Nat) : Int) υ) (fun υ s => ?_) (fun r hr ih2 υ s => ?_) υ (s.skip (fun l2 r2 h _ => by omega))
        · have v35 : υ 49 35 = (E : Int) := by rw [s.1 49 35 (by omega)]; exact e35
          refine e_M_findBest_53 ⟨fun _ => ?_, fun h => by omega⟩
          rw [el]
          exact ih (l + 1) (by omega) υ (s.skip (fun l2 r2 h t => by have := t.2.1; omega))
        · have v35 : υ 49 35 = (E : Int) := by rw [s.1 49 35 (by omega)]; exact e35
          have er : w32 ((r : Int) + 1) = ((r + 1 : Nat) : Int) := w32_eq (by omega) (by omega)
          have ar := s.1.arr
          have P' : PT A (υ 71) (υ 72) (υ 75) E := by rw [ar.1, ar.2.1, ar.2.2]; exact P
          have yes : adm (τ 71) (τ 72) E l r → K_M_findBest_110 (d + 5) Q (E : Int) (l : Int) (r : Int) υ := fun t => e_M_findBest_110 (sp_M_tryPair (d := d + 3) P s t (W := fun l2 r2 => l2 < l ∨ (l2 = l ∧ r2 < r + 1)) (fun l2 r2 h => by omega) (fun τ1 s1 => e_M_findBest_171 (by rw [er]; exact ih2 τ1 s1)))
          have no : ¬ adm (τ 71) (τ 72) E l r → K_M_findBest_114 (d + 5) Q (E : Int) (l : Int) (r : Int) υ := fun t => e_M_findBest_114 (e_M_findBest_115 ⟨fun _ => e_M_findBest_171 (by
            rw [er]
            refine ih2 υ (s.skip (fun l2 r2 h t2 => ?_))
            by_cases z : l2 = l ∧ r2 = r
            · obtain ⟨rfl, rfl⟩ := z; exact absurd t2 t
            · omega), fun h => absurd rfl h⟩)
          have test : ¬ (l = E ∧ r = E) → K_M_findBest_75 (d + 5) Q (E : Int) (l : Int) (r : Int) υ := fun hn => by
            refine e_M_findBest_75 (e_M_findBest_76 ⟨fun _ => ?_, fun h => absurd rfl h⟩)
            refine sp_M_isBelow P' (Nat.le_refl E) (by omega) (fun z => ⟨fun h => absurd h (by decide), fun _ => no (fun t => ?_)⟩) (fun z => ⟨fun _ => sp_M_isBelow P' (by omega) (Nat.le_refl E) (fun y => ⟨fun h => absurd h (by decide), fun _ => no (fun t => ?_)⟩) (fun y => ⟨fun _ => sp_M_isBelow P' (by omega) (by omega) (fun x => ⟨fun h => absurd h (by decide), fun _ => yes ?_⟩) (fun x => ⟨fun _ => no (fun t => ?_), fun h => absurd rfl h⟩), fun h => absurd rfl h⟩), fun h => absurd rfl h⟩)
            · rw [ar.1, ar.2.1] at z
              rcases t.2.2 with w | w <;> omega
            · rw [ar.1, ar.2.1] at y
              rcases t.2.2 with w | w <;> omega
            · rw [ar.1, ar.2.1] at z y x
              exact ⟨by omega, by omega, Or.inr ⟨z, y, x⟩⟩
            · rw [ar.1, ar.2.1] at x
              rcases t.2.2 with w | w <;> omega
          refine e_M_findBest_53 ⟨fun h => by omega, fun _ => ⟨fun h1 => ⟨fun h3 => ?_, fun h3 => test (fun z => by omega)⟩, fun h1 => test (fun z => by omega)⟩⟩
          exact e_M_findBest_76 ⟨fun h => absurd h (by decide), fun _ => yes ⟨by omega, by omega, Or.inl ⟨by omega, by omega⟩⟩⟩
    exact main (E + 1) 0 (by omega) _ ⟨fun k i hk => by rw [ms_ne (by omega)], Or.inl ⟨ms_eq, fun l r h => absurd h (by omega)⟩⟩
  · have e35 : τ 49 35 = (E : Int) := by rw [F 49 35 (by decide) (by decide)]; exact c0
    have ei : w32 ((i : Int) + 1) = ((i + 1 : Nat) : Int) := w32_eq (by omega) (by omega)
    have EE : Eqv A τ := fun k j hl => by
      rw [F k j (live_x (o := 67) hl rfl) (live_x (o := 75) hl rfl)]
      exact E0 k j hl
    have t71 : τ 71 i = σ0 71 i := F 71 i (by decide) (by decide)
    have t72 : τ 72 i = σ0 72 i := F 72 i (by decide) (by decide)
    refine e_M_findBest_6 ⟨fun h => by omega, fun _ => ?_⟩
    refine sp_M_valueOf (d := d + 1) hR h2 ho EE (by omega) (by rw [t71, t72]; exact bd i (by omega)) (fun s fs => ⟨⟨by omega, by omega⟩, ?_⟩)
    rw [ei, Int.toNat_natCast, t71, t72]
    refine ih _ (fun k j h1 h3 => by rw [ms_nk h3, fs k j h1]; exact F k j h1 h3) (fun j hj => ?_)
    by_cases z : j = i
    · subst z; exact ms_eq
    · rw [ms_ni z, fs 75 j (by decide)]; exact hv j (by omega)
