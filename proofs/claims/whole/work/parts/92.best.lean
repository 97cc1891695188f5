-- PURE: the best of two truths
def od (a b : Nat → Int) (i j : Nat) : Int := a i * b j - a j * b i
def bA (a b h : Nat → Int) (l r m : Nat) : Int := h l * od a b r m + h r * od a b m l
def bB (a b : Nat → Int) (l r m : Nat) : Int := b m * od a b r l
def kA (a b h : Nat → Int) (E l r : Nat) : Int := if l = r then h l else bA a b h l r E
def kB (a b : Nat → Int) (E l r : Nat) : Int := if l = r then b l else bB a b l r E
def PT (A : Mem) (a b h : Nat → Int) (E : Nat) : Prop := (2 ≤ E ∧ E ≤ 32) ∧ (∀ i, i ≤ E → 0 ≤ a i ∧ a i ≤ b i ∧ 1 ≤ b i ∧ b i ≤ 396) ∧ (∀ i, i ≤ E → h i = hX A (a i) (b i)) ∧ (∀ i, i ≤ E → -39204 ≤ h i ∧ h i ≤ 39204) ∧ (∀ i j, i < j → j < E → a i * b j < a j * b i) ∧ 0 < a E ∧ a E < b E
theorem SV.pt {A : Mem} (hR : SR 7 (mLive A) A) (h2 : A 7 1 = 2) (ho : 1 ≤ A 7 2) {a b h : Nat → Int} {E : Nat} (s : SV A a b h E) (hE : E ≤ 32) : PT A a b h E := by
  have bf := hR.bef h2
  have bd : ∀ i, i ≤ E → 0 ≤ a i ∧ a i ≤ b i ∧ 1 ≤ b i ∧ b i ≤ 396 := fun i hi => by
    by_cases z : i = E
    · subst z; rw [s.2.1.1, s.2.1.2]; omega
    · exact s.1.2.2.2.1 i (by omega)
  refine ⟨⟨s.1.1, hE⟩, bd, s.2.2, fun i hi => ?_, s.1.2.2.2.2.1, by rw [s.2.1.1]; omega, by rw [s.2.1.1, s.2.1.2]; omega⟩
  have b1 := bd i hi
  have := hX_bd hR h2 ho (p := a i) (q := b i) ⟨b1.1, b1.2.1⟩
  rw [s.2.2 i hi]
  omega
theorem od_bd {A : Mem} {a b h : Nat → Int} {E i j : Nat} (P : PT A a b h E) (hi : i ≤ E) (hj : j ≤ E) : -156816 ≤ od a b i j ∧ od a b i j ≤ 156816 := by
  have b1 := P.2.1 i hi
  have b2 := P.2.1 j hj
  have m1 := mul_bd (x := a i) (y := b j) (X := 396) (Y := 396) ⟨by omega, by omega⟩ ⟨by omega, by omega⟩
  have m2 := mul_bd (x := a j) (y := b i) (X := 396) (Y := 396) ⟨by omega, by omega⟩ ⟨by omega, by omega⟩
  have p1 := Int.mul_nonneg b1.1 (show 0 ≤ b j by omega)
  have p2 := Int.mul_nonneg b2.1 (show 0 ≤ b i by omega)
  unfold od
  omega
theorem bA_bd {A : Mem} {a b h : Nat → Int} {E l r m : Nat} (P : PT A a b h E) (hl : l ≤ E) (hr : r ≤ E) (hm : m ≤ E) : -12295628928 ≤ bA a b h l r m ∧ bA a b h l r m ≤ 12295628928 := by
  have m1 := mul_bd (P.2.2.2.1 l hl) (od_bd P hr hm)
  have m2 := mul_bd (P.2.2.2.1 r hr) (od_bd P hm hl)
  unfold bA
  omega
theorem bB_bd {A : Mem} {a b h : Nat → Int} {E l r m : Nat} (P : PT A a b h E) (hl : l ≤ E) (hr : r ≤ E) (hm : m ≤ E) : -62099136 ≤ bB a b l r m ∧ bB a b l r m ≤ 62099136 := by
  have b1 := P.2.1 m hm
  have m1 := mul_bd (x := b m) (X := 396) ⟨by omega, by omega⟩ (od_bd P hr hl)
  unfold bB
  omega
def adm (a b : Nat → Int) (E l r : Nat) : Prop := l ≤ E ∧ r ≤ E ∧ ((l = E ∧ r = E) ∨ (a l * b E ≤ a E * b l ∧ a E * b r ≤ a r * b E ∧ a l * b r < a r * b l))
def stt (a b : Nat → Int) (E l r : Nat) : Prop := l < E ∧ r < E ∧ a l * b E < a E * b l ∧ a E * b r < a r * b E
theorem stt.adm {A : Mem} {a b h : Nat → Int} {E l r : Nat} (P : PT A a b h E) (s : stt a b E l r) : adm a b E l r ∧ ¬ l = r := by
  obtain ⟨s1, s2, s3, s4⟩ := s
  have bl := P.2.1 l (by omega)
  have br := P.2.1 r (by omega)
  have be := P.2.1 E (Nat.le_refl E)
  have s5 : a l * b r < a r * b l := fr_le_lt (by omega) (by omega) (by omega) (Int.le_of_lt s3) s4
  refine ⟨⟨by omega, by omega, Or.inr ⟨Int.le_of_lt s3, Int.le_of_lt s4, s5⟩⟩, fun z => ?_⟩
  subst z
  omega
theorem kB_pos {A : Mem} {a b h : Nat → Int} {E l r : Nat} (P : PT A a b h E) (s : adm a b E l r) : 0 < kB a b E l r := by
  have be := P.2.1 E (Nat.le_refl E)
  unfold kB
  split
  · have := P.2.1 l s.1; omega
  · rcases s.2.2 with z | z
    · omega
    · exact Int.mul_pos (by omega) (by unfold od; omega)
theorem k_bd {A : Mem} {a b h : Nat → Int} {E l r : Nat} (P : PT A a b h E) (s : adm a b E l r) : (-12295628928 ≤ kA a b h E l r ∧ kA a b h E l r ≤ 12295628928) ∧ kB a b E l r ≤ 62099136 := by
  have x1 := bA_bd P s.1 s.2.1 (Nat.le_refl E)
  have x2 := bB_bd P s.1 s.2.1 (Nat.le_refl E)
  have x3 := P.2.2.2.1 l s.1
  have x4 := P.2.1 l s.1
  unfold kA kB
  split <;> omega
theorem k_stt {A : Mem} {a b h : Nat → Int} {E l r : Nat} (P : PT A a b h E) (s : stt a b E l r) : kA a b h E l r = bA a b h l r E ∧ kB a b E l r = bB a b l r E := ⟨if_neg (s.adm P).2, if_neg (s.adm P).2⟩
theorem PT.he {A : Mem} (h2 : A 7 1 = 2) {a b h : Nat → Int} {E i j : Nat} (P : PT A a b h E) (hi : i ≤ E) (hj : j ≤ E) (e : a i * b j = a j * b i) : h i * b j = h j * b i := by
  have b1 := P.2.1 i hi
  have b2 := P.2.1 j hj
  rw [P.2.2.1 i hi, P.2.2.1 j hj]
  exact hX_eq h2 (by omega) (by omega) e
theorem k_ns {A : Mem} (h2 : A 7 1 = 2) {a b h : Nat → Int} {E l r : Nat} (P : PT A a b h E) (s : adm a b E l r) (n : ¬ stt a b E l r) : kA a b h E l r * b E = h E * kB a b E l r := by
  obtain ⟨s1, s2, s3⟩ := s
  have bl := P.2.1 l s1
  have br := P.2.1 r s2
  have be := P.2.1 E (Nat.le_refl E)
  rcases s3 with ⟨rfl, rfl⟩ | ⟨s3, s4, s5⟩
  · unfold kA kB; rw [if_pos rfl, if_pos rfl]
  · have hne : ¬ l = r := fun z => by subst z; omega
    unfold kA kB
    rw [if_neg hne, if_neg hne]
    have hz : a l * b E = a E * b l ∨ a r * b E = a E * b r := by
      by_cases zl : l = E
      · subst zl; exact Or.inl rfl
      · by_cases zr : r = E
        · subst zr; exact Or.inr rfl
        · have n2 : ¬ (a l * b E < a E * b l ∧ a E * b r < a r * b E) := fun z => n ⟨by omega, by omega, z.1, z.2⟩
          omega
    unfold bA bB od
    rcases hz with z | z
    · have hh := P.he h2 s1 (Nat.le_refl E) z
      have e0 : a E * b l - a l * b E = 0 := by omega
      rw [e0, Int.mul_zero, Int.add_zero]
      have e1 : h l * (a r * b E - a E * b r) * b E = (h l * b E) * (a r * b E - a E * b r) := by grind
      rw [e1, hh]
      have e2 : h E * b l * (a r * b E - a E * b r) = h E * (a r * b l * b E - (a E * b l) * b r) := by grind
      rw [e2, ← z]
      grind
    · have hh := P.he h2 s2 (Nat.le_refl E) z
      have e0 : a r * b E - a E * b r = 0 := by omega
      rw [e0, Int.mul_zero, Int.zero_add]
      have e1 : h r * (a E * b l - a l * b E) * b E = (h r * b E) * (a E * b l - a l * b E) := by grind
      rw [e1, hh]
      have e2 : h E * b r * (a E * b l - a l * b E) = h E * ((a E * b r) * b l - a l * b r * b E) := by grind
      rw [e2, ← z]
      grind
def B1 (a b h : Nat → Int) (E : Nat) (V : Nat → Nat → Prop) (L R : Nat) (T1 T2 : Int) : Prop :=
  (L = E ∧ R = E ∧ T1 = h E ∧ T2 = b E ∧ ∀ l r, V l r → stt a b E l r → bA a b h l r E * T2 ≤ T1 * bB a b l r E) ∨
  (stt a b E L R ∧ V L R ∧ T1 = bA a b h L R E ∧ T2 = bB a b L R E ∧ h E * T2 < T1 * b E ∧ ∀ l r, V l r → stt a b E l r → bA a b h l r E * T2 < T1 * bB a b l r E ∨ (bA a b h l r E * T2 = T1 * bB a b l r E ∧ (l < L ∨ (l = L ∧ R ≤ r))))
theorem B1.bd {A : Mem} {a b h : Nat → Int} {E L R : Nat} {V : Nat → Nat → Prop} {T1 T2 : Int} (P : PT A a b h E) (s : B1 a b h E V L R T1 T2) : (L ≤ E ∧ R ≤ E) ∧ (-12295628928 ≤ T1 ∧ T1 ≤ 12295628928) ∧ 0 < T2 ∧ T2 ≤ 62099136 := by
  rcases s with ⟨z1, z2, z3, z4, _⟩ | ⟨z1, _, z3, z4, _⟩
  · have x3 := P.2.2.2.1 E (Nat.le_refl E)
    have x4 := P.2.1 E (Nat.le_refl E)
    omega
  · have q := z1.adm P
    have x1 := kB_pos P q.1
    have x2 := k_bd P q.1
    rw [(k_stt P z1).1, (k_stt P z1).2] at x2
    rw [(k_stt P z1).2] at x1
    have y1 := z1.1
    have y2 := z1.2.1
    omega
theorem B1.skip {a b h : Nat → Int} {E L R : Nat} {V W : Nat → Nat → Prop} {T1 T2 : Int} (s : B1 a b h E V L R T1 T2) (hV : ∀ l r, V l r → W l r) (hW : ∀ l r, W l r → stt a b E l r → V l r) : B1 a b h E W L R T1 T2 := by
  rcases s with ⟨z1, z2, z3, z4, z5⟩ | ⟨z1, z2, z3, z4, z5, z6⟩
  · exact Or.inl ⟨z1, z2, z3, z4, fun l r w t => z5 l r (hW l r w t) t⟩
  · exact Or.inr ⟨z1, hV L R z2, z3, z4, z5, fun l r w t => z6 l r (hW l r w t) t⟩
theorem B1.low {a b h : Nat → Int} {E L R l r : Nat} {V W : Nat → Nat → Prop} {T1 T2 : Int} (s : B1 a b h E V L R T1 T2) (hV : ∀ l r, V l r → W l r) (hW : ∀ l2 r2, W l2 r2 → V l2 r2 ∨ (l2 = l ∧ r2 = r)) (hp : V L R → l < L ∨ (l = L ∧ R < r)) (hk : bA a b h l r E * T2 ≤ T1 * bB a b l r E) : B1 a b h E W L R T1 T2 := by
  rcases s with ⟨z1, z2, z3, z4, z5⟩ | ⟨z1, z2, z3, z4, z5, z6⟩
  · refine Or.inl ⟨z1, z2, z3, z4, fun l2 r2 w t => ?_⟩
    rcases hW l2 r2 w with v | ⟨rfl, rfl⟩
    · exact z5 l2 r2 v t
    · exact hk
  · refine Or.inr ⟨z1, hV L R z2, z3, z4, z5, fun l2 r2 w t => ?_⟩
    rcases hW l2 r2 w with v | ⟨rfl, rfl⟩
    · exact z6 l2 r2 v t
    · have := hp z2
      rcases Int.lt_or_eq_of_le hk with k | k
      · exact Or.inl k
      · exact Or.inr ⟨k, by omega⟩
theorem B1.high {A : Mem} {a b h : Nat → Int} {E L R l r : Nat} {V W : Nat → Nat → Prop} {T1 T2 : Int} (P : PT A a b h E) (s : B1 a b h E V L R T1 T2) (hw : W l r) (hW : ∀ l2 r2, W l2 r2 → V l2 r2 ∨ (l2 = l ∧ r2 = r)) (ht : stt a b E l r) (hk : T1 * bB a b l r E < bA a b h l r E * T2) : B1 a b h E W l r (bA a b h l r E) (bB a b l r E) := by
  have q := ht.adm P
  have x1 := kB_pos P q.1
  rw [(k_stt P ht).2] at x1
  have bd := s.bd P
  have be := P.2.1 E (Nat.le_refl E)
  refine Or.inr ⟨ht, hw, rfl, rfl, ?_, fun l2 r2 w t => ?_⟩
  · rcases s with ⟨z1, z2, z3, z4, z5⟩ | ⟨z1, z2, z3, z4, z5, z6⟩
    · rw [z3, z4] at hk; exact hk
    · exact fr_le_lt (by omega) bd.2.2.1 x1 (Int.le_of_lt z5) hk
  · rcases hW l2 r2 w with v | ⟨rfl, rfl⟩
    · refine Or.inl ?_
      have q2 := t.adm P
      have x2 := kB_pos P q2.1
      rw [(k_stt P t).2] at x2
      have le : bA a b h l2 r2 E * T2 ≤ T1 * bB a b l2 r2 E := by
        rcases s with ⟨z1, z2, z3, z4, z5⟩ | ⟨z1, z2, z3, z4, z5, z6⟩
        · exact z5 l2 r2 v t
        · have := z6 l2 r2 v t; omega
      exact fr_le_lt x2 bd.2.2.1 x1 le hk
    · exact Or.inr ⟨rfl, by omega⟩
def B2 (a b h : Nat → Int) (E : Nat) (V : Nat → Nat → Prop) (L R : Nat) (T1 T2 : Int) : Prop :=
  adm a b E L R ∧ 0 < T2 ∧ T1 * kB a b E L R = kA a b h E L R * T2 ∧ ∀ l r, V l r → adm a b E l r → kA a b h E l r * T2 < T1 * kB a b E l r ∨ (kA a b h E l r * T2 = T1 * kB a b E l r ∧ (a l * b L < a L * b l ∨ (a l * b L = a L * b l ∧ a R * b r ≤ a r * b R)))
theorem B2.first {A : Mem} {a b h : Nat → Int} {E l r : Nat} {W : Nat → Nat → Prop} {T1 T2 : Int} (hW : ∀ l2 r2, W l2 r2 → adm a b E l2 r2 → (l2 = l ∧ r2 = r)) (ht : adm a b E l r) (h2 : 0 < T2) (hk : T1 * kB a b E l r = kA a b h E l r * T2) : B2 a b h E W l r T1 T2 := by
  refine ⟨ht, h2, hk, fun l2 r2 w t => ?_⟩
  obtain ⟨rfl, rfl⟩ := hW l2 r2 w t
  exact Or.inr ⟨hk.symm, Or.inr ⟨rfl, Int.le_refl _⟩⟩
theorem B2.skip {a b h : Nat → Int} {E L R : Nat} {V W : Nat → Nat → Prop} {T1 T2 : Int} (s : B2 a b h E V L R T1 T2) (hW : ∀ l r, W l r → adm a b E l r → V l r) : B2 a b h E W L R T1 T2 := ⟨s.1, s.2.1, s.2.2.1, fun l r w t => s.2.2.2 l r (hW l r w t) t⟩
theorem B2.low {A : Mem} {a b h : Nat → Int} {E L R l r : Nat} {V W : Nat → Nat → Prop} {T1 T2 H1 H2 : Int} (P : PT A a b h E) (s : B2 a b h E V L R T1 T2) (hW : ∀ l2 r2, W l2 r2 → V l2 r2 ∨ (l2 = l ∧ r2 = r)) (ht : adm a b E l r) (p2 : 0 < H2) (hk : H1 * kB a b E l r = kA a b h E l r * H2) (hl : H1 * T2 < T1 * H2 ∨ (H1 * T2 = T1 * H2 ∧ (a l * b L < a L * b l ∨ (a l * b L = a L * b l ∧ a R * b r ≤ a r * b R)))) : B2 a b h E W L R T1 T2 := by
  obtain ⟨s1, s2, s3, s4⟩ := s
  refine ⟨s1, s2, s3, fun l2 r2 w t => ?_⟩
  rcases hW l2 r2 w with v | ⟨rfl, rfl⟩
  · exact s4 l2 r2 v t
  · have x1 := kB_pos P ht
    rcases hl with z | ⟨z, y⟩
    · exact Or.inl (fr_le_lt x1 p2 s2 (Int.le_of_eq hk.symm) z)
    · exact Or.inr ⟨fr_eq_eq x1 p2 s2 hk.symm z, y⟩
theorem B2.high {A : Mem} {a b h : Nat → Int} {E L R l r : Nat} {V W : Nat → Nat → Prop} {T1 T2 H1 H2 : Int} (P : PT A a b h E) (s : B2 a b h E V L R T1 T2) (hW : ∀ l2 r2, W l2 r2 → V l2 r2 ∨ (l2 = l ∧ r2 = r)) (ht : adm a b E l r) (p2 : 0 < H2) (hk : H1 * kB a b E l r = kA a b h E l r * H2) (hl : T1 * H2 < H1 * T2 ∨ (H1 * T2 = T1 * H2 ∧ (a L * b l < a l * b L ∨ (a L * b l = a l * b L ∧ a r * b R < a R * b r)))) : B2 a b h E W l r H1 H2 := by
  obtain ⟨s1, s2, s3, s4⟩ := s
  have bl := P.2.1 l ht.1
  have br := P.2.1 r ht.2.1
  have bL := P.2.1 L s1.1
  have bR := P.2.1 R s1.2.1
  refine ⟨ht, p2, hk, fun l2 r2 w t => ?_⟩
  rcases hW l2 r2 w with v | ⟨rfl, rfl⟩
  · have x2 := kB_pos P t
    have bl2 := P.2.1 l2 t.1
    have br2 := P.2.1 r2 t.2.1
    have s5 := s4 l2 r2 v t
    rcases hl with z | ⟨z, y⟩
    · refine Or.inl (fr_le_lt x2 s2 p2 ?_ z)
      omega
    · rcases s5 with s5 | ⟨s5, s6⟩
      · exact Or.inl (fr_lt_le x2 s2 p2 s5 (Int.le_of_eq z.symm))
      · refine Or.inr ⟨fr_eq_eq x2 s2 p2 s5 z.symm, ?_⟩
        rcases y with y | ⟨y1, y2⟩
        · refine Or.inl (fr_le_lt (c := a L) (d := b L) (by omega) (by omega) (by omega) ?_ y)
          omega
        · rcases s6 with s6 | ⟨s6, s7⟩
          · exact Or.inl (fr_lt_le (c := a L) (d := b L) (by omega) (by omega) (by omega) s6 (Int.le_of_eq y1))
          · refine Or.inr ⟨fr_eq_eq (c := a L) (d := b L) (by omega) (by omega) (by omega) s6 y1, ?_⟩
            exact Int.le_of_lt (fr_lt_le (c := a R) (d := b R) (by omega) (by omega) (by omega) y2 s7)
  · exact Or.inr ⟨hk.symm, Or.inr ⟨rfl, Int.le_refl _⟩⟩
def SCL (a b h a2 b2 h2 : Nat → Int) (E : Nat) : Prop := ∀ i, i ≤ E → a i * b2 i = a2 i * b i ∧ h i * b2 i = h2 i * b i
theorem od_sc {a b h a2 b2 h2 : Nat → Int} {E i j : Nat} (s : SCL a b h a2 b2 h2 E) (hi : i ≤ E) (hj : j ≤ E) : od a b i j * (b2 i * b2 j) = od a2 b2 i j * (b i * b j) := by
  have x := (s i hi).1
  have y := (s j hj).1
  unfold od
  have e1 : (a i * b j - a j * b i) * (b2 i * b2 j) = (a i * b2 i) * (b j * b2 j) - (a j * b2 j) * (b i * b2 i) := by grind
  rw [e1, x, y]
  grind
theorem bA_sc {a b h a2 b2 h2 : Nat → Int} {E l r m : Nat} (s : SCL a b h a2 b2 h2 E) (hl : l ≤ E) (hr : r ≤ E) (hm : m ≤ E) : bA a b h l r m * (b2 l * b2 r * b2 m) = bA a2 b2 h2 l r m * (b l * b r * b m) := by
  have x := (s l hl).2
  have y := (s r hr).2
  have o1 := od_sc s hr hm
  have o2 := od_sc s hm hl
  unfold bA
  have e1 : (h l * od a b r m + h r * od a b m l) * (b2 l * b2 r * b2 m) = (h l * b2 l) * (od a b r m * (b2 r * b2 m)) + (h r * b2 r) * (od a b m l * (b2 m * b2 l)) := by grind
  rw [e1, x, y, o1, o2]
  grind
theorem bB_sc {a b h a2 b2 h2 : Nat → Int} {E l r m : Nat} (s : SCL a b h a2 b2 h2 E) (hl : l ≤ E) (hr : r ≤ E) : bB a b l r m * (b2 l * b2 r * b2 m) = bB a2 b2 l r m * (b l * b r * b m) := by
  have o1 := od_sc s hr hl
  unfold bB
  have e1 : b m * od a b r l * (b2 l * b2 r * b2 m) = b m * b2 m * (od a b r l * (b2 r * b2 l)) := by grind
  rw [e1, o1]
  grind
theorem cr_eq {X Y X2 Y2 s s2 : Int} (hs : 0 < s) (hs2 : 0 < s2) (h1 : X * s2 = X2 * s) (h2 : Y * s2 = Y2 * s) : X * Y2 = X2 * Y := by
  have hp := Int.mul_pos hs hs2
  refine Int.eq_of_mul_eq_mul_right (show s * s2 ≠ 0 by omega) ?_
  have e1 : X * Y2 * (s * s2) = (X * s2) * (Y2 * s) := by grind
  have e2 : X2 * Y * (s * s2) = (X2 * s) * (Y * s2) := by grind
  rw [e1, e2, h1, h2]
theorem pos3 {x y z : Int} (hx : 0 < x) (hy : 0 < y) (hz : 0 < z) : 0 < x * y * z := Int.mul_pos (Int.mul_pos hx hy) hz
theorem k_sc {A : Mem} {a b h a2 b2 h2 : Nat → Int} {E l r : Nat} (P : PT A a b h E) (P2 : PT A a2 b2 h2 E) (s : SCL a b h a2 b2 h2 E) (hl : l ≤ E) (hr : r ≤ E) : kA a b h E l r * kB a2 b2 E l r = kA a2 b2 h2 E l r * kB a b E l r := by
  have bl := P.2.1 l hl
  have br := P.2.1 r hr
  have be := P.2.1 E (Nat.le_refl E)
  have cl := P2.2.1 l hl
  have cr := P2.2.1 r hr
  have ce := P2.2.1 E (Nat.le_refl E)
  unfold kA kB
  split
  · exact (s l hl).2
  · exact cr_eq (pos3 (by omega) (by omega) (by omega)) (pos3 (by omega) (by omega) (by omega)) (bA_sc s hl hr (Nat.le_refl E)) (bB_sc s hl hr)
/-- points compare alike in both rows -/
theorem pt_sc {A : Mem} {a b h a2 b2 h2 : Nat → Int} {E i j : Nat} (P : PT A a b h E) (P2 : PT A a2 b2 h2 E) (s : SCL a b h a2 b2 h2 E) (hi : i ≤ E) (hj : j ≤ E) : (a i * b j < a j * b i ↔ a2 i * b2 j < a2 j * b2 i) ∧ (a i * b j = a j * b i ↔ a2 i * b2 j = a2 j * b2 i) := by
  have o := od_sc s hi hj
  have bi := P.2.1 i hi
  have bj := P.2.1 j hj
  have ci := P2.2.1 i hi
  have cj := P2.2.1 j hj
  have m1 := mp_pos (s := b2 i * b2 j) (x := od a b i j) (Int.mul_pos (by omega) (by omega))
  have m2 := mp_pos (s := b i * b j) (x := od a2 b2 i j) (Int.mul_pos (by omega) (by omega))
  rw [Int.mul_comm, o, Int.mul_comm] at m1
  unfold od at m1 m2
  constructor <;> constructor <;> intro z <;> omega
theorem adm_sc {A : Mem} {a b h a2 b2 h2 : Nat → Int} {E l r : Nat} (P : PT A a b h E) (P2 : PT A a2 b2 h2 E) (s : SCL a b h a2 b2 h2 E) : adm a b E l r ↔ adm a2 b2 E l r := by
  unfold adm
  by_cases hl : l ≤ E
  · by_cases hr : r ≤ E
    · have p1 := pt_sc P P2 s hl (Nat.le_refl E)
      have p2 := pt_sc P P2 s (Nat.le_refl E) hr
      have p3 := pt_sc P P2 s hl hr
      omega
    · omega
  · omega
theorem B2.sc {A : Mem} {a b h a2 b2 h2 : Nat → Int} {E L R : Nat} {V : Nat → Nat → Prop} {T1 T2 : Int} (P : PT A a b h E) (P2 : PT A a2 b2 h2 E) (s : SCL a b h a2 b2 h2 E) (z : B2 a2 b2 h2 E V L R T1 T2) : B2 a b h E V L R T1 T2 := by
  obtain ⟨z1, z2, z3, z4⟩ := z
  have q := (adm_sc P P2 s).mpr z1
  have k1 := kB_pos P q
  have k2 := kB_pos P2 z1
  refine ⟨q, z2, ?_, fun l r v t => ?_⟩
  · have e := k_sc P P2 s q.1 q.2.1
    exact fr_eq_eq (c := kA a2 b2 h2 E L R) (d := kB a2 b2 E L R) z2 k2 k1 z3 e.symm
  · have t2 := (adm_sc P P2 s).mp t
    have x1 := kB_pos P t
    have x2 := kB_pos P2 t2
    have e := k_sc P P2 s t.1 t.2.1
    have p1 := pt_sc P P2 s t.1 q.1
    have p2 := pt_sc P P2 s q.2.1 t.2.1
    rcases z4 l r v t2 with y | ⟨y, w⟩
    · exact Or.inl (fr_le_lt x1 x2 z2 (Int.le_of_eq e) y)
    · exact Or.inr ⟨fr_eq_eq x1 x2 z2 e y, by omega⟩
theorem best_eq {A : Mem} (h2 : A 7 1 = 2) {a b h : Nat → Int} {E L R L2 R2 : Nat} {T1 T2 S1 S2 : Int} (P : PT A a b h E) (x : B1 a b h E (fun _ _ => True) L R T1 T2) (y : B2 a b h E (fun _ _ => True) L2 R2 S1 S2) : a L * b L2 = a L2 * b L ∧ a R * b R2 = a R2 * b R ∧ T1 * S2 = S1 * T2 := by
  have bd := x.bd P
  obtain ⟨y1, y2, y3, y4⟩ := y
  have be := P.2.1 E (Nat.le_refl E)
  have bL2 := P.2.1 L2 y1.1
  have bR2 := P.2.1 R2 y1.2.1
  have aE : adm a b E E E := ⟨Nat.le_refl E, Nat.le_refl E, Or.inl ⟨rfl, rfl⟩⟩
  have kE : kA a b h E E E = h E ∧ kB a b E E E = b E := ⟨if_pos rfl, if_pos rfl⟩
  have yE := y4 E E trivial aE
  rw [kE.1, kE.2] at yE
  have k2 := kB_pos P y1
  rcases x with ⟨rfl, rfl, rfl, rfl, x5⟩ | ⟨x1, _, x3, x4, x5, x6⟩
  · have hS : h R * S2 = S1 * b R := by
      rcases yE with yE | yE
      · exfalso
        by_cases st : stt a b R L2 R2
        · have z := x5 L2 R2 trivial st
          rw [← (k_stt P st).1, ← (k_stt P st).2] at z
          have w : h R * kB a b R L2 R2 < kA a b h R L2 R2 * b R := fr_lt_le (by omega) y2 k2 yE (Int.le_of_eq y3)
          omega
        · have z := k_ns h2 P y1 st
          have w : h R * kB a b R L2 R2 < kA a b h R L2 R2 * b R := fr_lt_le (by omega) y2 k2 yE (Int.le_of_eq y3)
          omega
      · exact yE.1
    have yy : a R * b L2 = a L2 * b R ∧ a R2 * b R ≤ a R * b R2 := by
      rcases yE with yE | ⟨_, yE⟩
      · omega
      · rcases yE with yE | yE
        · exfalso
          rcases y1.2.2 with ⟨rfl, _⟩ | z
          · omega
          · omega
        · exact yE
    refine ⟨yy.1, ?_, hS⟩
    rcases y1.2.2 with ⟨_, rfl⟩ | z
    · rfl
    · omega
  · have q := x1.adm P
    have kS := k_stt P x1
    have yL := y4 L R trivial q.1
    rw [kS.1, kS.2, ← x3, ← x4] at yL
    have ge : T1 * S2 ≤ S1 * T2 := by omega
    have big : h E * S2 < S1 * b E := fr_lt_le (by omega) bd.2.2.1 y2 x5 ge
    have st : stt a b E L2 R2 := Classical.byContradiction (fun n => by
      have z := k_ns h2 P y1 n
      have w : h E * kB a b E L2 R2 < kA a b h E L2 R2 * b E := fr_lt_le (by omega) y2 k2 big (Int.le_of_eq y3)
      omega)
    have z := x6 L2 R2 trivial st
    rw [← (k_stt P st).1, ← (k_stt P st).2] at z
    have le : S1 * T2 ≤ T1 * S2 := by
      have w : kA a b h E L2 R2 * T2 ≤ T1 * kB a b E L2 R2 := by omega
      exact fr_le_le y2 k2 bd.2.2.1 (Int.le_of_eq y3) w
    have eqT : T1 * S2 = S1 * T2 := by omega
    have eqK : kA a b h E L2 R2 * T2 = T1 * kB a b E L2 R2 := by
      have w : T1 * kB a b E L2 R2 = kA a b h E L2 R2 * T2 := fr_eq_eq bd.2.2.1 y2 k2 eqT y3
      exact w.symm
    have yL2 : a L * b L2 < a L2 * b L ∨ (a L * b L2 = a L2 * b L ∧ a R2 * b R ≤ a R * b R2) := by
      rcases yL with w | w
      · omega
      · exact w.2
    have zz : L2 < L ∨ (L2 = L ∧ R ≤ R2) := by
      rcases z with w | w
      · omega
      · exact w.2
    have hLE := x1.1
    have hR2E := st.2.1
    have hL2 : L2 = L := by
      rcases zz with w | w
      · exfalso
        have := P.2.2.2.2.1 L2 L w hLE
        omega
      · exact w.1
    subst hL2
    have hRR : R ≤ R2 := by omega
    refine ⟨rfl, ?_, eqT⟩
    rcases Nat.lt_or_eq_of_le hRR with w | w
    · have := P.2.2.2.2.1 R R2 w hR2E
      omega
    · rw [w]
