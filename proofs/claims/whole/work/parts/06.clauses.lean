theorem isB0 : isB 0 := Or.inl rfl
theorem isB1 : isB 1 := Or.inr rfl
theorem g_B_attendNone {call : Nat → List AV → Mem → (Int → Mem → Prop) → Prop} {cut : Nat → Lo → List AV → Mem → Prop} {Q : Int → Mem → Prop}  {σ : Mem} (h :
  Q 0 (mset σ 35 4 0)) : seg none call c_B_attendNone false Q cut 2000 true (toPc 0 c_B_attendNone) [some (.inr (.inr 35))] [] σ := h
theorem e_B_attendNone {d : Nat} {Q : Int → Mem → Prop}  {σ : Mem} (h :
  Q 0 (mset σ 35 4 0)) : wp (d + 1) m_B_attendNone [.inr (.inr 35)] σ Q := wp_in rfl (XX_intro (g_B_attendNone (call := wp d) (cut := XX none (wp d) c_B_attendNone false Q) (Q := Q)  (σ := σ) (h)))
theorem g_B_attendOnly {call : Nat → List AV → Mem → (Int → Mem → Prop) → Prop} {cut : Nat → Lo → List AV → Mem → Prop} {Q : Int → Mem → Prop} {a1 : Int} {σ : Mem} (h :
  call m_B_attend [.inr (.inr 35), .inl a1, .inl 0] (mset σ 35 4 0) (fun (r1 : Int) (s2 : Mem) => Q 0 s2)) : seg none call c_B_attendOnly false Q cut 2000 true (toPc 0 c_B_attendOnly) [some (.inr (.inr 35)), some (.inl a1)] [] σ := h
theorem e_B_attendOnly {d : Nat} {Q : Int → Mem → Prop} {a1 : Int} {σ : Mem} (h :
  wp d m_B_attend [.inr (.inr 35), .inl a1, .inl 0] (mset σ 35 4 0) (fun (r1 : Int) (s2 : Mem) => Q 0 s2)) : wp (d + 1) m_B_attendOnly [.inr (.inr 35), .inl a1] σ Q := wp_in rfl (XX_intro (g_B_attendOnly (call := wp d) (cut := XX none (wp d) c_B_attendOnly false Q) (Q := Q) (a1 := a1) (σ := σ) (h)))
theorem g_B_attendTest {call : Nat → List AV → Mem → (Int → Mem → Prop) → Prop} {cut : Nat → Lo → List AV → Mem → Prop} {Q : Int → Mem → Prop} {a1 : Int} {σ : Mem} (h :
  (0 ≤ a1 ∧ a1 < (6 : Int)) ∧ (0 ≤ a1 ∧ a1 < (6 : Int)) ∧ call m_B_attend [.inr (.inr 35), .inl (σ 15 a1.toNat), .inl (σ 16 a1.toNat)] σ (fun (r1 : Int) (s2 : Mem) => Q 0 s2)) : seg none call c_B_attendTest false Q cut 2000 true (toPc 0 c_B_attendTest) [some (.inr (.inr 35)), some (.inl a1)] [] σ := h
theorem e_B_attendTest {d : Nat} {Q : Int → Mem → Prop} {a1 : Int} {σ : Mem} (h :
  (0 ≤ a1 ∧ a1 < (6 : Int)) ∧ (0 ≤ a1 ∧ a1 < (6 : Int)) ∧ wp d m_B_attend [.inr (.inr 35), .inl (σ 15 a1.toNat), .inl (σ 16 a1.toNat)] σ (fun (r1 : Int) (s2 : Mem) => Q 0 s2)) : wp (d + 1) m_B_attendTest [.inr (.inr 35), .inl a1] σ Q := wp_in rfl (XX_intro (g_B_attendTest (call := wp d) (cut := XX none (wp d) c_B_attendTest false Q) (Q := Q) (a1 := a1) (σ := σ) (h)))
theorem g_B_attend {call : Nat → List AV → Mem → (Int → Mem → Prop) → Prop} {cut : Nat → Lo → List AV → Mem → Prop} {Q : Int → Mem → Prop} {a1 : Int} {a2 : Int} {σ : Mem} (h :
  ((σ 35 4) < 3 →
    (0 ≤ (σ 35 4) ∧ (σ 35 4) < (3 : Int)) ∧ (0 ≤ ((mset σ 37 (σ 35 4).toNat a1) 35 4) ∧ ((mset σ 37 (σ 35 4).toNat a1) 35 4) < (3 : Int)) ∧ Q 0 (mset (mset (mset σ 37 (σ 35 4).toNat a1) 38 ((mset σ 37 (σ 35 4).toNat a1) 35 4).toNat a2) 35 4 (w32 (((mset (mset σ 37 (σ 35 4).toNat a1) 38 ((mset σ 37 (σ 35 4).toNat a1) 35 4).toNat a2) 35 4) + 1)))) ∧
  (3 ≤ (σ 35 4) → Q 0 σ)) : seg none call c_B_attend false Q cut 2000 true (toPc 0 c_B_attend) [some (.inr (.inr 35)), some (.inl a1), some (.inl a2)] [] σ := h
theorem e_B_attend {d : Nat} {Q : Int → Mem → Prop} {a1 : Int} {a2 : Int} {σ : Mem} (h :
  ((σ 35 4) < 3 →
    (0 ≤ (σ 35 4) ∧ (σ 35 4) < (3 : Int)) ∧ (0 ≤ ((mset σ 37 (σ 35 4).toNat a1) 35 4) ∧ ((mset σ 37 (σ 35 4).toNat a1) 35 4) < (3 : Int)) ∧ Q 0 (mset (mset (mset σ 37 (σ 35 4).toNat a1) 38 ((mset σ 37 (σ 35 4).toNat a1) 35 4).toNat a2) 35 4 (w32 (((mset (mset σ 37 (σ 35 4).toNat a1) 38 ((mset σ 37 (σ 35 4).toNat a1) 35 4).toNat a2) 35 4) + 1)))) ∧
  (3 ≤ (σ 35 4) → Q 0 σ)) : wp (d + 1) m_B_attend [.inr (.inr 35), .inl a1, .inl a2] σ Q := wp_in rfl (XX_intro (g_B_attend (call := wp d) (cut := XX none (wp d) c_B_attend false Q) (Q := Q) (a1 := a1) (a2 := a2) (σ := σ) (h)))
theorem g_B_unit {call : Nat → List AV → Mem → (Int → Mem → Prop) → Prop} {cut : Nat → Lo → List AV → Mem → Prop} {Q : Int → Mem → Prop}  {σ : Mem} (h :
  call m_X_wholes [.inl 3] σ (fun (r1 : Int) (s2 : Mem) => Q (w64 ((σ 7 6) * r1)) s2)) : seg none call c_B_unit false Q cut 2000 true (toPc 0 c_B_unit) [some (.inr (.inr 35))] [] σ := h
theorem e_B_unit {d : Nat} {Q : Int → Mem → Prop}  {σ : Mem} (h :
  wp d m_X_wholes [.inl 3] σ (fun (r1 : Int) (s2 : Mem) => Q (w64 ((σ 7 6) * r1)) s2)) : wp (d + 1) m_B_unit [.inr (.inr 35)] σ Q := wp_in rfl (XX_intro (g_B_unit (call := wp d) (cut := XX none (wp d) c_B_unit false Q) (Q := Q)  (σ := σ) (h)))
theorem g_B_lay {call : Nat → List AV → Mem → (Int → Mem → Prop) → Prop} {cut : Nat → Lo → List AV → Mem → Prop} {Q : Int → Mem → Prop} {a1 : Int} {a2 : Int} {a3 : Int} {a4 : Int} {σ : Mem} (h :
  (0 ≤ (0 : Int) ∧ 0 < (16 : Int)) ∧ (0 ≤ (1 : Int) ∧ 1 < (16 : Int)) ∧ (0 ≤ (2 : Int) ∧ 2 < (16 : Int)) ∧ (0 ≤ (3 : Int) ∧ 3 < (16 : Int)) ∧ Q 0 (mset (mset (mset (mset σ 36 0 a1) 36 1 a2) 36 2 a3) 36 3 a4)) : seg none call c_B_lay false Q cut 2000 true (toPc 0 c_B_lay) [some (.inr (.inr 35)), some (.inr (.inl a1)), none, some (.inr (.inl a2)), none, some (.inr (.inl a3)), none, some (.inr (.inl a4)), none] [] σ := h
theorem e_B_lay {d : Nat} {Q : Int → Mem → Prop} {a1 : Int} {a2 : Int} {a3 : Int} {a4 : Int} {σ : Mem} (h :
  Q 0 (mset (mset (mset (mset σ 36 0 a1) 36 1 a2) 36 2 a3) 36 3 a4)) : wp (d + 1) m_B_lay [.inr (.inr 35), .inr (.inl a1), .inr (.inl a2), .inr (.inl a3), .inr (.inl a4)] σ Q := wp_in rfl (XX_intro (g_B_lay (call := wp d) (cut := XX none (wp d) c_B_lay false Q) (Q := Q) (a1 := a1) (a2 := a2) (a3 := a3) (a4 := a4) (σ := σ) (⟨⟨by decide, by decide⟩, ⟨⟨by decide, by decide⟩, ⟨⟨by decide, by decide⟩, ⟨⟨by decide, by decide⟩, h⟩⟩⟩⟩)))
abbrev K_B_layBefore_2 (d : Nat) (Q : Int → Mem → Prop) (x1 : Int) (σ : Mem) : Prop := XX none (wp d) c_B_layBefore false Q 2 [some (.inr (.inr 35)), some (.inl x1)] [] σ
theorem g_B_layBefore {call : Nat → List AV → Mem → (Int → Mem → Prop) → Prop} {cut : Nat → Lo → List AV → Mem → Prop} {Q : Int → Mem → Prop}  {σ : Mem} (h :
  cut 2 [some (.inr (.inr 35)), some (.inl 0)] [] σ) : seg none call c_B_layBefore false Q cut 2000 true (toPc 0 c_B_layBefore) [some (.inr (.inr 35)), none] [] σ := h
theorem e_B_layBefore {d : Nat} {Q : Int → Mem → Prop}  {σ : Mem} (h :
  K_B_layBefore_2 d Q 0 σ) : wp (d + 1) m_B_layBefore [.inr (.inr 35)] σ Q := wp_in rfl (XX_intro (g_B_layBefore (call := wp d) (cut := XX none (wp d) c_B_layBefore false Q) (Q := Q)  (σ := σ) (h)))
theorem g_B_layBefore_2 {call : Nat → List AV → Mem → (Int → Mem → Prop) → Prop} {cut : Nat → Lo → List AV → Mem → Prop} {Q : Int → Mem → Prop} {x1 : Int} {σ : Mem} (h :
  (x1 < (σ 7 1) →
    (0 ≤ x1 ∧ x1 < (4 : Int)) ∧ (0 ≤ x1 ∧ x1 < (16 : Int)) ∧ cut 2 [some (.inr (.inr 35)), some (.inl (w32 (x1 + 1)))] [] (mset σ 36 x1.toNat (σ 9 x1.toNat))) ∧
  ((σ 7 1) ≤ x1 → Q 0 σ)) : seg none call c_B_layBefore false Q cut 2000 true (toPc 2 c_B_layBefore) [some (.inr (.inr 35)), some (.inl x1)] [] σ := h
theorem e_B_layBefore_2 {d : Nat} {Q : Int → Mem → Prop} {x1 : Int} {σ : Mem} (h :
  (x1 < (σ 7 1) →
    (0 ≤ x1 ∧ x1 < (4 : Int)) ∧ (0 ≤ x1 ∧ x1 < (16 : Int)) ∧ K_B_layBefore_2 d Q (w32 (x1 + 1)) (mset σ 36 x1.toNat (σ 9 x1.toNat))) ∧
  ((σ 7 1) ≤ x1 → Q 0 σ)) : K_B_layBefore_2 d Q x1 σ := XX_intro (g_B_layBefore_2 (call := wp d) (cut := XX none (wp d) c_B_layBefore false Q) (Q := Q) (x1 := x1) (σ := σ) (h))
abbrev K_B_any_2 (d : Nat) (Q : Int → Mem → Prop) (x1 : Int) (x2 : Int) (σ : Mem) : Prop := XX none (wp d) c_B_any true Q 2 [some (.inr (.inr 35)), some (.inl x1), some (.inl x2)] [] σ
theorem g_B_any {call : Nat → List AV → Mem → (Int → Mem → Prop) → Prop} {cut : Nat → Lo → List AV → Mem → Prop} {Q : Int → Mem → Prop} {a1 : Int} {σ : Mem} (h :
  cut 2 [some (.inr (.inr 35)), some (.inl a1), some (.inl 0)] [] σ) : seg none call c_B_any true Q cut 2000 true (toPc 0 c_B_any) [some (.inr (.inr 35)), some (.inl a1), none] [] σ := h
theorem e_B_any {d : Nat} {Q : Int → Mem → Prop} {a1 : Int} {σ : Mem} (h :
  K_B_any_2 d Q a1 0 σ) : wp (d + 1) m_B_any [.inr (.inr 35), .inl a1] σ Q := wp_in rfl (XX_intro (g_B_any (call := wp d) (cut := XX none (wp d) c_B_any true Q) (Q := Q) (a1 := a1) (σ := σ) (h)))
theorem g_B_any_2 {call : Nat → List AV → Mem → (Int → Mem → Prop) → Prop} {cut : Nat → Lo → List AV → Mem → Prop} {Q : Int → Mem → Prop} {x1 : Int} {x2 : Int} {σ : Mem} (h :
  (x2 < (σ 7 1) →
    (0 ≤ (w32 ((w32 (x1 * 4)) + x2)) ∧ (w32 ((w32 (x1 * 4)) + x2)) < (16 : Int)) ∧ ((σ 36 (w32 ((w32 (x1 * 4)) + x2)).toNat) = 0 → cut 2 [some (.inr (.inr 35)), some (.inl x1), some (.inl (w32 (x2 + 1)))] [] σ) ∧
    (¬ (σ 36 (w32 ((w32 (x1 * 4)) + x2)).toNat) = 0 → isB 1 ∧ Q 1 σ)) ∧
  ((σ 7 1) ≤ x2 → isB 0 ∧ Q 0 σ)) : seg none call c_B_any true Q cut 2000 true (toPc 2 c_B_any) [some (.inr (.inr 35)), some (.inl x1), some (.inl x2)] [] σ := h
theorem e_B_any_2 {d : Nat} {Q : Int → Mem → Prop} {x1 : Int} {x2 : Int} {σ : Mem} (h :
  (x2 < (σ 7 1) →
    (0 ≤ (w32 ((w32 (x1 * 4)) + x2)) ∧ (w32 ((w32 (x1 * 4)) + x2)) < (16 : Int)) ∧ ((σ 36 (w32 ((w32 (x1 * 4)) + x2)).toNat) = 0 → K_B_any_2 d Q x1 (w32 (x2 + 1)) σ) ∧
    (¬ (σ 36 (w32 ((w32 (x1 * 4)) + x2)).toNat) = 0 → Q 1 σ)) ∧
  ((σ 7 1) ≤ x2 → Q 0 σ)) : K_B_any_2 d Q x1 x2 σ := XX_intro (g_B_any_2 (call := wp d) (cut := XX none (wp d) c_B_any true Q) (Q := Q) (x1 := x1) (x2 := x2) (σ := σ) (⟨fun z2 => ⟨(((h).1 z2)).1, ⟨fun z1 => ((((h).1 z2)).2).1 z1, fun z1 => ⟨isB1, (((((h).1 z2)).2).2 z1)⟩⟩⟩, fun z2 => ⟨isB0, ((h).2 z2)⟩⟩))
abbrev K_B_least_9 (d : Nat) (Q : Int → Mem → Prop) (x1 : Int) (x3 : Int) (σ : Mem) : Prop := XX none (wp d) c_B_least false Q 9 [some (.inr (.inr 35)), some (.inr (.inl x1)), none, some (.inl x3)] [] σ
theorem g_B_least {call : Nat → List AV → Mem → (Int → Mem → Prop) → Prop} {cut : Nat → Lo → List AV → Mem → Prop} {Q : Int → Mem → Prop}  {σ : Mem} (h :
  (0 ≤ (0 : Int) ∧ 0 < (16 : Int)) ∧ cut 9 [some (.inr (.inr 35)), some (.inr (.inl (σ 36 0))), none, some (.inl 1)] [] σ) : seg none call c_B_least false Q cut 2000 true (toPc 0 c_B_least) [some (.inr (.inr 35)), none, none, none] [] σ := h
theorem e_B_least {d : Nat} {Q : Int → Mem → Prop}  {σ : Mem} (h :
  K_B_least_9 d Q (σ 36 0) 1 σ) : wp (d + 1) m_B_least [.inr (.inr 35)] σ Q := wp_in rfl (XX_intro (g_B_least (call := wp d) (cut := XX none (wp d) c_B_least false Q) (Q := Q)  (σ := σ) (⟨⟨by decide, by decide⟩, h⟩)))
theorem g_B_least_9 {call : Nat → List AV → Mem → (Int → Mem → Prop) → Prop} {cut : Nat → Lo → List AV → Mem → Prop} {Q : Int → Mem → Prop} {x1 : Int} {x3 : Int} {σ : Mem} (h :
  (x3 < (σ 7 1) →
    (0 ≤ x3 ∧ x3 < (16 : Int)) ∧ cut 9 [some (.inr (.inr 35)), some (.inr (.inl (min x1 (σ 36 x3.toNat)))), none, some (.inl (w32 (x3 + 1)))] [] σ) ∧
  ((σ 7 1) ≤ x3 → Q x1 σ)) : seg none call c_B_least false Q cut 2000 true (toPc 9 c_B_least) [some (.inr (.inr 35)), some (.inr (.inl x1)), none, some (.inl x3)] [] σ := h
theorem e_B_least_9 {d : Nat} {Q : Int → Mem → Prop} {x1 : Int} {x3 : Int} {σ : Mem} (h :
  (x3 < (σ 7 1) →
    (0 ≤ x3 ∧ x3 < (16 : Int)) ∧ K_B_least_9 d Q (min x1 (σ 36 x3.toNat)) (w32 (x3 + 1)) σ) ∧
  ((σ 7 1) ≤ x3 → Q x1 σ)) : K_B_least_9 d Q x1 x3 σ := XX_intro (g_B_least_9 (call := wp d) (cut := XX none (wp d) c_B_least false Q) (Q := Q) (x1 := x1) (x3 := x3) (σ := σ) (h))
abbrev K_B_greatest_9 (d : Nat) (Q : Int → Mem → Prop) (x1 : Int) (x3 : Int) (σ : Mem) : Prop := XX none (wp d) c_B_greatest false Q 9 [some (.inr (.inr 35)), some (.inr (.inl x1)), none, some (.inl x3)] [] σ
theorem g_B_greatest {call : Nat → List AV → Mem → (Int → Mem → Prop) → Prop} {cut : Nat → Lo → List AV → Mem → Prop} {Q : Int → Mem → Prop}  {σ : Mem} (h :
  (0 ≤ (0 : Int) ∧ 0 < (16 : Int)) ∧ cut 9 [some (.inr (.inr 35)), some (.inr (.inl (σ 36 0))), none, some (.inl 1)] [] σ) : seg none call c_B_greatest false Q cut 2000 true (toPc 0 c_B_greatest) [some (.inr (.inr 35)), none, none, none] [] σ := h
theorem e_B_greatest {d : Nat} {Q : Int → Mem → Prop}  {σ : Mem} (h :
  K_B_greatest_9 d Q (σ 36 0) 1 σ) : wp (d + 1) m_B_greatest [.inr (.inr 35)] σ Q := wp_in rfl (XX_intro (g_B_greatest (call := wp d) (cut := XX none (wp d) c_B_greatest false Q) (Q := Q)  (σ := σ) (⟨⟨by decide, by decide⟩, h⟩)))
theorem g_B_greatest_9 {call : Nat → List AV → Mem → (Int → Mem → Prop) → Prop} {cut : Nat → Lo → List AV → Mem → Prop} {Q : Int → Mem → Prop} {x1 : Int} {x3 : Int} {σ : Mem} (h :
  (x3 < (σ 7 1) →
    (0 ≤ x3 ∧ x3 < (16 : Int)) ∧ cut 9 [some (.inr (.inr 35)), some (.inr (.inl (max x1 (σ 36 x3.toNat)))), none, some (.inl (w32 (x3 + 1)))] [] σ) ∧
  ((σ 7 1) ≤ x3 → Q x1 σ)) : seg none call c_B_greatest false Q cut 2000 true (toPc 9 c_B_greatest) [some (.inr (.inr 35)), some (.inr (.inl x1)), none, some (.inl x3)] [] σ := h
theorem e_B_greatest_9 {d : Nat} {Q : Int → Mem → Prop} {x1 : Int} {x3 : Int} {σ : Mem} (h :
  (x3 < (σ 7 1) →
    (0 ≤ x3 ∧ x3 < (16 : Int)) ∧ K_B_greatest_9 d Q (max x1 (σ 36 x3.toNat)) (w32 (x3 + 1)) σ) ∧
  ((σ 7 1) ≤ x3 → Q x1 σ)) : K_B_greatest_9 d Q x1 x3 σ := XX_intro (g_B_greatest_9 (call := wp d) (cut := XX none (wp d) c_B_greatest false Q) (Q := Q) (x1 := x1) (x3 := x3) (σ := σ) (h))
abbrev K_B_mass_5 (d : Nat) (Q : Int → Mem → Prop) (x1 : Int) (x2 : Int) (x4 : Int) (σ : Mem) : Prop := XX none (wp d) c_B_mass false Q 5 [some (.inr (.inr 35)), some (.inl x1), some (.inr (.inl x2)), none, some (.inl x4)] [] σ
theorem g_B_mass {call : Nat → List AV → Mem → (Int → Mem → Prop) → Prop} {cut : Nat → Lo → List AV → Mem → Prop} {Q : Int → Mem → Prop} {a1 : Int} {σ : Mem} (h :
  cut 5 [some (.inr (.inr 35)), some (.inl a1), some (.inr (.inl 0)), none, some (.inl 0)] [] σ) : seg none call c_B_mass false Q cut 2000 true (toPc 0 c_B_mass) [some (.inr (.inr 35)), some (.inl a1), none, none, none] [] σ := h
theorem e_B_mass {d : Nat} {Q : Int → Mem → Prop} {a1 : Int} {σ : Mem} (h :
  K_B_mass_5 d Q a1 0 0 σ) : wp (d + 1) m_B_mass [.inr (.inr 35), .inl a1] σ Q := wp_in rfl (XX_intro (g_B_mass (call := wp d) (cut := XX none (wp d) c_B_mass false Q) (Q := Q) (a1 := a1) (σ := σ) (h)))
theorem g_B_mass_5 {call : Nat → List AV → Mem → (Int → Mem → Prop) → Prop} {cut : Nat → Lo → List AV → Mem → Prop} {Q : Int → Mem → Prop} {x1 : Int} {x2 : Int} {x4 : Int} {σ : Mem} (h :
  (x4 < (σ 7 1) →
    (0 ≤ (w32 ((w32 (x1 * 4)) + x4)) ∧ (w32 ((w32 (x1 * 4)) + x4)) < (16 : Int)) ∧ cut 5 [some (.inr (.inr 35)), some (.inl x1), some (.inr (.inl (w64 (x2 + (σ 36 (w32 ((w32 (x1 * 4)) + x4)).toNat))))), none, some (.inl (w32 (x4 + 1)))] [] σ) ∧
  ((σ 7 1) ≤ x4 → Q x2 σ)) : seg none call c_B_mass false Q cut 2000 true (toPc 5 c_B_mass) [some (.inr (.inr 35)), some (.inl x1), some (.inr (.inl x2)), none, some (.inl x4)] [] σ := h
theorem e_B_mass_5 {d : Nat} {Q : Int → Mem → Prop} {x1 : Int} {x2 : Int} {x4 : Int} {σ : Mem} (h :
  (x4 < (σ 7 1) →
    (0 ≤ (w32 ((w32 (x1 * 4)) + x4)) ∧ (w32 ((w32 (x1 * 4)) + x4)) < (16 : Int)) ∧ K_B_mass_5 d Q x1 (w64 (x2 + (σ 36 (w32 ((w32 (x1 * 4)) + x4)).toNat))) (w32 (x4 + 1)) σ) ∧
  ((σ 7 1) ≤ x4 → Q x2 σ)) : K_B_mass_5 d Q x1 x2 x4 σ := XX_intro (g_B_mass_5 (call := wp d) (cut := XX none (wp d) c_B_mass false Q) (Q := Q) (x1 := x1) (x2 := x2) (x4 := x4) (σ := σ) (h))
abbrev K_B_leastTerm_10 (d : Nat) (Q : Int → Mem → Prop) (x2 : Int) (x3 : Int) (x4 : Int) (x6 : Int) (σ : Mem) : Prop := XX none (wp d) c_B_leastTerm false Q 10 [some (.inr (.inr 35)), none, some (.inl x2), some (.inl x3), some (.inr (.inl x4)), none, some (.inl x6)] [] σ
theorem g_B_leastTerm {call : Nat → List AV → Mem → (Int → Mem → Prop) → Prop} {cut : Nat → Lo → List AV → Mem → Prop} {Q : Int → Mem → Prop} {a1 : Int} {a2 : Int} {σ : Mem} (h :
  cut 10 [some (.inr (.inr 35)), none, some (.inl a2), some (.inl (w32 (a1 * 4))), some (.inr (.inl 0)), none, some (.inl 0)] [] σ) : seg none call c_B_leastTerm false Q cut 2000 true (toPc 0 c_B_leastTerm) [some (.inr (.inr 35)), some (.inl a1), some (.inl a2), none, none, none, none] [] σ := h
theorem e_B_leastTerm {d : Nat} {Q : Int → Mem → Prop} {a1 : Int} {a2 : Int} {σ : Mem} (h :
  K_B_leastTerm_10 d Q a2 (w32 (a1 * 4)) 0 0 σ) : wp (d + 1) m_B_leastTerm [.inr (.inr 35), .inl a1, .inl a2] σ Q := wp_in rfl (XX_intro (g_B_leastTerm (call := wp d) (cut := XX none (wp d) c_B_leastTerm false Q) (Q := Q) (a1 := a1) (a2 := a2) (σ := σ) (h)))
theorem g_B_leastTerm_10 {call : Nat → List AV → Mem → (Int → Mem → Prop) → Prop} {cut : Nat → Lo → List AV → Mem → Prop} {Q : Int → Mem → Prop} {x2 : Int} {x3 : Int} {x4 : Int} {x6 : Int} {σ : Mem} (h :
  (x6 < (σ 7 1) →
    (0 ≤ (w32 (x3 + x6)) ∧ (w32 (x3 + x6)) < (16 : Int)) ∧ call m_X_commonDivisor [.inr (.inl x4), .inr (.inl (σ 36 (w32 (x3 + x6)).toNat))] σ (fun (r1 : Int) (s2 : Mem) =>
    cut 10 [some (.inr (.inr 35)), none, some (.inl x2), some (.inl x3), some (.inr (.inl r1)), none, some (.inl (w32 (x6 + 1)))] [] s2)) ∧
  ((σ 7 1) ≤ x6 →
    (1 < x4 →
      (0 ≤ (w32 (x3 + x2)) ∧ (w32 (x3 + x2)) < (16 : Int)) ∧ (¬ x4 = 0) ∧ Q (w64 (Int.tdiv (σ 36 (w32 (x3 + x2)).toNat) x4)) σ) ∧
    (x4 ≤ 1 →
      (0 ≤ (w32 (x3 + x2)) ∧ (w32 (x3 + x2)) < (16 : Int)) ∧ Q (σ 36 (w32 (x3 + x2)).toNat) σ))) : seg none call c_B_leastTerm false Q cut 2000 true (toPc 10 c_B_leastTerm) [some (.inr (.inr 35)), none, some (.inl x2), some (.inl x3), some (.inr (.inl x4)), none, some (.inl x6)] [] σ := h
theorem e_B_leastTerm_10 {d : Nat} {Q : Int → Mem → Prop} {x2 : Int} {x3 : Int} {x4 : Int} {x6 : Int} {σ : Mem} (h :
  (x6 < (σ 7 1) →
    (0 ≤ (w32 (x3 + x6)) ∧ (w32 (x3 + x6)) < (16 : Int)) ∧ wp d m_X_commonDivisor [.inr (.inl x4), .inr (.inl (σ 36 (w32 (x3 + x6)).toNat))] σ (fun (r1 : Int) (s2 : Mem) => K_B_leastTerm_10 d Q x2 x3 r1 (w32 (x6 + 1)) s2)) ∧
  ((σ 7 1) ≤ x6 →
    (1 < x4 →
      (0 ≤ (w32 (x3 + x2)) ∧ (w32 (x3 + x2)) < (16 : Int)) ∧ (¬ x4 = 0) ∧ Q (w64 (Int.tdiv (σ 36 (w32 (x3 + x2)).toNat) x4)) σ) ∧
    (x4 ≤ 1 →
      (0 ≤ (w32 (x3 + x2)) ∧ (w32 (x3 + x2)) < (16 : Int)) ∧ Q (σ 36 (w32 (x3 + x2)).toNat) σ))) : K_B_leastTerm_10 d Q x2 x3 x4 x6 σ := XX_intro (g_B_leastTerm_10 (call := wp d) (cut := XX none (wp d) c_B_leastTerm false Q) (Q := Q) (x2 := x2) (x3 := x3) (x4 := x4) (x6 := x6) (σ := σ) (h))
theorem g_B_seeOne {call : Nat → List AV → Mem → (Int → Mem → Prop) → Prop} {cut : Nat → Lo → List AV → Mem → Prop} {Q : Int → Mem → Prop} {a1 : Int} {a2 : Int} {σ : Mem} (h :
  call m_B_layBefore [.inr (.inr 35)] σ (fun (r1 : Int) (s2 : Mem) =>
  call m_B_step [.inr (.inr 35), .inl 0, .inl a1, .inl a2] s2 (fun (r3 : Int) (s4 : Mem) => isB r3 ∧ Q r3 s4))) : seg none call c_B_seeOne true Q cut 2000 true (toPc 0 c_B_seeOne) [some (.inr (.inr 35)), some (.inl a1), some (.inl a2)] [] σ := h
theorem e_B_seeOne {d : Nat} {Q : Int → Mem → Prop} {a1 : Int} {a2 : Int} {σ : Mem} (h :
  wp d m_B_layBefore [.inr (.inr 35)] σ (fun (r1 : Int) (s2 : Mem) =>
  wp d m_B_step [.inr (.inr 35), .inl 0, .inl a1, .inl a2] s2 (fun (r3 : Int) (s4 : Mem) => isB r3 ∧ Q r3 s4))) : wp (d + 1) m_B_seeOne [.inr (.inr 35), .inl a1, .inl a2] σ Q := wp_in rfl (XX_intro (g_B_seeOne (call := wp d) (cut := XX none (wp d) c_B_seeOne true Q) (Q := Q) (a1 := a1) (a2 := a2) (σ := σ) (h)))
abbrev K_B_seeMany_6 (d : Nat) (Q : Int → Mem → Prop) (x1 : Int) (x2 : Int) (x3 : Int) (σ : Mem) : Prop := XX none (wp d) c_B_seeMany true Q 6 [some (.inr (.inr 35)), some (.inl x1), some (.inl x2), some (.inl x3), none, none] [] σ
abbrev K_B_seeMany_23 (d : Nat) (Q : Int → Mem → Prop) (x1 : Int) (x2 : Int) (x3 : Int) (x4 : Int) (x5 : Int) (σ : Mem) : Prop := XX none (wp d) c_B_seeMany true Q 23 [some (.inr (.inr 35)), some (.inl x1), some (.inl x2), some (.inl x3), some (.inl x4), some (.inl x5)] [] σ
theorem g_B_seeMany {call : Nat → List AV → Mem → (Int → Mem → Prop) → Prop} {cut : Nat → Lo → List AV → Mem → Prop} {Q : Int → Mem → Prop} {a1 : Int} {a2 : Int} {σ : Mem} (h :
  call m_B_layBefore [.inr (.inr 35)] σ (fun (r1 : Int) (s2 : Mem) =>
  cut 6 [some (.inr (.inr 35)), some (.inl a1), some (.inl a2), some (.inl 0), none, none] [] s2)) : seg none call c_B_seeMany true Q cut 2000 true (toPc 0 c_B_seeMany) [some (.inr (.inr 35)), some (.inl a1), some (.inl a2), none, none, none] [] σ := h
theorem e_B_seeMany {d : Nat} {Q : Int → Mem → Prop} {a1 : Int} {a2 : Int} {σ : Mem} (h :
  wp d m_B_layBefore [.inr (.inr 35)] σ (fun (r1 : Int) (s2 : Mem) => K_B_seeMany_6 d Q a1 a2 0 s2)) : wp (d + 1) m_B_seeMany [.inr (.inr 35), .inl a1, .inl a2] σ Q := wp_in rfl (XX_intro (g_B_seeMany (call := wp d) (cut := XX none (wp d) c_B_seeMany true Q) (Q := Q) (a1 := a1) (a2 := a2) (σ := σ) (h)))
theorem g_B_seeMany_6 {call : Nat → List AV → Mem → (Int → Mem → Prop) → Prop} {cut : Nat → Lo → List AV → Mem → Prop} {Q : Int → Mem → Prop} {x1 : Int} {x2 : Int} {x3 : Int} {σ : Mem} (h :
  (x3 < (σ 7 1) →
    cut 23 [some (.inr (.inr 35)), some (.inl x1), some (.inl x2), some (.inl x3), some (.inl 0), some (.inl 0)] [] σ) ∧
  ((σ 7 1) ≤ x3 →
    call m_B_any [.inr (.inr 35), .inl 1] σ (fun (r1 : Int) (s2 : Mem) => isB r1 ∧ Q r1 s2))) : seg none call c_B_seeMany true Q cut 2000 true (toPc 6 c_B_seeMany) [some (.inr (.inr 35)), some (.inl x1), some (.inl x2), some (.inl x3), none, none] [] σ := h
theorem e_B_seeMany_6 {d : Nat} {Q : Int → Mem → Prop} {x1 : Int} {x2 : Int} {x3 : Int} {σ : Mem} (h :
  (x3 < (σ 7 1) → K_B_seeMany_23 d Q x1 x2 x3 0 0 σ) ∧
  ((σ 7 1) ≤ x3 →
    wp d m_B_any [.inr (.inr 35), .inl 1] σ (fun (r1 : Int) (s2 : Mem) => isB r1 ∧ Q r1 s2))) : K_B_seeMany_6 d Q x1 x2 x3 σ := XX_intro (g_B_seeMany_6 (call := wp d) (cut := XX none (wp d) c_B_seeMany true Q) (Q := Q) (x1 := x1) (x2 := x2) (x3 := x3) (σ := σ) (h))
theorem g_B_seeMany_23 {call : Nat → List AV → Mem → (Int → Mem → Prop) → Prop} {cut : Nat → Lo → List AV → Mem → Prop} {Q : Int → Mem → Prop} {x1 : Int} {x2 : Int} {x3 : Int} {x4 : Int} {x5 : Int} {σ : Mem} (h :
  (0 ≤ x1 ∧ x1 < (12 : Int)) ∧ (x5 < (σ 13 x1.toNat) →
    ((andI (shrI x2 x5) 1) = 0 →
      cut 23 [some (.inr (.inr 35)), some (.inl x1), some (.inl x2), some (.inl x3), some (.inl (w32 (x4 + 0))), some (.inl (w32 (x5 + 1)))] [] σ) ∧
    (¬ (andI (shrI x2 x5) 1) = 0 →
      call m_S_partOf [.inr (.inr 7), .inl x1, .inl x3, .inl x5] σ (fun (r1 : Int) (s2 : Mem) =>
      cut 23 [some (.inr (.inr 35)), some (.inl x1), some (.inl x2), some (.inl x3), some (.inl (w32 (x4 + r1))), some (.inl (w32 (x5 + 1)))] [] s2))) ∧
  ((σ 13 x1.toNat) ≤ x5 →
    (0 ≤ x3 ∧ x3 < (16 : Int)) ∧ (0 ≤ (w32 (4 + x3)) ∧ (w32 (4 + x3)) < (16 : Int)) ∧ cut 6 [some (.inr (.inr 35)), some (.inl x1), some (.inl x2), some (.inl (w32 (x3 + 1))), none, none] [] (mset σ 36 (w32 (4 + x3)).toNat (w64 ((σ 36 x3.toNat) * x4))))) : seg none call c_B_seeMany true Q cut 2000 true (toPc 23 c_B_seeMany) [some (.inr (.inr 35)), some (.inl x1), some (.inl x2), some (.inl x3), some (.inl x4), some (.inl x5)] [] σ := h
theorem e_B_seeMany_23 {d : Nat} {Q : Int → Mem → Prop} {x1 : Int} {x2 : Int} {x3 : Int} {x4 : Int} {x5 : Int} {σ : Mem} (h :
  (0 ≤ x1 ∧ x1 < (12 : Int)) ∧ (x5 < (σ 13 x1.toNat) →
    ((andI (shrI x2 x5) 1) = 0 → K_B_seeMany_23 d Q x1 x2 x3 (w32 (x4 + 0)) (w32 (x5 + 1)) σ) ∧
    (¬ (andI (shrI x2 x5) 1) = 0 →
      wp d m_S_partOf [.inr (.inr 7), .inl x1, .inl x3, .inl x5] σ (fun (r1 : Int) (s2 : Mem) =>
      K_B_seeMany_23 d Q x1 x2 x3 (w32 (x4 + r1)) (w32 (x5 + 1)) s2))) ∧
  ((σ 13 x1.toNat) ≤ x5 →
    (0 ≤ x3 ∧ x3 < (16 : Int)) ∧ (0 ≤ (w32 (4 + x3)) ∧ (w32 (4 + x3)) < (16 : Int)) ∧ K_B_seeMany_6 d Q x1 x2 (w32 (x3 + 1)) (mset σ 36 (w32 (4 + x3)).toNat (w64 ((σ 36 x3.toNat) * x4))))) : K_B_seeMany_23 d Q x1 x2 x3 x4 x5 σ := XX_intro (g_B_seeMany_23 (call := wp d) (cut := XX none (wp d) c_B_seeMany true Q) (Q := Q) (x1 := x1) (x2 := x2) (x3 := x3) (x4 := x4) (x5 := x5) (σ := σ) (h))
abbrev K_B_step_17 (d : Nat) (Q : Int → Mem → Prop) (x2 : Int) (x3 : Int) (x4 : Int) (x5 : Int) (x6 : Int) (x7 : Int) (σ : Mem) : Prop := XX none (wp d) c_B_step true Q 17 [some (.inr (.inr 35)), none, some (.inl x2), some (.inl x3), some (.inl x4), some (.inl x5), some (.inl x6), some (.inl x7), none, none] [] σ
theorem g_B_step {call : Nat → List AV → Mem → (Int → Mem → Prop) → Prop} {cut : Nat → Lo → List AV → Mem → Prop} {Q : Int → Mem → Prop} {a1 : Int} {a2 : Int} {a3 : Int} {σ : Mem} (h :
  cut 17 [some (.inr (.inr 35)), none, some (.inl a2), some (.inl a3), some (.inl (w32 (a1 * 4))), some (.inl (w32 ((w32 (a1 * 4)) + 4))), some (.inl 0), some (.inl 0), none, none] [] σ) : seg none call c_B_step true Q cut 2000 true (toPc 0 c_B_step) [some (.inr (.inr 35)), some (.inl a1), some (.inl a2), some (.inl a3), none, none, none, none, none, none] [] σ := h
theorem e_B_step {d : Nat} {Q : Int → Mem → Prop} {a1 : Int} {a2 : Int} {a3 : Int} {σ : Mem} (h :
  K_B_step_17 d Q a2 a3 (w32 (a1 * 4)) (w32 ((w32 (a1 * 4)) + 4)) 0 0 σ) : wp (d + 1) m_B_step [.inr (.inr 35), .inl a1, .inl a2, .inl a3] σ Q := wp_in rfl (XX_intro (g_B_step (call := wp d) (cut := XX none (wp d) c_B_step true Q) (Q := Q) (a1 := a1) (a2 := a2) (a3 := a3) (σ := σ) (h)))
theorem g_B_step_17 {call : Nat → List AV → Mem → (Int → Mem → Prop) → Prop} {cut : Nat → Lo → List AV → Mem → Prop} {Q : Int → Mem → Prop} {x2 : Int} {x3 : Int} {x4 : Int} {x5 : Int} {x6 : Int} {x7 : Int} {σ : Mem} (h :
  (x7 < (σ 7 1) →
    (0 ≤ (w32 (x4 + x7)) ∧ (w32 (x4 + x7)) < (16 : Int)) ∧ call m_S_partOf [.inr (.inr 7), .inl x2, .inl x7, .inl x3] σ (fun (r1 : Int) (s2 : Mem) =>
    (0 ≤ (w32 (x5 + x7)) ∧ (w32 (x5 + x7)) < (16 : Int)) ∧ (x6 = 0 →
        ((w64 ((σ 36 (w32 (x4 + x7)).toNat) * r1)) = 0 →
          cut 17 [some (.inr (.inr 35)), none, some (.inl x2), some (.inl x3), some (.inl x4), some (.inl x5), some (.inl 0), some (.inl (w32 (x7 + 1))), none, none] [] (mset s2 36 (w32 (x5 + x7)).toNat (w64 ((σ 36 (w32 (x4 + x7)).toNat) * r1)))) ∧
        (¬ (w64 ((σ 36 (w32 (x4 + x7)).toNat) * r1)) = 0 →
          cut 17 [some (.inr (.inr 35)), none, some (.inl x2), some (.inl x3), some (.inl x4), some (.inl x5), some (.inl 1), some (.inl (w32 (x7 + 1))), none, none] [] (mset s2 36 (w32 (x5 + x7)).toNat (w64 ((σ 36 (w32 (x4 + x7)).toNat) * r1))))) ∧
      (¬ x6 = 0 →
        cut 17 [some (.inr (.inr 35)), none, some (.inl x2), some (.inl x3), some (.inl x4), some (.inl x5), some (.inl 1), some (.inl (w32 (x7 + 1))), none, none] [] (mset s2 36 (w32 (x5 + x7)).toNat (w64 ((σ 36 (w32 (x4 + x7)).toNat) * r1)))))) ∧
  ((σ 7 1) ≤ x7 → isB x6 ∧ Q x6 σ)) : seg none call c_B_step true Q cut 2000 true (toPc 17 c_B_step) [some (.inr (.inr 35)), none, some (.inl x2), some (.inl x3), some (.inl x4), some (.inl x5), some (.inl x6), some (.inl x7), none, none] [] σ := h
theorem e_B_step_17 {d : Nat} {Q : Int → Mem → Prop} {x2 : Int} {x3 : Int} {x4 : Int} {x5 : Int} {x6 : Int} {x7 : Int} {σ : Mem} (h :
  (x7 < (σ 7 1) →
    (0 ≤ (w32 (x4 + x7)) ∧ (w32 (x4 + x7)) < (16 : Int)) ∧ wp d m_S_partOf [.inr (.inr 7), .inl x2, .inl x7, .inl x3] σ (fun (r1 : Int) (s2 : Mem) =>
    (0 ≤ (w32 (x5 + x7)) ∧ (w32 (x5 + x7)) < (16 : Int)) ∧ (x6 = 0 →
        ((w64 ((σ 36 (w32 (x4 + x7)).toNat) * r1)) = 0 →
          K_B_step_17 d Q x2 x3 x4 x5 0 (w32 (x7 + 1)) (mset s2 36 (w32 (x5 + x7)).toNat (w64 ((σ 36 (w32 (x4 + x7)).toNat) * r1)))) ∧
        (¬ (w64 ((σ 36 (w32 (x4 + x7)).toNat) * r1)) = 0 →
          K_B_step_17 d Q x2 x3 x4 x5 1 (w32 (x7 + 1)) (mset s2 36 (w32 (x5 + x7)).toNat (w64 ((σ 36 (w32 (x4 + x7)).toNat) * r1))))) ∧
      (¬ x6 = 0 →
        K_B_step_17 d Q x2 x3 x4 x5 1 (w32 (x7 + 1)) (mset s2 36 (w32 (x5 + x7)).toNat (w64 ((σ 36 (w32 (x4 + x7)).toNat) * r1)))))) ∧
  ((σ 7 1) ≤ x7 → isB x6 ∧ Q x6 σ)) : K_B_step_17 d Q x2 x3 x4 x5 x6 x7 σ := XX_intro (g_B_step_17 (call := wp d) (cut := XX none (wp d) c_B_step true Q) (Q := Q) (x2 := x2) (x3 := x3) (x4 := x4) (x5 := x5) (x6 := x6) (x7 := x7) (σ := σ) (h))
abbrev K_B_choose_40 (d : Nat) (Q : Int → Mem → Prop) (x1 : Int) (x2 : Nat) (x3 : Int) (x5 : Int) (x6 : Int) (x8 : Int) (σ : Mem) : Prop := XX none (wp d) c_B_choose false Q 40 [some (.inr (.inr 35)), some (.inl x1), some (.inr (.inr x2)), some (.inl x3), some (.inr (.inr 11)), some (.inl x5), some (.inr (.inl x6)), none, some (.inl x8), none, none] [] σ
theorem g_B_choose {call : Nat → List AV → Mem → (Int → Mem → Prop) → Prop} {cut : Nat → Lo → List AV → Mem → Prop} {Q : Int → Mem → Prop} {a1 : Int} {a2 : Nat} {σ : Mem} (h :
  ((σ 7 3) = 0 →
    call m_B_sumOf [.inr (.inr 35), .inl a1, .inr (.inr a2), .inl 0] σ (fun (r3 : Int) (s4 : Mem) =>
    cut 40 [some (.inr (.inr 35)), some (.inl a1), some (.inr (.inr a2)), some (.inl 1), some (.inr (.inr 11)), some (.inl 0), some (.inr (.inl r3)), none, some (.inl 1), none, none] [] s4)) ∧
  (¬ (σ 7 3) = 0 →
    call m_B_sumOf [.inr (.inr 35), .inl a1, .inr (.inr a2), .inl 0] σ (fun (r1 : Int) (s2 : Mem) =>
    cut 40 [some (.inr (.inr 35)), some (.inl a1), some (.inr (.inr a2)), some (.inl (-1)), some (.inr (.inr 11)), some (.inl 0), some (.inr (.inl r1)), none, some (.inl 1), none, none] [] s2))) : seg none call c_B_choose false Q cut 2000 true (toPc 0 c_B_choose) [some (.inr (.inr 35)), some (.inl a1), some (.inr (.inr a2)), none, none, none, none, none, none, none, none] [] σ := h
theorem e_B_choose {d : Nat} {Q : Int → Mem → Prop} {a1 : Int} {a2 : Nat} {σ : Mem} (h :
  ((σ 7 3) = 0 →
    wp d m_B_sumOf [.inr (.inr 35), .inl a1, .inr (.inr a2), .inl 0] σ (fun (r3 : Int) (s4 : Mem) => K_B_choose_40 d Q a1 a2 1 0 r3 1 s4)) ∧
  (¬ (σ 7 3) = 0 →
    wp d m_B_sumOf [.inr (.inr 35), .inl a1, .inr (.inr a2), .inl 0] σ (fun (r1 : Int) (s2 : Mem) => K_B_choose_40 d Q a1 a2 (-1) 0 r1 1 s2))) : wp (d + 1) m_B_choose [.inr (.inr 35), .inl a1, .inr (.inr a2)] σ Q := wp_in rfl (XX_intro (g_B_choose (call := wp d) (cut := XX none (wp d) c_B_choose false Q) (Q := Q) (a1 := a1) (a2 := a2) (σ := σ) (h)))
theorem g_B_choose_40 {call : Nat → List AV → Mem → (Int → Mem → Prop) → Prop} {cut : Nat → Lo → List AV → Mem → Prop} {Q : Int → Mem → Prop} {x1 : Int} {x2 : Nat} {x3 : Int} {x5 : Int} {x6 : Int} {x8 : Int} {σ : Mem} (h :
  (x8 < (σ 7 2) →
    call m_B_sumOf [.inr (.inr 35), .inl x1, .inr (.inr x2), .inl x8] σ (fun (r1 : Int) (s2 : Mem) =>
    (x6 < r1 →
        cut 40 [some (.inr (.inr 35)), some (.inl x1), some (.inr (.inr x2)), some (.inl x3), some (.inr (.inr 11)), some (.inl x8), some (.inr (.inl r1)), none, some (.inl (w32 (x8 + 1))), none, none] [] s2) ∧
      (r1 ≤ x6 →
        (r1 = x6 →
          call m_B_sumOf [.inr (.inr 35), .inl x1, .inr (.inr 11), .inl x8] s2 (fun (r3 : Int) (s4 : Mem) =>
          call m_B_sumOf [.inr (.inr 35), .inl x1, .inr (.inr 11), .inl x5] s4 (fun (r5 : Int) (s6 : Mem) =>
            ((w64 (x3 * r5)) < (w64 (x3 * r3)) →
                cut 40 [some (.inr (.inr 35)), some (.inl x1), some (.inr (.inr x2)), some (.inl x3), some (.inr (.inr 11)), some (.inl x8), some (.inr (.inl r1)), none, some (.inl (w32 (x8 + 1))), none, none] [] s6) ∧
              ((w64 (x3 * r3)) ≤ (w64 (x3 * r5)) →
                cut 40 [some (.inr (.inr 35)), some (.inl x1), some (.inr (.inr x2)), some (.inl x3), some (.inr (.inr 11)), some (.inl x5), some (.inr (.inl x6)), none, some (.inl (w32 (x8 + 1))), none, none] [] s6)))) ∧
        (¬ r1 = x6 →
          cut 40 [some (.inr (.inr 35)), some (.inl x1), some (.inr (.inr x2)), some (.inl x3), some (.inr (.inr 11)), some (.inl x5), some (.inr (.inl x6)), none, some (.inl (w32 (x8 + 1))), none, none] [] s2)))) ∧
  ((σ 7 2) ≤ x8 → Q x5 σ)) : seg none call c_B_choose false Q cut 2000 true (toPc 40 c_B_choose) [some (.inr (.inr 35)), some (.inl x1), some (.inr (.inr x2)), some (.inl x3), some (.inr (.inr 11)), some (.inl x5), some (.inr (.inl x6)), none, some (.inl x8), none, none] [] σ := h
theorem e_B_choose_40 {d : Nat} {Q : Int → Mem → Prop} {x1 : Int} {x2 : Nat} {x3 : Int} {x5 : Int} {x6 : Int} {x8 : Int} {σ : Mem} (h :
  (x8 < (σ 7 2) →
    wp d m_B_sumOf [.inr (.inr 35), .inl x1, .inr (.inr x2), .inl x8] σ (fun (r1 : Int) (s2 : Mem) =>
    (x6 < r1 → K_B_choose_40 d Q x1 x2 x3 x8 r1 (w32 (x8 + 1)) s2) ∧
      (r1 ≤ x6 →
        (r1 = x6 →
          wp d m_B_sumOf [.inr (.inr 35), .inl x1, .inr (.inr 11), .inl x8] s2 (fun (r3 : Int) (s4 : Mem) =>
          wp d m_B_sumOf [.inr (.inr 35), .inl x1, .inr (.inr 11), .inl x5] s4 (fun (r5 : Int) (s6 : Mem) =>
            ((w64 (x3 * r5)) < (w64 (x3 * r3)) → K_B_choose_40 d Q x1 x2 x3 x8 r1 (w32 (x8 + 1)) s6) ∧
              ((w64 (x3 * r3)) ≤ (w64 (x3 * r5)) → K_B_choose_40 d Q x1 x2 x3 x5 x6 (w32 (x8 + 1)) s6)))) ∧
        (¬ r1 = x6 → K_B_choose_40 d Q x1 x2 x3 x5 x6 (w32 (x8 + 1)) s2)))) ∧
  ((σ 7 2) ≤ x8 → Q x5 σ)) : K_B_choose_40 d Q x1 x2 x3 x5 x6 x8 σ := XX_intro (g_B_choose_40 (call := wp d) (cut := XX none (wp d) c_B_choose false Q) (Q := Q) (x1 := x1) (x2 := x2) (x3 := x3) (x5 := x5) (x6 := x6) (x8 := x8) (σ := σ) (h))
abbrev K_B_sumOf_16 (d : Nat) (Q : Int → Mem → Prop) (x2 : Nat) (x4 : Int) (x5 : Int) (x6 : Int) (x8 : Int) (σ : Mem) : Prop := XX none (wp d) c_B_sumOf false Q 16 [some (.inr (.inr 35)), none, some (.inr (.inr x2)), none, some (.inl x4), some (.inl x5), some (.inr (.inl x6)), none, some (.inl x8)] [] σ
theorem g_B_sumOf {call : Nat → List AV → Mem → (Int → Mem → Prop) → Prop} {cut : Nat → Lo → List AV → Mem → Prop} {Q : Int → Mem → Prop} {a1 : Int} {a2 : Nat} {a3 : Int} {σ : Mem} (h :
  cut 16 [some (.inr (.inr 35)), none, some (.inr (.inr a2)), none, some (.inl (w32 (a1 * 4))), some (.inl (w32 (a3 * 4))), some (.inr (.inl 0)), none, some (.inl 0)] [] σ) : seg none call c_B_sumOf false Q cut 2000 true (toPc 0 c_B_sumOf) [some (.inr (.inr 35)), some (.inl a1), some (.inr (.inr a2)), some (.inl a3), none, none, none, none, none] [] σ := h
theorem e_B_sumOf {d : Nat} {Q : Int → Mem → Prop} {a1 : Int} {a2 : Nat} {a3 : Int} {σ : Mem} (h :
  K_B_sumOf_16 d Q a2 (w32 (a1 * 4)) (w32 (a3 * 4)) 0 0 σ) : wp (d + 1) m_B_sumOf [.inr (.inr 35), .inl a1, .inr (.inr a2), .inl a3] σ Q := wp_in rfl (XX_intro (g_B_sumOf (call := wp d) (cut := XX none (wp d) c_B_sumOf false Q) (Q := Q) (a1 := a1) (a2 := a2) (a3 := a3) (σ := σ) (h)))
theorem g_B_sumOf_16 {call : Nat → List AV → Mem → (Int → Mem → Prop) → Prop} {cut : Nat → Lo → List AV → Mem → Prop} {Q : Int → Mem → Prop} {x2 : Nat} {x4 : Int} {x5 : Int} {x6 : Int} {x8 : Int} {σ : Mem} (h :
  (x8 < (σ 7 1) →
    (0 ≤ (w32 (x4 + x8)) ∧ (w32 (x4 + x8)) < (16 : Int)) ∧ InA x2 (w32 (x5 + x8)) ∧ cut 16 [some (.inr (.inr 35)), none, some (.inr (.inr x2)), none, some (.inl x4), some (.inl x5), some (.inr (.inl (w64 (x6 + (w64 ((σ 36 (w32 (x4 + x8)).toNat) * (σ x2 (w32 (x5 + x8)).toNat))))))), none, some (.inl (w32 (x8 + 1)))] [] σ) ∧
  ((σ 7 1) ≤ x8 → Q x6 σ)) : seg none call c_B_sumOf false Q cut 2000 true (toPc 16 c_B_sumOf) [some (.inr (.inr 35)), none, some (.inr (.inr x2)), none, some (.inl x4), some (.inl x5), some (.inr (.inl x6)), none, some (.inl x8)] [] σ := h
theorem e_B_sumOf_16 {d : Nat} {Q : Int → Mem → Prop} {x2 : Nat} {x4 : Int} {x5 : Int} {x6 : Int} {x8 : Int} {σ : Mem} (h :
  (x8 < (σ 7 1) →
    (0 ≤ (w32 (x4 + x8)) ∧ (w32 (x4 + x8)) < (16 : Int)) ∧ InA x2 (w32 (x5 + x8)) ∧ K_B_sumOf_16 d Q x2 x4 x5 (w64 (x6 + (w64 ((σ 36 (w32 (x4 + x8)).toNat) * (σ x2 (w32 (x5 + x8)).toNat))))) (w32 (x8 + 1)) σ) ∧
  ((σ 7 1) ≤ x8 → Q x6 σ)) : K_B_sumOf_16 d Q x2 x4 x5 x6 x8 σ := XX_intro (g_B_sumOf_16 (call := wp d) (cut := XX none (wp d) c_B_sumOf false Q) (Q := Q) (x2 := x2) (x4 := x4) (x5 := x5) (x6 := x6) (x8 := x8) (σ := σ) (h))
theorem g_B_outcome {call : Nat → List AV → Mem → (Int → Mem → Prop) → Prop} {cut : Nat → Lo → List AV → Mem → Prop} {Q : Int → Mem → Prop} {a1 : Int} {a2 : Nat} {a3 : Nat} {σ : Mem} (h :
  call m_B_choose [.inr (.inr 35), .inl a1, .inr (.inr a2)] σ (fun (r1 : Int) (s2 : Mem) =>
  call m_B_sumOf [.inr (.inr 35), .inl a1, .inr (.inr a3), .inl r1] s2 (fun (r3 : Int) (s4 : Mem) => Q r3 s4))) : seg none call c_B_outcome false Q cut 2000 true (toPc 0 c_B_outcome) [some (.inr (.inr 35)), some (.inl a1), some (.inr (.inr a2)), some (.inr (.inr a3))] [] σ := h
theorem e_B_outcome {d : Nat} {Q : Int → Mem → Prop} {a1 : Int} {a2 : Nat} {a3 : Nat} {σ : Mem} (h :
  wp d m_B_choose [.inr (.inr 35), .inl a1, .inr (.inr a2)] σ (fun (r1 : Int) (s2 : Mem) =>
  wp d m_B_sumOf [.inr (.inr 35), .inl a1, .inr (.inr a3), .inl r1] s2 (fun (r3 : Int) (s4 : Mem) => Q r3 s4))) : wp (d + 1) m_B_outcome [.inr (.inr 35), .inl a1, .inr (.inr a2), .inr (.inr a3)] σ Q := wp_in rfl (XX_intro (g_B_outcome (call := wp d) (cut := XX none (wp d) c_B_outcome false Q) (Q := Q) (a1 := a1) (a2 := a2) (a3 := a3) (σ := σ) (h)))
theorem g_B_brings {call : Nat → List AV → Mem → (Int → Mem → Prop) → Prop} {cut : Nat → Lo → List AV → Mem → Prop} {Q : Int → Mem → Prop} {a1 : Nat} {a2 : Nat} {σ : Mem} (h :
  call m_B_layBefore [.inr (.inr 35)] σ (fun (r1 : Int) (s2 : Mem) =>
  call m_B_gather [.inr (.inr 35), .inl 0, .inr (.inr a1), .inr (.inr a2)] s2 (fun (r3 : Int) (s4 : Mem) =>
    call m_X_wholes [.inl (w32 (3 - (s4 35 4)))] s4 (fun (r5 : Int) (s6 : Mem) => Q (w64 (r3 * r5)) s6)))) : seg none call c_B_brings false Q cut 2000 true (toPc 0 c_B_brings) [some (.inr (.inr 35)), some (.inr (.inr a1)), some (.inr (.inr a2))] [] σ := h
theorem e_B_brings {d : Nat} {Q : Int → Mem → Prop} {a1 : Nat} {a2 : Nat} {σ : Mem} (h :
  wp d m_B_layBefore [.inr (.inr 35)] σ (fun (r1 : Int) (s2 : Mem) =>
  wp d m_B_gather [.inr (.inr 35), .inl 0, .inr (.inr a1), .inr (.inr a2)] s2 (fun (r3 : Int) (s4 : Mem) =>
    wp d m_X_wholes [.inl (w32 (3 - (s4 35 4)))] s4 (fun (r5 : Int) (s6 : Mem) => Q (w64 (r3 * r5)) s6)))) : wp (d + 1) m_B_brings [.inr (.inr 35), .inr (.inr a1), .inr (.inr a2)] σ Q := wp_in rfl (XX_intro (g_B_brings (call := wp d) (cut := XX none (wp d) c_B_brings false Q) (Q := Q) (a1 := a1) (a2 := a2) (σ := σ) (h)))
abbrev K_B_gather_40 (d : Nat) (Q : Int → Mem → Prop) (x1 : Int) (x2 : Nat) (x3 : Nat) (x4 : Int) (x5 : Int) (x7 : Int) (σ : Mem) : Prop := XX none (wp d) c_B_gather false Q 40 [some (.inr (.inr 35)), some (.inl x1), some (.inr (.inr x2)), some (.inr (.inr x3)), some (.inl x4), some (.inr (.inl x5)), none, some (.inl x7)] [] σ
theorem g_B_gather {call : Nat → List AV → Mem → (Int → Mem → Prop) → Prop} {cut : Nat → Lo → List AV → Mem → Prop} {Q : Int → Mem → Prop} {a1 : Int} {a2 : Nat} {a3 : Nat} {σ : Mem} (h :
  (a1 < (σ 35 4) →
    (a1 < 3 →
      (0 ≤ a1 ∧ a1 < (3 : Int)) ∧ cut 40 [some (.inr (.inr 35)), some (.inl a1), some (.inr (.inr a2)), some (.inr (.inr a3)), some (.inl (σ 37 a1.toNat)), some (.inr (.inl 0)), none, some (.inl 0)] [] σ) ∧
    (3 ≤ a1 →
      call m_B_choose [.inr (.inr 35), .inl a1, .inr (.inr a2)] σ (fun (r5 : Int) (s6 : Mem) =>
      call m_B_sumOf [.inr (.inr 35), .inl a1, .inr (.inr a3), .inl r5] s6 (fun (r7 : Int) (s8 : Mem) => Q r7 s8)))) ∧
  ((σ 35 4) ≤ a1 →
    call m_B_choose [.inr (.inr 35), .inl a1, .inr (.inr a2)] σ (fun (r1 : Int) (s2 : Mem) =>
    call m_B_sumOf [.inr (.inr 35), .inl a1, .inr (.inr a3), .inl r1] s2 (fun (r3 : Int) (s4 : Mem) => Q r3 s4)))) : seg none call c_B_gather false Q cut 2000 true (toPc 0 c_B_gather) [some (.inr (.inr 35)), some (.inl a1), some (.inr (.inr a2)), some (.inr (.inr a3)), none, none, none, none] [] σ := h
theorem e_B_gather {d : Nat} {Q : Int → Mem → Prop} {a1 : Int} {a2 : Nat} {a3 : Nat} {σ : Mem} (h :
  (a1 < (σ 35 4) →
    (a1 < 3 → (0 ≤ a1 ∧ a1 < (3 : Int)) ∧ K_B_gather_40 d Q a1 a2 a3 (σ 37 a1.toNat) 0 0 σ) ∧
    (3 ≤ a1 →
      wp d m_B_choose [.inr (.inr 35), .inl a1, .inr (.inr a2)] σ (fun (r5 : Int) (s6 : Mem) =>
      wp d m_B_sumOf [.inr (.inr 35), .inl a1, .inr (.inr a3), .inl r5] s6 (fun (r7 : Int) (s8 : Mem) => Q r7 s8)))) ∧
  ((σ 35 4) ≤ a1 →
    wp d m_B_choose [.inr (.inr 35), .inl a1, .inr (.inr a2)] σ (fun (r1 : Int) (s2 : Mem) =>
    wp d m_B_sumOf [.inr (.inr 35), .inl a1, .inr (.inr a3), .inl r1] s2 (fun (r3 : Int) (s4 : Mem) => Q r3 s4)))) : wp (d + 1) m_B_gather [.inr (.inr 35), .inl a1, .inr (.inr a2), .inr (.inr a3)] σ Q := wp_in rfl (XX_intro (g_B_gather (call := wp d) (cut := XX none (wp d) c_B_gather false Q) (Q := Q) (a1 := a1) (a2 := a2) (a3 := a3) (σ := σ) (h)))
theorem g_B_gather_40 {call : Nat → List AV → Mem → (Int → Mem → Prop) → Prop} {cut : Nat → Lo → List AV → Mem → Prop} {Q : Int → Mem → Prop} {x1 : Int} {x2 : Nat} {x3 : Nat} {x4 : Int} {x5 : Int} {x7 : Int} {σ : Mem} (h :
  (0 ≤ x4 ∧ x4 < (12 : Int)) ∧ (x7 < (σ 13 x4.toNat) →
    call m_B_step [.inr (.inr 35), .inl x1, .inl x4, .inl x7] σ (fun (r1 : Int) (s2 : Mem) =>
    (r1 = 0 →
        cut 40 [some (.inr (.inr 35)), some (.inl x1), some (.inr (.inr x2)), some (.inr (.inr x3)), some (.inl x4), some (.inr (.inl x5)), none, some (.inl (w32 (x7 + 1)))] [] s2) ∧
      (¬ r1 = 0 →
        call m_B_gather [.inr (.inr 35), .inl (w32 (x1 + 1)), .inr (.inr x2), .inr (.inr x3)] s2 (fun (r3 : Int) (s4 : Mem) =>
        cut 40 [some (.inr (.inr 35)), some (.inl x1), some (.inr (.inr x2)), some (.inr (.inr x3)), some (.inl x4), some (.inr (.inl (w64 (x5 + r3)))), none, some (.inl (w32 (x7 + 1)))] [] s4)))) ∧
  ((σ 13 x4.toNat) ≤ x7 → Q x5 σ)) : seg none call c_B_gather false Q cut 2000 true (toPc 40 c_B_gather) [some (.inr (.inr 35)), some (.inl x1), some (.inr (.inr x2)), some (.inr (.inr x3)), some (.inl x4), some (.inr (.inl x5)), none, some (.inl x7)] [] σ := h
theorem e_B_gather_40 {d : Nat} {Q : Int → Mem → Prop} {x1 : Int} {x2 : Nat} {x3 : Nat} {x4 : Int} {x5 : Int} {x7 : Int} {σ : Mem} (h :
  (0 ≤ x4 ∧ x4 < (12 : Int)) ∧ (x7 < (σ 13 x4.toNat) →
    wp d m_B_step [.inr (.inr 35), .inl x1, .inl x4, .inl x7] σ (fun (r1 : Int) (s2 : Mem) =>
    (r1 = 0 → K_B_gather_40 d Q x1 x2 x3 x4 x5 (w32 (x7 + 1)) s2) ∧
      (¬ r1 = 0 →
        wp d m_B_gather [.inr (.inr 35), .inl (w32 (x1 + 1)), .inr (.inr x2), .inr (.inr x3)] s2 (fun (r3 : Int) (s4 : Mem) =>
        K_B_gather_40 d Q x1 x2 x3 x4 (w64 (x5 + r3)) (w32 (x7 + 1)) s4)))) ∧
  ((σ 13 x4.toNat) ≤ x7 → Q x5 σ)) : K_B_gather_40 d Q x1 x2 x3 x4 x5 x7 σ := XX_intro (g_B_gather_40 (call := wp d) (cut := XX none (wp d) c_B_gather false Q) (Q := Q) (x1 := x1) (x2 := x2) (x3 := x3) (x4 := x4) (x5 := x5) (x7 := x7) (σ := σ) (h))
theorem g_B_bestRule {call : Nat → List AV → Mem → (Int → Mem → Prop) → Prop} {cut : Nat → Lo → List AV → Mem → Prop} {Q : Int → Mem → Prop}  {σ : Mem} (h :
  call m_B_layBefore [.inr (.inr 35)] σ (fun (r1 : Int) (s2 : Mem) =>
  call m_B_stopOrGo [.inr (.inr 35), .inl 0] s2 (fun (r3 : Int) (s4 : Mem) => Q r3 s4))) : seg none call c_B_bestRule false Q cut 2000 true (toPc 0 c_B_bestRule) [some (.inr (.inr 35))] [] σ := h
theorem e_B_bestRule {d : Nat} {Q : Int → Mem → Prop}  {σ : Mem} (h :
  wp d m_B_layBefore [.inr (.inr 35)] σ (fun (r1 : Int) (s2 : Mem) =>
  wp d m_B_stopOrGo [.inr (.inr 35), .inl 0] s2 (fun (r3 : Int) (s4 : Mem) => Q r3 s4))) : wp (d + 1) m_B_bestRule [.inr (.inr 35)] σ Q := wp_in rfl (XX_intro (g_B_bestRule (call := wp d) (cut := XX none (wp d) c_B_bestRule false Q) (Q := Q)  (σ := σ) (h)))
abbrev K_B_stopOrGo_75 (d : Nat) (Q : Int → Mem → Prop) (x1 : Int) (x4 : Int) (x6 : Int) (x7 : Int) (x9 : Int) (σ : Mem) : Prop := XX none (wp d) c_B_stopOrGo false Q 75 [some (.inr (.inr 35)), some (.inl x1), none, none, some (.inr (.inl x4)), none, some (.inl x6), some (.inr (.inl x7)), none, some (.inl x9)] [] σ
theorem g_B_stopOrGo {call : Nat → List AV → Mem → (Int → Mem → Prop) → Prop} {cut : Nat → Lo → List AV → Mem → Prop} {Q : Int → Mem → Prop} {a1 : Int} {σ : Mem} (h :
  call m_X_wholes [.inl (w32 (3 - a1))] σ (fun (r1 : Int) (s2 : Mem) =>
  call m_B_outcome [.inr (.inr 35), .inl a1, .inr (.inr 10), .inr (.inr 11)] s2 (fun (r3 : Int) (s4 : Mem) =>
    (a1 < (s4 35 4) →
        (a1 < 3 →
          (0 ≤ a1 ∧ a1 < (3 : Int)) ∧ (0 ≤ a1 ∧ a1 < (3 : Int)) ∧ call m_B_mass [.inr (.inr 35), .inl a1] s4 (fun (r5 : Int) (s6 : Mem) =>
          cut 75 [some (.inr (.inr 35)), some (.inl a1), none, none, some (.inr (.inl (w64 (r3 * r1)))), none, some (.inl (s4 37 a1.toNat)), some (.inr (.inl (w64 ((w64 ((w32 (-(s4 38 a1.toNat))) * r5)) * r1)))), none, some (.inl 0)] [] s6)) ∧
        (3 ≤ a1 → Q (w64 (r3 * r1)) s4)) ∧
      ((s4 35 4) ≤ a1 → Q (w64 (r3 * r1)) s4)))) : seg none call c_B_stopOrGo false Q cut 2000 true (toPc 0 c_B_stopOrGo) [some (.inr (.inr 35)), some (.inl a1), none, none, none, none, none, none, none, none] [] σ := h
theorem e_B_stopOrGo {d : Nat} {Q : Int → Mem → Prop} {a1 : Int} {σ : Mem} (h :
  wp d m_X_wholes [.inl (w32 (3 - a1))] σ (fun (r1 : Int) (s2 : Mem) =>
  wp d m_B_outcome [.inr (.inr 35), .inl a1, .inr (.inr 10), .inr (.inr 11)] s2 (fun (r3 : Int) (s4 : Mem) =>
    (a1 < (s4 35 4) →
        (a1 < 3 →
          (0 ≤ a1 ∧ a1 < (3 : Int)) ∧ (0 ≤ a1 ∧ a1 < (3 : Int)) ∧ wp d m_B_mass [.inr (.inr 35), .inl a1] s4 (fun (r5 : Int) (s6 : Mem) =>
          K_B_stopOrGo_75 d Q a1 (w64 (r3 * r1)) (s4 37 a1.toNat) (w64 ((w64 ((w32 (-(s4 38 a1.toNat))) * r5)) * r1)) 0 s6)) ∧
        (3 ≤ a1 → Q (w64 (r3 * r1)) s4)) ∧
      ((s4 35 4) ≤ a1 → Q (w64 (r3 * r1)) s4)))) : wp (d + 1) m_B_stopOrGo [.inr (.inr 35), .inl a1] σ Q := wp_in rfl (XX_intro (g_B_stopOrGo (call := wp d) (cut := XX none (wp d) c_B_stopOrGo false Q) (Q := Q) (a1 := a1) (σ := σ) (h)))
theorem g_B_stopOrGo_75 {call : Nat → List AV → Mem → (Int → Mem → Prop) → Prop} {cut : Nat → Lo → List AV → Mem → Prop} {Q : Int → Mem → Prop} {x1 : Int} {x4 : Int} {x6 : Int} {x7 : Int} {x9 : Int} {σ : Mem} (h :
  (0 ≤ x6 ∧ x6 < (12 : Int)) ∧ (x9 < (σ 13 x6.toNat) →
    call m_B_step [.inr (.inr 35), .inl x1, .inl x6, .inl x9] σ (fun (r1 : Int) (s2 : Mem) =>
    (r1 = 0 →
        cut 75 [some (.inr (.inr 35)), some (.inl x1), none, none, some (.inr (.inl x4)), none, some (.inl x6), some (.inr (.inl x7)), none, some (.inl (w32 (x9 + 1)))] [] s2) ∧
      (¬ r1 = 0 →
        call m_B_stopOrGo [.inr (.inr 35), .inl (w32 (x1 + 1))] s2 (fun (r3 : Int) (s4 : Mem) =>
        cut 75 [some (.inr (.inr 35)), some (.inl x1), none, none, some (.inr (.inl x4)), none, some (.inl x6), some (.inr (.inl (w64 (x7 + r3)))), none, some (.inl (w32 (x9 + 1)))] [] s4)))) ∧
  ((σ 13 x6.toNat) ≤ x9 → Q (max x4 x7) σ)) : seg none call c_B_stopOrGo false Q cut 2000 true (toPc 75 c_B_stopOrGo) [some (.inr (.inr 35)), some (.inl x1), none, none, some (.inr (.inl x4)), none, some (.inl x6), some (.inr (.inl x7)), none, some (.inl x9)] [] σ := h
theorem e_B_stopOrGo_75 {d : Nat} {Q : Int → Mem → Prop} {x1 : Int} {x4 : Int} {x6 : Int} {x7 : Int} {x9 : Int} {σ : Mem} (h :
  (0 ≤ x6 ∧ x6 < (12 : Int)) ∧ (x9 < (σ 13 x6.toNat) →
    wp d m_B_step [.inr (.inr 35), .inl x1, .inl x6, .inl x9] σ (fun (r1 : Int) (s2 : Mem) =>
    (r1 = 0 → K_B_stopOrGo_75 d Q x1 x4 x6 x7 (w32 (x9 + 1)) s2) ∧
      (¬ r1 = 0 →
        wp d m_B_stopOrGo [.inr (.inr 35), .inl (w32 (x1 + 1))] s2 (fun (r3 : Int) (s4 : Mem) =>
        K_B_stopOrGo_75 d Q x1 x4 x6 (w64 (x7 + r3)) (w32 (x9 + 1)) s4)))) ∧
  ((σ 13 x6.toNat) ≤ x9 → Q (max x4 x7) σ)) : K_B_stopOrGo_75 d Q x1 x4 x6 x7 x9 σ := XX_intro (g_B_stopOrGo_75 (call := wp d) (cut := XX none (wp d) c_B_stopOrGo false Q) (Q := Q) (x1 := x1) (x4 := x4) (x6 := x6) (x7 := x7) (x9 := x9) (σ := σ) (h))
theorem g_L_hasEdge {call : Nat → List AV → Mem → (Int → Mem → Prop) → Prop} {cut : Nat → Lo → List AV → Mem → Prop} {Q : Int → Mem → Prop} {a1 : Int} {σ : Mem} (h :
  (a1 < 0 → isB 0 ∧ Q 0 σ) ∧
  (0 ≤ a1 →
    (a1 < (σ 39 8) → isB 1 ∧ Q 1 σ) ∧
    ((σ 39 8) ≤ a1 → isB 0 ∧ Q 0 σ))) : seg none call c_L_hasEdge true Q cut 2000 true (toPc 0 c_L_hasEdge) [some (.inr (.inr 39)), some (.inl a1)] [] σ := h
theorem e_L_hasEdge {d : Nat} {Q : Int → Mem → Prop} {a1 : Int} {σ : Mem} (h :
  (a1 < 0 → Q 0 σ) ∧
  (0 ≤ a1 →
    (a1 < (σ 39 8) → Q 1 σ) ∧
    ((σ 39 8) ≤ a1 → Q 0 σ))) : wp (d + 1) m_L_hasEdge [.inr (.inr 39), .inl a1] σ Q := wp_in rfl (XX_intro (g_L_hasEdge (call := wp d) (cut := XX none (wp d) c_L_hasEdge true Q) (Q := Q) (a1 := a1) (σ := σ) (⟨fun z2 => ⟨isB0, ((h).1 z2)⟩, fun z2 => ⟨fun z1 => ⟨isB1, ((((h).2 z2)).1 z1)⟩, fun z1 => ⟨isB0, ((((h).2 z2)).2 z1)⟩⟩⟩)))
abbrev K_L_survey_23 (d : Nat) (Q : Int → Mem → Prop) (x1 : Int) (x2 : Int) (σ : Mem) : Prop := XX none (wp d) c_L_survey false Q 23 [some (.inr (.inr 39)), some (.inl x1), some (.inl x2), none] [] σ
theorem g_L_survey {call : Nat → List AV → Mem → (Int → Mem → Prop) → Prop} {cut : Nat → Lo → List AV → Mem → Prop} {Q : Int → Mem → Prop}  {σ : Mem} (h :
  call m_L_findCrossings [.inr (.inr 39)] σ (fun (r1 : Int) (s2 : Mem) =>
  call m_L_mark [.inr (.inr 39), .inr (.inl 0), .inr (.inl 1)] (mset s2 39 8 0) (fun (r3 : Int) (s4 : Mem) =>
    call m_L_actBetween [.inr (.inr 39), .inl 0] s4 (fun (r5 : Int) (s6 : Mem) =>
      cut 23 [some (.inr (.inr 39)), some (.inl r5), some (.inl 1), none] [] s6)))) : seg none call c_L_survey false Q cut 2000 true (toPc 0 c_L_survey) [some (.inr (.inr 39)), none, none, none] [] σ := h
theorem e_L_survey {d : Nat} {Q : Int → Mem → Prop}  {σ : Mem} (h :
  wp d m_L_findCrossings [.inr (.inr 39)] σ (fun (r1 : Int) (s2 : Mem) =>
  wp d m_L_mark [.inr (.inr 39), .inr (.inl 0), .inr (.inl 1)] (mset s2 39 8 0) (fun (r3 : Int) (s4 : Mem) =>
    wp d m_L_actBetween [.inr (.inr 39), .inl 0] s4 (fun (r5 : Int) (s6 : Mem) => K_L_survey_23 d Q r5 1 s6)))) : wp (d + 1) m_L_survey [.inr (.inr 39)] σ Q := wp_in rfl (XX_intro (g_L_survey (call := wp d) (cut := XX none (wp d) c_L_survey false Q) (Q := Q)  (σ := σ) (h)))
theorem g_L_survey_23 {call : Nat → List AV → Mem → (Int → Mem → Prop) → Prop} {cut : Nat → Lo → List AV → Mem → Prop} {Q : Int → Mem → Prop} {x1 : Int} {x2 : Int} {σ : Mem} (h :
  (x2 < (w32 ((σ 39 4) - 1)) →
    call m_L_actBetween [.inr (.inr 39), .inl x2] σ (fun (r5 : Int) (s6 : Mem) =>
    (x1 = r5 →
        (0 ≤ x2 ∧ x2 < (34 : Int)) ∧ (0 ≤ x2 ∧ x2 < (34 : Int)) ∧ call m_L_actAt [.inr (.inr 39), .inr (.inl (s6 40 x2.toNat)), .inr (.inl (s6 41 x2.toNat))] s6 (fun (r9 : Int) (s10 : Mem) =>
        (x1 = r9 →
            cut 23 [some (.inr (.inr 39)), some (.inl r5), some (.inl (w32 (x2 + 1))), none] [] s10) ∧
          (¬ x1 = r9 →
            (0 ≤ x2 ∧ x2 < (34 : Int)) ∧ (0 ≤ x2 ∧ x2 < (34 : Int)) ∧ call m_L_mark [.inr (.inr 39), .inr (.inl (s10 40 x2.toNat)), .inr (.inl (s10 41 x2.toNat))] s10 (fun (r11 : Int) (s12 : Mem) =>
            cut 23 [some (.inr (.inr 39)), some (.inl r5), some (.inl (w32 (x2 + 1))), none] [] s12)))) ∧
      (¬ x1 = r5 →
        (0 ≤ x2 ∧ x2 < (34 : Int)) ∧ (0 ≤ x2 ∧ x2 < (34 : Int)) ∧ call m_L_mark [.inr (.inr 39), .inr (.inl (s6 40 x2.toNat)), .inr (.inl (s6 41 x2.toNat))] s6 (fun (r7 : Int) (s8 : Mem) =>
        cut 23 [some (.inr (.inr 39)), some (.inl r5), some (.inl (w32 (x2 + 1))), none] [] s8)))) ∧
  ((w32 ((σ 39 4) - 1)) ≤ x2 →
    call m_L_mark [.inr (.inr 39), .inr (.inl 1), .inr (.inl 1)] σ (fun (r1 : Int) (s2 : Mem) =>
    (0 ≤ (1 : Int) ∧ 1 < (4 : Int)) ∧ call m_L_mark [.inr (.inr 39), .inr (.inl (s2 9 1)), .inr (.inl (s2 7 6))] s2 (fun (r3 : Int) (s4 : Mem) => Q 0 (mset s4 39 8 (w32 ((s4 39 8) - 1))))))) : seg none call c_L_survey false Q cut 2000 true (toPc 23 c_L_survey) [some (.inr (.inr 39)), some (.inl x1), some (.inl x2), none] [] σ := h
theorem e_L_survey_23 {d : Nat} {Q : Int → Mem → Prop} {x1 : Int} {x2 : Int} {σ : Mem} (h :
  (x2 < (w32 ((σ 39 4) - 1)) →
    wp d m_L_actBetween [.inr (.inr 39), .inl x2] σ (fun (r5 : Int) (s6 : Mem) =>
    (x1 = r5 →
        (0 ≤ x2 ∧ x2 < (34 : Int)) ∧ (0 ≤ x2 ∧ x2 < (34 : Int)) ∧ wp d m_L_actAt [.inr (.inr 39), .inr (.inl (s6 40 x2.toNat)), .inr (.inl (s6 41 x2.toNat))] s6 (fun (r9 : Int) (s10 : Mem) =>
        (x1 = r9 → K_L_survey_23 d Q r5 (w32 (x2 + 1)) s10) ∧
          (¬ x1 = r9 →
            (0 ≤ x2 ∧ x2 < (34 : Int)) ∧ (0 ≤ x2 ∧ x2 < (34 : Int)) ∧ wp d m_L_mark [.inr (.inr 39), .inr (.inl (s10 40 x2.toNat)), .inr (.inl (s10 41 x2.toNat))] s10 (fun (r11 : Int) (s12 : Mem) => K_L_survey_23 d Q r5 (w32 (x2 + 1)) s12)))) ∧
      (¬ x1 = r5 →
        (0 ≤ x2 ∧ x2 < (34 : Int)) ∧ (0 ≤ x2 ∧ x2 < (34 : Int)) ∧ wp d m_L_mark [.inr (.inr 39), .inr (.inl (s6 40 x2.toNat)), .inr (.inl (s6 41 x2.toNat))] s6 (fun (r7 : Int) (s8 : Mem) => K_L_survey_23 d Q r5 (w32 (x2 + 1)) s8)))) ∧
  ((w32 ((σ 39 4) - 1)) ≤ x2 →
    wp d m_L_mark [.inr (.inr 39), .inr (.inl 1), .inr (.inl 1)] σ (fun (r1 : Int) (s2 : Mem) =>
    wp d m_L_mark [.inr (.inr 39), .inr (.inl (s2 9 1)), .inr (.inl (s2 7 6))] s2 (fun (r3 : Int) (s4 : Mem) => Q 0 (mset s4 39 8 (w32 ((s4 39 8) - 1))))))) : K_L_survey_23 d Q x1 x2 σ := XX_intro (g_L_survey_23 (call := wp d) (cut := XX none (wp d) c_L_survey false Q) (Q := Q) (x1 := x1) (x2 := x2) (σ := σ) (⟨fun z2 => (h).1 z2, fun z2 => wp_conseq (fun _ _ z1 => ⟨⟨by decide, by decide⟩, z1⟩) (((h).2 z2))⟩))
theorem g_L_mark {call : Nat → List AV → Mem → (Int → Mem → Prop) → Prop} {cut : Nat → Lo → List AV → Mem → Prop} {Q : Int → Mem → Prop} {a1 : Int} {a2 : Int} {σ : Mem} (h :
  ((σ 39 8) < 34 →
    (0 ≤ (σ 39 8) ∧ (σ 39 8) < (34 : Int)) ∧ (0 ≤ ((mset σ 42 (σ 39 8).toNat a1) 39 8) ∧ ((mset σ 42 (σ 39 8).toNat a1) 39 8) < (34 : Int)) ∧ call m_L_actAt [.inr (.inr 39), .inr (.inl a1), .inr (.inl a2)] (mset (mset σ 42 (σ 39 8).toNat a1) 43 ((mset σ 42 (σ 39 8).toNat a1) 39 8).toNat a2) (fun (r1 : Int) (s2 : Mem) =>
    call m_B_sumOf [.inr (.inr 35), .inl 0, .inr (.inr 11), .inl r1] s2 (fun (r3 : Int) (s4 : Mem) =>
      (0 ≤ ((mset (mset σ 42 (σ 39 8).toNat a1) 43 ((mset σ 42 (σ 39 8).toNat a1) 39 8).toNat a2) 39 8) ∧ ((mset (mset σ 42 (σ 39 8).toNat a1) 43 ((mset σ 42 (σ 39 8).toNat a1) 39 8).toNat a2) 39 8) < (34 : Int)) ∧ Q 0 (mset (mset s4 44 ((mset (mset σ 42 (σ 39 8).toNat a1) 43 ((mset σ 42 (σ 39 8).toNat a1) 39 8).toNat a2) 39 8).toNat r3) 39 8 (w32 (((mset s4 44 ((mset (mset σ 42 (σ 39 8).toNat a1) 43 ((mset σ 42 (σ 39 8).toNat a1) 39 8).toNat a2) 39 8).toNat r3) 39 8) + 1)))))) ∧
  (34 ≤ (σ 39 8) → Q 0 σ)) : seg none call c_L_mark false Q cut 2000 true (toPc 0 c_L_mark) [some (.inr (.inr 39)), some (.inr (.inl a1)), none, some (.inr (.inl a2)), none] [] σ := h
theorem e_L_mark {d : Nat} {Q : Int → Mem → Prop} {a1 : Int} {a2 : Int} {σ : Mem} (h :
  ((σ 39 8) < 34 →
    (0 ≤ (σ 39 8) ∧ (σ 39 8) < (34 : Int)) ∧ (0 ≤ ((mset σ 42 (σ 39 8).toNat a1) 39 8) ∧ ((mset σ 42 (σ 39 8).toNat a1) 39 8) < (34 : Int)) ∧ wp d m_L_actAt [.inr (.inr 39), .inr (.inl a1), .inr (.inl a2)] (mset (mset σ 42 (σ 39 8).toNat a1) 43 ((mset σ 42 (σ 39 8).toNat a1) 39 8).toNat a2) (fun (r1 : Int) (s2 : Mem) =>
    wp d m_B_sumOf [.inr (.inr 35), .inl 0, .inr (.inr 11), .inl r1] s2 (fun (r3 : Int) (s4 : Mem) =>
      (0 ≤ ((mset (mset σ 42 (σ 39 8).toNat a1) 43 ((mset σ 42 (σ 39 8).toNat a1) 39 8).toNat a2) 39 8) ∧ ((mset (mset σ 42 (σ 39 8).toNat a1) 43 ((mset σ 42 (σ 39 8).toNat a1) 39 8).toNat a2) 39 8) < (34 : Int)) ∧ Q 0 (mset (mset s4 44 ((mset (mset σ 42 (σ 39 8).toNat a1) 43 ((mset σ 42 (σ 39 8).toNat a1) 39 8).toNat a2) 39 8).toNat r3) 39 8 (w32 (((mset s4 44 ((mset (mset σ 42 (σ 39 8).toNat a1) 43 ((mset σ 42 (σ 39 8).toNat a1) 39 8).toNat a2) 39 8).toNat r3) 39 8) + 1)))))) ∧
  (34 ≤ (σ 39 8) → Q 0 σ)) : wp (d + 1) m_L_mark [.inr (.inr 39), .inr (.inl a1), .inr (.inl a2)] σ Q := wp_in rfl (XX_intro (g_L_mark (call := wp d) (cut := XX none (wp d) c_L_mark false Q) (Q := Q) (a1 := a1) (a2 := a2) (σ := σ) (h)))
theorem g_L_actBetween {call : Nat → List AV → Mem → (Int → Mem → Prop) → Prop} {cut : Nat → Lo → List AV → Mem → Prop} {Q : Int → Mem → Prop} {a1 : Int} {σ : Mem} (h :
  (a1 < 0 → Q 0 σ) ∧
  (0 ≤ a1 →
    ((w32 (a1 + 1)) < (σ 39 4) →
      (0 ≤ a1 ∧ a1 < (34 : Int)) ∧ (0 ≤ (w32 (a1 + 1)) ∧ (w32 (a1 + 1)) < (34 : Int)) ∧ (0 ≤ (w32 (a1 + 1)) ∧ (w32 (a1 + 1)) < (34 : Int)) ∧ (0 ≤ a1 ∧ a1 < (34 : Int)) ∧ (0 ≤ a1 ∧ a1 < (34 : Int)) ∧ (0 ≤ (w32 (a1 + 1)) ∧ (w32 (a1 + 1)) < (34 : Int)) ∧ call m_L_actAt [.inr (.inr 39), .inr (.inl (w64 ((w64 ((σ 40 a1.toNat) * (σ 41 (w32 (a1 + 1)).toNat))) + (w64 ((σ 40 (w32 (a1 + 1)).toNat) * (σ 41 a1.toNat)))))), .inr (.inl (w64 ((w64 (2 * (σ 41 a1.toNat))) * (σ 41 (w32 (a1 + 1)).toNat))))] σ (fun (r1 : Int) (s2 : Mem) => Q r1 s2)) ∧
    ((σ 39 4) ≤ (w32 (a1 + 1)) → Q 0 σ))) : seg none call c_L_actBetween false Q cut 2000 true (toPc 0 c_L_actBetween) [some (.inr (.inr 39)), some (.inl a1), none, none] [] σ := h
theorem e_L_actBetween {d : Nat} {Q : Int → Mem → Prop} {a1 : Int} {σ : Mem} (h :
  (a1 < 0 → Q 0 σ) ∧
  (0 ≤ a1 →
    ((w32 (a1 + 1)) < (σ 39 4) →
      (0 ≤ a1 ∧ a1 < (34 : Int)) ∧ (0 ≤ (w32 (a1 + 1)) ∧ (w32 (a1 + 1)) < (34 : Int)) ∧ (0 ≤ (w32 (a1 + 1)) ∧ (w32 (a1 + 1)) < (34 : Int)) ∧ (0 ≤ a1 ∧ a1 < (34 : Int)) ∧ (0 ≤ a1 ∧ a1 < (34 : Int)) ∧ (0 ≤ (w32 (a1 + 1)) ∧ (w32 (a1 + 1)) < (34 : Int)) ∧ wp d m_L_actAt [.inr (.inr 39), .inr (.inl (w64 ((w64 ((σ 40 a1.toNat) * (σ 41 (w32 (a1 + 1)).toNat))) + (w64 ((σ 40 (w32 (a1 + 1)).toNat) * (σ 41 a1.toNat)))))), .inr (.inl (w64 ((w64 (2 * (σ 41 a1.toNat))) * (σ 41 (w32 (a1 + 1)).toNat))))] σ (fun (r1 : Int) (s2 : Mem) => Q r1 s2)) ∧
    ((σ 39 4) ≤ (w32 (a1 + 1)) → Q 0 σ))) : wp (d + 1) m_L_actBetween [.inr (.inr 39), .inl a1] σ Q := wp_in rfl (XX_intro (g_L_actBetween (call := wp d) (cut := XX none (wp d) c_L_actBetween false Q) (Q := Q) (a1 := a1) (σ := σ) (h)))
theorem g_L_actAt {call : Nat → List AV → Mem → (Int → Mem → Prop) → Prop} {cut : Nat → Lo → List AV → Mem → Prop} {Q : Int → Mem → Prop} {a1 : Int} {a2 : Int} {σ : Mem} (h :
  call m_B_lay [.inr (.inr 35), .inr (.inl (w64 (a2 - a1))), .inr (.inl a1), .inr (.inl 0), .inr (.inl 0)] σ (fun (r1 : Int) (s2 : Mem) =>
  call m_B_choose [.inr (.inr 35), .inl 0, .inr (.inr 10)] s2 (fun (r3 : Int) (s4 : Mem) => Q r3 s4))) : seg none call c_L_actAt false Q cut 2000 true (toPc 0 c_L_actAt) [some (.inr (.inr 39)), some (.inr (.inl a1)), none, some (.inr (.inl a2)), none] [] σ := h
theorem e_L_actAt {d : Nat} {Q : Int → Mem → Prop} {a1 : Int} {a2 : Int} {σ : Mem} (h :
  wp d m_B_lay [.inr (.inr 35), .inr (.inl (w64 (a2 - a1))), .inr (.inl a1), .inr (.inl 0), .inr (.inl 0)] σ (fun (r1 : Int) (s2 : Mem) =>
  wp d m_B_choose [.inr (.inr 35), .inl 0, .inr (.inr 10)] s2 (fun (r3 : Int) (s4 : Mem) => Q r3 s4))) : wp (d + 1) m_L_actAt [.inr (.inr 39), .inr (.inl a1), .inr (.inl a2)] σ Q := wp_in rfl (XX_intro (g_L_actAt (call := wp d) (cut := XX none (wp d) c_L_actAt false Q) (Q := Q) (a1 := a1) (a2 := a2) (σ := σ) (h)))
abbrev K_L_findCrossings_19 (d : Nat) (Q : Int → Mem → Prop) (x1 : Int) (σ : Mem) : Prop := XX none (wp d) c_L_findCrossings false Q 19 [some (.inr (.inr 39)), some (.inl x1), none] [] σ
abbrev K_L_findCrossings_34 (d : Nat) (Q : Int → Mem → Prop) (x1 : Int) (x2 : Int) (σ : Mem) : Prop := XX none (wp d) c_L_findCrossings false Q 34 [some (.inr (.inr 39)), some (.inl x1), some (.inl x2)] [] σ
theorem g_L_findCrossings {call : Nat → List AV → Mem → (Int → Mem → Prop) → Prop} {cut : Nat → Lo → List AV → Mem → Prop} {Q : Int → Mem → Prop}  {σ : Mem} (h :
  call m_L_cross [.inr (.inr 39), .inr (.inl 0), .inr (.inl 1)] (mset σ 39 4 0) (fun (r1 : Int) (s2 : Mem) =>
  call m_L_cross [.inr (.inr 39), .inr (.inl 1), .inr (.inl 1)] s2 (fun (r3 : Int) (s4 : Mem) => cut 19 [some (.inr (.inr 39)), some (.inl 0), none] [] s4))) : seg none call c_L_findCrossings false Q cut 2000 true (toPc 0 c_L_findCrossings) [some (.inr (.inr 39)), none, none] [] σ := h
theorem e_L_findCrossings {d : Nat} {Q : Int → Mem → Prop}  {σ : Mem} (h :
  wp d m_L_cross [.inr (.inr 39), .inr (.inl 0), .inr (.inl 1)] (mset σ 39 4 0) (fun (r1 : Int) (s2 : Mem) =>
  wp d m_L_cross [.inr (.inr 39), .inr (.inl 1), .inr (.inl 1)] s2 (fun (r3 : Int) (s4 : Mem) => K_L_findCrossings_19 d Q 0 s4))) : wp (d + 1) m_L_findCrossings [.inr (.inr 39)] σ Q := wp_in rfl (XX_intro (g_L_findCrossings (call := wp d) (cut := XX none (wp d) c_L_findCrossings false Q) (Q := Q)  (σ := σ) (h)))
theorem g_L_findCrossings_19 {call : Nat → List AV → Mem → (Int → Mem → Prop) → Prop} {cut : Nat → Lo → List AV → Mem → Prop} {Q : Int → Mem → Prop} {x1 : Int} {σ : Mem} (h :
  (x1 < (σ 7 2) → cut 34 [some (.inr (.inr 39)), some (.inl x1), some (.inl (w32 (x1 + 1)))] [] σ) ∧
  ((σ 7 2) ≤ x1 → Q 0 σ)) : seg none call c_L_findCrossings false Q cut 2000 true (toPc 19 c_L_findCrossings) [some (.inr (.inr 39)), some (.inl x1), none] [] σ := h
theorem e_L_findCrossings_19 {d : Nat} {Q : Int → Mem → Prop} {x1 : Int} {σ : Mem} (h :
  (x1 < (σ 7 2) → K_L_findCrossings_34 d Q x1 (w32 (x1 + 1)) σ) ∧
  ((σ 7 2) ≤ x1 → Q 0 σ)) : K_L_findCrossings_19 d Q x1 σ := XX_intro (g_L_findCrossings_19 (call := wp d) (cut := XX none (wp d) c_L_findCrossings false Q) (Q := Q) (x1 := x1) (σ := σ) (h))
theorem g_L_findCrossings_34 {call : Nat → List AV → Mem → (Int → Mem → Prop) → Prop} {cut : Nat → Lo → List AV → Mem → Prop} {Q : Int → Mem → Prop} {x1 : Int} {x2 : Int} {σ : Mem} (h :
  (x2 < (σ 7 2) →
    call m_L_crossActs [.inr (.inr 39), .inr (.inr 10), .inl x1, .inl x2] σ (fun (r1 : Int) (s2 : Mem) =>
    call m_L_crossActs [.inr (.inr 39), .inr (.inr 11), .inl x1, .inl x2] s2 (fun (r3 : Int) (s4 : Mem) =>
      cut 34 [some (.inr (.inr 39)), some (.inl x1), some (.inl (w32 (x2 + 1)))] [] s4))) ∧
  ((σ 7 2) ≤ x2 → cut 19 [some (.inr (.inr 39)), some (.inl (w32 (x1 + 1))), none] [] σ)) : seg none call c_L_findCrossings false Q cut 2000 true (toPc 34 c_L_findCrossings) [some (.inr (.inr 39)), some (.inl x1), some (.inl x2)] [] σ := h
theorem e_L_findCrossings_34 {d : Nat} {Q : Int → Mem → Prop} {x1 : Int} {x2 : Int} {σ : Mem} (h :
  (x2 < (σ 7 2) →
    wp d m_L_crossActs [.inr (.inr 39), .inr (.inr 10), .inl x1, .inl x2] σ (fun (r1 : Int) (s2 : Mem) =>
    wp d m_L_crossActs [.inr (.inr 39), .inr (.inr 11), .inl x1, .inl x2] s2 (fun (r3 : Int) (s4 : Mem) => K_L_findCrossings_34 d Q x1 (w32 (x2 + 1)) s4))) ∧
  ((σ 7 2) ≤ x2 → K_L_findCrossings_19 d Q (w32 (x1 + 1)) σ)) : K_L_findCrossings_34 d Q x1 x2 σ := XX_intro (g_L_findCrossings_34 (call := wp d) (cut := XX none (wp d) c_L_findCrossings false Q) (Q := Q) (x1 := x1) (x2 := x2) (σ := σ) (h))
theorem g_L_crossActs {call : Nat → List AV → Mem → (Int → Mem → Prop) → Prop} {cut : Nat → Lo → List AV → Mem → Prop} {Q : Int → Mem → Prop} {a1 : Nat} {a2 : Int} {a3 : Int} {σ : Mem} (h :
  InA a1 (w32 (a2 * 4)) ∧ InA a1 (w32 (a3 * 4)) ∧ InA a1 (w32 ((w32 (a2 * 4)) + 1)) ∧ InA a1 (w32 ((w32 (a3 * 4)) + 1)) ∧ ((w64 ((w32 ((σ a1 (w32 (a2 * 4)).toNat) - (σ a1 (w32 (a3 * 4)).toNat))) * (w32 ((σ a1 (w32 ((w32 (a2 * 4)) + 1)).toNat) - (σ a1 (w32 ((w32 (a3 * 4)) + 1)).toNat))))) < 0 →
    call m_L_cross [.inr (.inr 39), .inr (.inl (w64 ((w32 ((σ a1 (w32 (a2 * 4)).toNat) - (σ a1 (w32 (a3 * 4)).toNat))).natAbs : Int))), .inr (.inl (w64 ((w64 ((w32 ((σ a1 (w32 (a2 * 4)).toNat) - (σ a1 (w32 (a3 * 4)).toNat))).natAbs : Int)) + (w64 ((w32 ((σ a1 (w32 ((w32 (a2 * 4)) + 1)).toNat) - (σ a1 (w32 ((w32 (a3 * 4)) + 1)).toNat))).natAbs : Int)))))] σ (fun (r1 : Int) (s2 : Mem) => Q 0 s2)) ∧
  (0 ≤ (w64 ((w32 ((σ a1 (w32 (a2 * 4)).toNat) - (σ a1 (w32 (a3 * 4)).toNat))) * (w32 ((σ a1 (w32 ((w32 (a2 * 4)) + 1)).toNat) - (σ a1 (w32 ((w32 (a3 * 4)) + 1)).toNat))))) → Q 0 σ)) : seg none call c_L_crossActs false Q cut 2000 true (toPc 0 c_L_crossActs) [some (.inr (.inr 39)), some (.inr (.inr a1)), some (.inl a2), some (.inl a3), none, none, none, none] [] σ := h
theorem e_L_crossActs {d : Nat} {Q : Int → Mem → Prop} {a1 : Nat} {a2 : Int} {a3 : Int} {σ : Mem} (h :
  InA a1 (w32 (a2 * 4)) ∧ InA a1 (w32 (a3 * 4)) ∧ InA a1 (w32 ((w32 (a2 * 4)) + 1)) ∧ InA a1 (w32 ((w32 (a3 * 4)) + 1)) ∧ ((w64 ((w32 ((σ a1 (w32 (a2 * 4)).toNat) - (σ a1 (w32 (a3 * 4)).toNat))) * (w32 ((σ a1 (w32 ((w32 (a2 * 4)) + 1)).toNat) - (σ a1 (w32 ((w32 (a3 * 4)) + 1)).toNat))))) < 0 →
    wp d m_L_cross [.inr (.inr 39), .inr (.inl (w64 ((w32 ((σ a1 (w32 (a2 * 4)).toNat) - (σ a1 (w32 (a3 * 4)).toNat))).natAbs : Int))), .inr (.inl (w64 ((w64 ((w32 ((σ a1 (w32 (a2 * 4)).toNat) - (σ a1 (w32 (a3 * 4)).toNat))).natAbs : Int)) + (w64 ((w32 ((σ a1 (w32 ((w32 (a2 * 4)) + 1)).toNat) - (σ a1 (w32 ((w32 (a3 * 4)) + 1)).toNat))).natAbs : Int)))))] σ (fun (r1 : Int) (s2 : Mem) => Q 0 s2)) ∧
  (0 ≤ (w64 ((w32 ((σ a1 (w32 (a2 * 4)).toNat) - (σ a1 (w32 (a3 * 4)).toNat))) * (w32 ((σ a1 (w32 ((w32 (a2 * 4)) + 1)).toNat) - (σ a1 (w32 ((w32 (a3 * 4)) + 1)).toNat))))) → Q 0 σ)) : wp (d + 1) m_L_crossActs [.inr (.inr 39), .inr (.inr a1), .inl a2, .inl a3] σ Q := wp_in rfl (XX_intro (g_L_crossActs (call := wp d) (cut := XX none (wp d) c_L_crossActs false Q) (Q := Q) (a1 := a1) (a2 := a2) (a3 := a3) (σ := σ) (h)))
abbrev K_L_cross_3 (d : Nat) (Q : Int → Mem → Prop) (x1 : Int) (x3 : Int) (x5 : Int) (σ : Mem) : Prop := XX none (wp d) c_L_cross false Q 3 [some (.inr (.inr 39)), some (.inr (.inl x1)), none, some (.inr (.inl x3)), none, some (.inl x5), none] [] σ
abbrev K_L_cross_88 (d : Nat) (Q : Int → Mem → Prop) (x1 : Int) (x3 : Int) (x5 : Int) (x6 : Int) (σ : Mem) : Prop := XX none (wp d) c_L_cross false Q 88 [some (.inr (.inr 39)), some (.inr (.inl x1)), none, some (.inr (.inl x3)), none, some (.inl x5), some (.inl x6)] [] σ
theorem g_L_cross {call : Nat → List AV → Mem → (Int → Mem → Prop) → Prop} {cut : Nat → Lo → List AV → Mem → Prop} {Q : Int → Mem → Prop} {a1 : Int} {a2 : Int} {σ : Mem} (h :
  cut 3 [some (.inr (.inr 39)), some (.inr (.inl a1)), none, some (.inr (.inl a2)), none, some (.inl 0), none] [] σ) : seg none call c_L_cross false Q cut 2000 true (toPc 0 c_L_cross) [some (.inr (.inr 39)), some (.inr (.inl a1)), none, some (.inr (.inl a2)), none, none, none] [] σ := h
theorem e_L_cross {d : Nat} {Q : Int → Mem → Prop} {a1 : Int} {a2 : Int} {σ : Mem} (h :
  K_L_cross_3 d Q a1 a2 0 σ) : wp (d + 1) m_L_cross [.inr (.inr 39), .inr (.inl a1), .inr (.inl a2)] σ Q := wp_in rfl (XX_intro (g_L_cross (call := wp d) (cut := XX none (wp d) c_L_cross false Q) (Q := Q) (a1 := a1) (a2 := a2) (σ := σ) (h)))
theorem g_L_cross_3 {call : Nat → List AV → Mem → (Int → Mem → Prop) → Prop} {cut : Nat → Lo → List AV → Mem → Prop} {Q : Int → Mem → Prop} {x1 : Int} {x3 : Int} {x5 : Int} {σ : Mem} (h :
  (x5 < (σ 39 4) →
    (0 ≤ x5 ∧ x5 < (34 : Int)) ∧ (0 ≤ x5 ∧ x5 < (34 : Int)) ∧ ((w64 ((σ 40 x5.toNat) * x3)) < (w64 (x1 * (σ 41 x5.toNat))) →
      cut 3 [some (.inr (.inr 39)), some (.inr (.inl x1)), none, some (.inr (.inl x3)), none, some (.inl (w32 (x5 + 1))), none] [] σ) ∧
    ((w64 (x1 * (σ 41 x5.toNat))) ≤ (w64 ((σ 40 x5.toNat) * x3)) →
      (x5 < (σ 39 4) →
        (0 ≤ x5 ∧ x5 < (34 : Int)) ∧ (0 ≤ x5 ∧ x5 < (34 : Int)) ∧ ((w64 ((σ 40 x5.toNat) * x3)) = (w64 (x1 * (σ 41 x5.toNat))) → Q 0 σ) ∧
        (¬ (w64 ((σ 40 x5.toNat) * x3)) = (w64 (x1 * (σ 41 x5.toNat))) →
          ((σ 39 4) < 34 →
            cut 88 [some (.inr (.inr 39)), some (.inr (.inl x1)), none, some (.inr (.inl x3)), none, some (.inl x5), some (.inl (σ 39 4))] [] σ) ∧
          (34 ≤ (σ 39 4) → Q 0 σ))) ∧
      ((σ 39 4) ≤ x5 →
        ((σ 39 4) < 34 →
          cut 88 [some (.inr (.inr 39)), some (.inr (.inl x1)), none, some (.inr (.inl x3)), none, some (.inl x5), some (.inl (σ 39 4))] [] σ) ∧
        (34 ≤ (σ 39 4) → Q 0 σ)))) ∧
  ((σ 39 4) ≤ x5 →
    (x5 < (σ 39 4) →
      (0 ≤ x5 ∧ x5 < (34 : Int)) ∧ (0 ≤ x5 ∧ x5 < (34 : Int)) ∧ ((w64 ((σ 40 x5.toNat) * x3)) = (w64 (x1 * (σ 41 x5.toNat))) → Q 0 σ) ∧
      (¬ (w64 ((σ 40 x5.toNat) * x3)) = (w64 (x1 * (σ 41 x5.toNat))) →
        ((σ 39 4) < 34 →
          cut 88 [some (.inr (.inr 39)), some (.inr (.inl x1)), none, some (.inr (.inl x3)), none, some (.inl x5), some (.inl (σ 39 4))] [] σ) ∧
        (34 ≤ (σ 39 4) → Q 0 σ))) ∧
    ((σ 39 4) ≤ x5 →
      ((σ 39 4) < 34 →
        cut 88 [some (.inr (.inr 39)), some (.inr (.inl x1)), none, some (.inr (.inl x3)), none, some (.inl x5), some (.inl (σ 39 4))] [] σ) ∧
      (34 ≤ (σ 39 4) → Q 0 σ)))) : seg none call c_L_cross false Q cut 2000 true (toPc 3 c_L_cross) [some (.inr (.inr 39)), some (.inr (.inl x1)), none, some (.inr (.inl x3)), none, some (.inl x5), none] [] σ := h
theorem e_L_cross_3 {d : Nat} {Q : Int → Mem → Prop} {x1 : Int} {x3 : Int} {x5 : Int} {σ : Mem} (h :
  (x5 < (σ 39 4) →
    (0 ≤ x5 ∧ x5 < (34 : Int)) ∧ (0 ≤ x5 ∧ x5 < (34 : Int)) ∧ ((w64 ((σ 40 x5.toNat) * x3)) < (w64 (x1 * (σ 41 x5.toNat))) → K_L_cross_3 d Q x1 x3 (w32 (x5 + 1)) σ) ∧
    ((w64 (x1 * (σ 41 x5.toNat))) ≤ (w64 ((σ 40 x5.toNat) * x3)) →
      (x5 < (σ 39 4) →
        (0 ≤ x5 ∧ x5 < (34 : Int)) ∧ (0 ≤ x5 ∧ x5 < (34 : Int)) ∧ ((w64 ((σ 40 x5.toNat) * x3)) = (w64 (x1 * (σ 41 x5.toNat))) → Q 0 σ) ∧
        (¬ (w64 ((σ 40 x5.toNat) * x3)) = (w64 (x1 * (σ 41 x5.toNat))) →
          ((σ 39 4) < 34 → K_L_cross_88 d Q x1 x3 x5 (σ 39 4) σ) ∧
          (34 ≤ (σ 39 4) → Q 0 σ))) ∧
      ((σ 39 4) ≤ x5 →
        ((σ 39 4) < 34 → K_L_cross_88 d Q x1 x3 x5 (σ 39 4) σ) ∧
        (34 ≤ (σ 39 4) → Q 0 σ)))) ∧
  ((σ 39 4) ≤ x5 →
    (x5 < (σ 39 4) →
      (0 ≤ x5 ∧ x5 < (34 : Int)) ∧ (0 ≤ x5 ∧ x5 < (34 : Int)) ∧ ((w64 ((σ 40 x5.toNat) * x3)) = (w64 (x1 * (σ 41 x5.toNat))) → Q 0 σ) ∧
      (¬ (w64 ((σ 40 x5.toNat) * x3)) = (w64 (x1 * (σ 41 x5.toNat))) →
        ((σ 39 4) < 34 → K_L_cross_88 d Q x1 x3 x5 (σ 39 4) σ) ∧
        (34 ≤ (σ 39 4) → Q 0 σ))) ∧
    ((σ 39 4) ≤ x5 →
      ((σ 39 4) < 34 → K_L_cross_88 d Q x1 x3 x5 (σ 39 4) σ) ∧
      (34 ≤ (σ 39 4) → Q 0 σ)))) : K_L_cross_3 d Q x1 x3 x5 σ := XX_intro (g_L_cross_3 (call := wp d) (cut := XX none (wp d) c_L_cross false Q) (Q := Q) (x1 := x1) (x3 := x3) (x5 := x5) (σ := σ) (h))
theorem g_L_cross_88 {call : Nat → List AV → Mem → (Int → Mem → Prop) → Prop} {cut : Nat → Lo → List AV → Mem → Prop} {Q : Int → Mem → Prop} {x1 : Int} {x3 : Int} {x5 : Int} {x6 : Int} {σ : Mem} (h :
  (x5 < x6 →
    (0 ≤ (w32 (x6 - 1)) ∧ (w32 (x6 - 1)) < (34 : Int)) ∧ (0 ≤ x6 ∧ x6 < (34 : Int)) ∧ (0 ≤ (w32 (x6 - 1)) ∧ (w32 (x6 - 1)) < (34 : Int)) ∧ (0 ≤ x6 ∧ x6 < (34 : Int)) ∧ cut 88 [some (.inr (.inr 39)), some (.inr (.inl x1)), none, some (.inr (.inl x3)), none, some (.inl x5), some (.inl (w32 (x6 + (-1))))] [] (mset (mset σ 40 x6.toNat (σ 40 (w32 (x6 - 1)).toNat)) 41 x6.toNat ((mset σ 40 x6.toNat (σ 40 (w32 (x6 - 1)).toNat)) 41 (w32 (x6 - 1)).toNat))) ∧
  (x6 ≤ x5 →
    (0 ≤ x5 ∧ x5 < (34 : Int)) ∧ (0 ≤ x5 ∧ x5 < (34 : Int)) ∧ Q 0 (mset (mset (mset σ 40 x5.toNat x1) 41 x5.toNat x3) 39 4 (w32 (((mset (mset σ 40 x5.toNat x1) 41 x5.toNat x3) 39 4) + 1))))) : seg none call c_L_cross false Q cut 2000 true (toPc 88 c_L_cross) [some (.inr (.inr 39)), some (.inr (.inl x1)), none, some (.inr (.inl x3)), none, some (.inl x5), some (.inl x6)] [] σ := h
theorem e_L_cross_88 {d : Nat} {Q : Int → Mem → Prop} {x1 : Int} {x3 : Int} {x5 : Int} {x6 : Int} {σ : Mem} (h :
  (x5 < x6 →
    (0 ≤ (w32 (x6 - 1)) ∧ (w32 (x6 - 1)) < (34 : Int)) ∧ (0 ≤ x6 ∧ x6 < (34 : Int)) ∧ (0 ≤ (w32 (x6 - 1)) ∧ (w32 (x6 - 1)) < (34 : Int)) ∧ (0 ≤ x6 ∧ x6 < (34 : Int)) ∧ K_L_cross_88 d Q x1 x3 x5 (w32 (x6 + (-1))) (mset (mset σ 40 x6.toNat (σ 40 (w32 (x6 - 1)).toNat)) 41 x6.toNat ((mset σ 40 x6.toNat (σ 40 (w32 (x6 - 1)).toNat)) 41 (w32 (x6 - 1)).toNat))) ∧
  (x6 ≤ x5 →
    (0 ≤ x5 ∧ x5 < (34 : Int)) ∧ (0 ≤ x5 ∧ x5 < (34 : Int)) ∧ Q 0 (mset (mset (mset σ 40 x5.toNat x1) 41 x5.toNat x3) 39 4 (w32 (((mset (mset σ 40 x5.toNat x1) 41 x5.toNat x3) 39 4) + 1))))) : K_L_cross_88 d Q x1 x3 x5 x6 σ := XX_intro (g_L_cross_88 (call := wp d) (cut := XX none (wp d) c_L_cross false Q) (Q := Q) (x1 := x1) (x3 := x3) (x5 := x5) (x6 := x6) (σ := σ) (h))
theorem g_L_order {call : Nat → List AV → Mem → (Int → Mem → Prop) → Prop} {cut : Nat → Lo → List AV → Mem → Prop} {Q : Int → Mem → Prop} {a1 : Int} {a2 : Int} {σ : Mem} (h :
  (0 ≤ a1 ∧ a1 < (34 : Int)) ∧ (0 ≤ a2 ∧ a2 < (34 : Int)) ∧ (0 ≤ a2 ∧ a2 < (34 : Int)) ∧ (0 ≤ a1 ∧ a1 < (34 : Int)) ∧ Q (w64 ((w64 ((σ 42 a1.toNat) * (σ 43 a2.toNat))) - (w64 ((σ 42 a2.toNat) * (σ 43 a1.toNat))))) σ) : seg none call c_L_order false Q cut 2000 true (toPc 0 c_L_order) [some (.inr (.inr 39)), some (.inl a1), some (.inl a2)] [] σ := h
theorem e_L_order {d : Nat} {Q : Int → Mem → Prop} {a1 : Int} {a2 : Int} {σ : Mem} (h :
  (0 ≤ a1 ∧ a1 < (34 : Int)) ∧ (0 ≤ a2 ∧ a2 < (34 : Int)) ∧ (0 ≤ a2 ∧ a2 < (34 : Int)) ∧ (0 ≤ a1 ∧ a1 < (34 : Int)) ∧ Q (w64 ((w64 ((σ 42 a1.toNat) * (σ 43 a2.toNat))) - (w64 ((σ 42 a2.toNat) * (σ 43 a1.toNat))))) σ) : wp (d + 1) m_L_order [.inr (.inr 39), .inl a1, .inl a2] σ Q := wp_in rfl (XX_intro (g_L_order (call := wp d) (cut := XX none (wp d) c_L_order false Q) (Q := Q) (a1 := a1) (a2 := a2) (σ := σ) (h)))
theorem g_L_bridgeAbove {call : Nat → List AV → Mem → (Int → Mem → Prop) → Prop} {cut : Nat → Lo → List AV → Mem → Prop} {Q : Int → Mem → Prop} {a1 : Int} {a2 : Int} {a3 : Int} {σ : Mem} (h :
  (0 ≤ a1 ∧ a1 < (34 : Int)) ∧ call m_L_order [.inr (.inr 39), .inl a2, .inl a3] σ (fun (r1 : Int) (s2 : Mem) =>
  (0 ≤ a2 ∧ a2 < (34 : Int)) ∧ call m_L_order [.inr (.inr 39), .inl a3, .inl a1] s2 (fun (r3 : Int) (s4 : Mem) =>
    Q (w64 ((w64 ((σ 44 a1.toNat) * r1)) + (w64 ((s2 44 a2.toNat) * r3)))) s4))) : seg none call c_L_bridgeAbove false Q cut 2000 true (toPc 0 c_L_bridgeAbove) [some (.inr (.inr 39)), some (.inl a1), some (.inl a2), some (.inl a3)] [] σ := h
theorem e_L_bridgeAbove {d : Nat} {Q : Int → Mem → Prop} {a1 : Int} {a2 : Int} {a3 : Int} {σ : Mem} (h :
  (0 ≤ a1 ∧ a1 < (34 : Int)) ∧ wp d m_L_order [.inr (.inr 39), .inl a2, .inl a3] σ (fun (r1 : Int) (s2 : Mem) =>
  (0 ≤ a2 ∧ a2 < (34 : Int)) ∧ wp d m_L_order [.inr (.inr 39), .inl a3, .inl a1] s2 (fun (r3 : Int) (s4 : Mem) =>
    Q (w64 ((w64 ((σ 44 a1.toNat) * r1)) + (w64 ((s2 44 a2.toNat) * r3)))) s4))) : wp (d + 1) m_L_bridgeAbove [.inr (.inr 39), .inl a1, .inl a2, .inl a3] σ Q := wp_in rfl (XX_intro (g_L_bridgeAbove (call := wp d) (cut := XX none (wp d) c_L_bridgeAbove false Q) (Q := Q) (a1 := a1) (a2 := a2) (a3 := a3) (σ := σ) (h)))
theorem g_L_bridgeBelow {call : Nat → List AV → Mem → (Int → Mem → Prop) → Prop} {cut : Nat → Lo → List AV → Mem → Prop} {Q : Int → Mem → Prop} {a1 : Int} {a2 : Int} {a3 : Int} {σ : Mem} (h :
  (0 ≤ a3 ∧ a3 < (34 : Int)) ∧ call m_L_order [.inr (.inr 39), .inl a2, .inl a1] σ (fun (r1 : Int) (s2 : Mem) => Q (w64 ((σ 43 a3.toNat) * r1)) s2)) : seg none call c_L_bridgeBelow false Q cut 2000 true (toPc 0 c_L_bridgeBelow) [some (.inr (.inr 39)), some (.inl a1), some (.inl a2), some (.inl a3)] [] σ := h
theorem e_L_bridgeBelow {d : Nat} {Q : Int → Mem → Prop} {a1 : Int} {a2 : Int} {a3 : Int} {σ : Mem} (h :
  (0 ≤ a3 ∧ a3 < (34 : Int)) ∧ wp d m_L_order [.inr (.inr 39), .inl a2, .inl a1] σ (fun (r1 : Int) (s2 : Mem) => Q (w64 ((σ 43 a3.toNat) * r1)) s2)) : wp (d + 1) m_L_bridgeBelow [.inr (.inr 39), .inl a1, .inl a2, .inl a3] σ Q := wp_in rfl (XX_intro (g_L_bridgeBelow (call := wp d) (cut := XX none (wp d) c_L_bridgeBelow false Q) (Q := Q) (a1 := a1) (a2 := a2) (a3 := a3) (σ := σ) (h)))
abbrev K_L_climb_42 (d : Nat) (Q : Int → Mem → Prop) (x1 : Int) (x2 : Int) (σ : Mem) : Prop := XX none (wp d) c_L_climb false Q 42 [some (.inr (.inr 39)), some (.inl x1), some (.inl x2), none] [] σ
abbrev K_L_climb_48 (d : Nat) (Q : Int → Mem → Prop) (x1 : Int) (x2 : Int) (x3 : Int) (σ : Mem) : Prop := XX none (wp d) c_L_climb false Q 48 [some (.inr (.inr 39)), some (.inl x1), some (.inl x2), some (.inl x3)] [] σ
theorem g_L_climb {call : Nat → List AV → Mem → (Int → Mem → Prop) → Prop} {cut : Nat → Lo → List AV → Mem → Prop} {Q : Int → Mem → Prop}  {σ : Mem} (h :
  (0 ≤ (σ 39 8) ∧ (σ 39 8) < (34 : Int)) ∧ (0 ≤ (σ 39 8) ∧ (σ 39 8) < (34 : Int)) ∧ cut 42 [some (.inr (.inr 39)), some (.inl (σ 39 8)), some (.inl (w32 (((mset (mset (mset (mset σ 39 9 (σ 39 8)) 39 10 (σ 39 8)) 39 11 ((mset (mset σ 39 9 (σ 39 8)) 39 10 (σ 39 8)) 44 (σ 39 8).toNat)) 39 12 ((mset (mset (mset σ 39 9 (σ 39 8)) 39 10 (σ 39 8)) 39 11 ((mset (mset σ 39 9 (σ 39 8)) 39 10 (σ 39 8)) 44 (σ 39 8).toNat)) 43 (σ 39 8).toNat)) 39 8) - 1))), none] [] (mset (mset (mset (mset σ 39 9 (σ 39 8)) 39 10 (σ 39 8)) 39 11 ((mset (mset σ 39 9 (σ 39 8)) 39 10 (σ 39 8)) 44 (σ 39 8).toNat)) 39 12 ((mset (mset (mset σ 39 9 (σ 39 8)) 39 10 (σ 39 8)) 39 11 ((mset (mset σ 39 9 (σ 39 8)) 39 10 (σ 39 8)) 44 (σ 39 8).toNat)) 43 (σ 39 8).toNat))) : seg none call c_L_climb false Q cut 2000 true (toPc 0 c_L_climb) [some (.inr (.inr 39)), none, none, none] [] σ := h
theorem e_L_climb {d : Nat} {Q : Int → Mem → Prop}  {σ : Mem} (h :
  (0 ≤ (σ 39 8) ∧ (σ 39 8) < (34 : Int)) ∧ (0 ≤ (σ 39 8) ∧ (σ 39 8) < (34 : Int)) ∧ K_L_climb_42 d Q (σ 39 8) (w32 (((mset (mset (mset (mset σ 39 9 (σ 39 8)) 39 10 (σ 39 8)) 39 11 ((mset (mset σ 39 9 (σ 39 8)) 39 10 (σ 39 8)) 44 (σ 39 8).toNat)) 39 12 ((mset (mset (mset σ 39 9 (σ 39 8)) 39 10 (σ 39 8)) 39 11 ((mset (mset σ 39 9 (σ 39 8)) 39 10 (σ 39 8)) 44 (σ 39 8).toNat)) 43 (σ 39 8).toNat)) 39 8) - 1)) (mset (mset (mset (mset σ 39 9 (σ 39 8)) 39 10 (σ 39 8)) 39 11 ((mset (mset σ 39 9 (σ 39 8)) 39 10 (σ 39 8)) 44 (σ 39 8).toNat)) 39 12 ((mset (mset (mset σ 39 9 (σ 39 8)) 39 10 (σ 39 8)) 39 11 ((mset (mset σ 39 9 (σ 39 8)) 39 10 (σ 39 8)) 44 (σ 39 8).toNat)) 43 (σ 39 8).toNat))) : wp (d + 1) m_L_climb [.inr (.inr 39)] σ Q := wp_in rfl (XX_intro (g_L_climb (call := wp d) (cut := XX none (wp d) c_L_climb false Q) (Q := Q)  (σ := σ) (h)))
theorem g_L_climb_42 {call : Nat → List AV → Mem → (Int → Mem → Prop) → Prop} {cut : Nat → Lo → List AV → Mem → Prop} {Q : Int → Mem → Prop} {x1 : Int} {x2 : Int} {σ : Mem} (h :
  (x2 < 0 → Q 0 σ) ∧
  (0 ≤ x2 →
    cut 48 [some (.inr (.inr 39)), some (.inl x1), some (.inl x2), some (.inl 0)] [] σ)) : seg none call c_L_climb false Q cut 2000 true (toPc 42 c_L_climb) [some (.inr (.inr 39)), some (.inl x1), some (.inl x2), none] [] σ := h
theorem e_L_climb_42 {d : Nat} {Q : Int → Mem → Prop} {x1 : Int} {x2 : Int} {σ : Mem} (h :
  (x2 < 0 → Q 0 σ) ∧
  (0 ≤ x2 → K_L_climb_48 d Q x1 x2 0 σ)) : K_L_climb_42 d Q x1 x2 σ := XX_intro (g_L_climb_42 (call := wp d) (cut := XX none (wp d) c_L_climb false Q) (Q := Q) (x1 := x1) (x2 := x2) (σ := σ) (h))
theorem g_L_climb_48 {call : Nat → List AV → Mem → (Int → Mem → Prop) → Prop} {cut : Nat → Lo → List AV → Mem → Prop} {Q : Int → Mem → Prop} {x1 : Int} {x2 : Int} {x3 : Int} {σ : Mem} (h :
  (x3 < (σ 39 8) →
    call m_L_order [.inr (.inr 39), .inl x2, .inl x1] σ (fun (r1 : Int) (s2 : Mem) =>
    (r1 < 0 →
        call m_L_order [.inr (.inr 39), .inl x1, .inl x3] s2 (fun (r3 : Int) (s4 : Mem) =>
        (r3 < 0 →
            call m_L_climbBridge [.inr (.inr 39), .inl x2, .inl x3, .inl x1] s4 (fun (r5 : Int) (s6 : Mem) =>
            cut 48 [some (.inr (.inr 39)), some (.inl x1), some (.inl x2), some (.inl (w32 (x3 + 1)))] [] s6)) ∧
          (0 ≤ r3 →
            cut 48 [some (.inr (.inr 39)), some (.inl x1), some (.inl x2), some (.inl (w32 (x3 + 1)))] [] s4))) ∧
      (0 ≤ r1 →
        cut 48 [some (.inr (.inr 39)), some (.inl x1), some (.inl x2), some (.inl (w32 (x3 + 1)))] [] s2))) ∧
  ((σ 39 8) ≤ x3 →
    cut 42 [some (.inr (.inr 39)), some (.inl x1), some (.inl (w32 (x2 + (-1)))), none] [] σ)) : seg none call c_L_climb false Q cut 2000 true (toPc 48 c_L_climb) [some (.inr (.inr 39)), some (.inl x1), some (.inl x2), some (.inl x3)] [] σ := h
theorem e_L_climb_48 {d : Nat} {Q : Int → Mem → Prop} {x1 : Int} {x2 : Int} {x3 : Int} {σ : Mem} (h :
  (x3 < (σ 39 8) →
    wp d m_L_order [.inr (.inr 39), .inl x2, .inl x1] σ (fun (r1 : Int) (s2 : Mem) =>
    (r1 < 0 →
        wp d m_L_order [.inr (.inr 39), .inl x1, .inl x3] s2 (fun (r3 : Int) (s4 : Mem) =>
        (r3 < 0 →
            wp d m_L_climbBridge [.inr (.inr 39), .inl x2, .inl x3, .inl x1] s4 (fun (r5 : Int) (s6 : Mem) => K_L_climb_48 d Q x1 x2 (w32 (x3 + 1)) s6)) ∧
          (0 ≤ r3 → K_L_climb_48 d Q x1 x2 (w32 (x3 + 1)) s4))) ∧
      (0 ≤ r1 → K_L_climb_48 d Q x1 x2 (w32 (x3 + 1)) s2))) ∧
  ((σ 39 8) ≤ x3 → K_L_climb_42 d Q x1 (w32 (x2 + (-1))) σ)) : K_L_climb_48 d Q x1 x2 x3 σ := XX_intro (g_L_climb_48 (call := wp d) (cut := XX none (wp d) c_L_climb false Q) (Q := Q) (x1 := x1) (x2 := x2) (x3 := x3) (σ := σ) (h))
theorem g_L_climbBridge {call : Nat → List AV → Mem → (Int → Mem → Prop) → Prop} {cut : Nat → Lo → List AV → Mem → Prop} {Q : Int → Mem → Prop} {a1 : Int} {a2 : Int} {a3 : Int} {σ : Mem} (h :
  call m_L_bridgeAbove [.inr (.inr 39), .inl a1, .inl a2, .inl a3] σ (fun (r1 : Int) (s2 : Mem) =>
  call m_L_bridgeBelow [.inr (.inr 39), .inl a1, .inl a2, .inl a3] s2 (fun (r3 : Int) (s4 : Mem) =>
    ((w64 ((s4 39 11) * r3)) < (w64 (r1 * (s4 39 12))) → Q 0 (mset (mset (mset (mset s4 39 9 a1) 39 10 a2) 39 11 r1) 39 12 r3)) ∧
      ((w64 (r1 * (s4 39 12))) ≤ (w64 ((s4 39 11) * r3)) → Q 0 s4)))) : seg none call c_L_climbBridge false Q cut 2000 true (toPc 0 c_L_climbBridge) [some (.inr (.inr 39)), some (.inl a1), some (.inl a2), some (.inl a3), none, none, none, none] [] σ := h
theorem e_L_climbBridge {d : Nat} {Q : Int → Mem → Prop} {a1 : Int} {a2 : Int} {a3 : Int} {σ : Mem} (h :
  wp d m_L_bridgeAbove [.inr (.inr 39), .inl a1, .inl a2, .inl a3] σ (fun (r1 : Int) (s2 : Mem) =>
  wp d m_L_bridgeBelow [.inr (.inr 39), .inl a1, .inl a2, .inl a3] s2 (fun (r3 : Int) (s4 : Mem) =>
    ((w64 ((s4 39 11) * r3)) < (w64 (r1 * (s4 39 12))) → Q 0 (mset (mset (mset (mset s4 39 9 a1) 39 10 a2) 39 11 r1) 39 12 r3)) ∧
      ((w64 (r1 * (s4 39 12))) ≤ (w64 ((s4 39 11) * r3)) → Q 0 s4)))) : wp (d + 1) m_L_climbBridge [.inr (.inr 39), .inl a1, .inl a2, .inl a3] σ Q := wp_in rfl (XX_intro (g_L_climbBridge (call := wp d) (cut := XX none (wp d) c_L_climbBridge false Q) (Q := Q) (a1 := a1) (a2 := a2) (a3 := a3) (σ := σ) (h)))
theorem g_L_gainAbove {call : Nat → List AV → Mem → (Int → Mem → Prop) → Prop} {cut : Nat → Lo → List AV → Mem → Prop} {Q : Int → Mem → Prop}  {σ : Mem} (h :
  (0 ≤ (σ 39 8) ∧ (σ 39 8) < (34 : Int)) ∧ (0 < (σ 43 (σ 39 8).toNat) →
    (0 ≤ (σ 39 8) ∧ (σ 39 8) < (34 : Int)) ∧ (¬ (σ 43 (σ 39 8).toNat) = 0) ∧ Q (w64 ((σ 39 11) - (w64 ((σ 44 (σ 39 8).toNat) * (w64 (Int.tdiv (σ 39 12) (σ 43 (σ 39 8).toNat))))))) σ) ∧
  ((σ 43 (σ 39 8).toNat) ≤ 0 → Q 0 σ)) : seg none call c_L_gainAbove false Q cut 2000 true (toPc 0 c_L_gainAbove) [some (.inr (.inr 39)), none, none] [] σ := h
theorem e_L_gainAbove {d : Nat} {Q : Int → Mem → Prop}  {σ : Mem} (h :
  (0 ≤ (σ 39 8) ∧ (σ 39 8) < (34 : Int)) ∧ (0 < (σ 43 (σ 39 8).toNat) →
    (0 ≤ (σ 39 8) ∧ (σ 39 8) < (34 : Int)) ∧ (¬ (σ 43 (σ 39 8).toNat) = 0) ∧ Q (w64 ((σ 39 11) - (w64 ((σ 44 (σ 39 8).toNat) * (w64 (Int.tdiv (σ 39 12) (σ 43 (σ 39 8).toNat))))))) σ) ∧
  ((σ 43 (σ 39 8).toNat) ≤ 0 → Q 0 σ)) : wp (d + 1) m_L_gainAbove [.inr (.inr 39)] σ Q := wp_in rfl (XX_intro (g_L_gainAbove (call := wp d) (cut := XX none (wp d) c_L_gainAbove false Q) (Q := Q)  (σ := σ) (h)))
abbrev K_L_cornerBits_4 (d : Nat) (Q : Int → Mem → Prop) (x1 : Int) (x2 : Int) (σ : Mem) : Prop := XX none (wp d) c_L_cornerBits false Q 4 [some (.inr (.inr 39)), some (.inl x1), some (.inl x2)] [] σ
theorem g_L_cornerBits {call : Nat → List AV → Mem → (Int → Mem → Prop) → Prop} {cut : Nat → Lo → List AV → Mem → Prop} {Q : Int → Mem → Prop}  {σ : Mem} (h :
  cut 4 [some (.inr (.inr 39)), some (.inl 0), some (.inl 0)] [] σ) : seg none call c_L_cornerBits false Q cut 2000 true (toPc 0 c_L_cornerBits) [some (.inr (.inr 39)), none, none] [] σ := h
theorem e_L_cornerBits {d : Nat} {Q : Int → Mem → Prop}  {σ : Mem} (h :
  K_L_cornerBits_4 d Q 0 0 σ) : wp (d + 1) m_L_cornerBits [.inr (.inr 39)] σ Q := wp_in rfl (XX_intro (g_L_cornerBits (call := wp d) (cut := XX none (wp d) c_L_cornerBits false Q) (Q := Q)  (σ := σ) (h)))
theorem g_L_cornerBits_4 {call : Nat → List AV → Mem → (Int → Mem → Prop) → Prop} {cut : Nat → Lo → List AV → Mem → Prop} {Q : Int → Mem → Prop} {x1 : Int} {x2 : Int} {σ : Mem} (h :
  (x2 < (σ 39 8) →
    call m_L_isCorner [.inr (.inr 39), .inl x2] σ (fun (r1 : Int) (s2 : Mem) =>
    (r1 = 0 → cut 4 [some (.inr (.inr 39)), some (.inl x1), some (.inl (w32 (x2 + 1)))] [] s2) ∧
      (¬ r1 = 0 →
        cut 4 [some (.inr (.inr 39)), some (.inl (orI x1 (shlI 1 x2))), some (.inl (w32 (x2 + 1)))] [] s2))) ∧
  ((σ 39 8) ≤ x2 → Q x1 σ)) : seg none call c_L_cornerBits false Q cut 2000 true (toPc 4 c_L_cornerBits) [some (.inr (.inr 39)), some (.inl x1), some (.inl x2)] [] σ := h
theorem e_L_cornerBits_4 {d : Nat} {Q : Int → Mem → Prop} {x1 : Int} {x2 : Int} {σ : Mem} (h :
  (x2 < (σ 39 8) →
    wp d m_L_isCorner [.inr (.inr 39), .inl x2] σ (fun (r1 : Int) (s2 : Mem) =>
    (r1 = 0 → K_L_cornerBits_4 d Q x1 (w32 (x2 + 1)) s2) ∧
      (¬ r1 = 0 → K_L_cornerBits_4 d Q (orI x1 (shlI 1 x2)) (w32 (x2 + 1)) s2))) ∧
  ((σ 39 8) ≤ x2 → Q x1 σ)) : K_L_cornerBits_4 d Q x1 x2 σ := XX_intro (g_L_cornerBits_4 (call := wp d) (cut := XX none (wp d) c_L_cornerBits false Q) (Q := Q) (x1 := x1) (x2 := x2) (σ := σ) (h))
abbrev K_L_isCorner_2 (d : Nat) (Q : Int → Mem → Prop) (x1 : Int) (x2 : Int) (σ : Mem) : Prop := XX none (wp d) c_L_isCorner true Q 2 [some (.inr (.inr 39)), some (.inl x1), some (.inl x2), none] [] σ
abbrev K_L_isCorner_11 (d : Nat) (Q : Int → Mem → Prop) (x1 : Int) (x2 : Int) (x3 : Int) (σ : Mem) : Prop := XX none (wp d) c_L_isCorner true Q 11 [some (.inr (.inr 39)), some (.inl x1), some (.inl x2), some (.inl x3)] [] σ
theorem g_L_isCorner {call : Nat → List AV → Mem → (Int → Mem → Prop) → Prop} {cut : Nat → Lo → List AV → Mem → Prop} {Q : Int → Mem → Prop} {a1 : Int} {σ : Mem} (h :
  cut 2 [some (.inr (.inr 39)), some (.inl a1), some (.inl 0), none] [] σ) : seg none call c_L_isCorner true Q cut 2000 true (toPc 0 c_L_isCorner) [some (.inr (.inr 39)), some (.inl a1), none, none] [] σ := h
theorem e_L_isCorner {d : Nat} {Q : Int → Mem → Prop} {a1 : Int} {σ : Mem} (h :
  K_L_isCorner_2 d Q a1 0 σ) : wp (d + 1) m_L_isCorner [.inr (.inr 39), .inl a1] σ Q := wp_in rfl (XX_intro (g_L_isCorner (call := wp d) (cut := XX none (wp d) c_L_isCorner true Q) (Q := Q) (a1 := a1) (σ := σ) (h)))
theorem g_L_isCorner_2 {call : Nat → List AV → Mem → (Int → Mem → Prop) → Prop} {cut : Nat → Lo → List AV → Mem → Prop} {Q : Int → Mem → Prop} {x1 : Int} {x2 : Int} {σ : Mem} (h :
  (x2 < x1 →
    cut 11 [some (.inr (.inr 39)), some (.inl x1), some (.inl x2), some (.inl (w32 (x1 + 1)))] [] σ) ∧
  (x1 ≤ x2 → isB 1 ∧ Q 1 σ)) : seg none call c_L_isCorner true Q cut 2000 true (toPc 2 c_L_isCorner) [some (.inr (.inr 39)), some (.inl x1), some (.inl x2), none] [] σ := h
theorem e_L_isCorner_2 {d : Nat} {Q : Int → Mem → Prop} {x1 : Int} {x2 : Int} {σ : Mem} (h :
  (x2 < x1 → K_L_isCorner_11 d Q x1 x2 (w32 (x1 + 1)) σ) ∧
  (x1 ≤ x2 → Q 1 σ)) : K_L_isCorner_2 d Q x1 x2 σ := XX_intro (g_L_isCorner_2 (call := wp d) (cut := XX none (wp d) c_L_isCorner true Q) (Q := Q) (x1 := x1) (x2 := x2) (σ := σ) (⟨fun z1 => (h).1 z1, fun z1 => ⟨isB1, ((h).2 z1)⟩⟩))
theorem g_L_isCorner_11 {call : Nat → List AV → Mem → (Int → Mem → Prop) → Prop} {cut : Nat → Lo → List AV → Mem → Prop} {Q : Int → Mem → Prop} {x1 : Int} {x2 : Int} {x3 : Int} {σ : Mem} (h :
  (x3 < (σ 39 8) →
    call m_L_bridgeAbove [.inr (.inr 39), .inl x2, .inl x3, .inl x1] σ (fun (r1 : Int) (s2 : Mem) =>
    (0 ≤ x1 ∧ x1 < (34 : Int)) ∧ (0 ≤ x1 ∧ x1 < (34 : Int)) ∧ call m_L_bridgeBelow [.inr (.inr 39), .inl x2, .inl x3, .inl x1] s2 (fun (r3 : Int) (s4 : Mem) =>
      ((w64 (r1 * (s2 43 x1.toNat))) < (w64 ((s2 44 x1.toNat) * r3)) →
          cut 11 [some (.inr (.inr 39)), some (.inl x1), some (.inl x2), some (.inl (w32 (x3 + 1)))] [] s4) ∧
        ((w64 ((s2 44 x1.toNat) * r3)) ≤ (w64 (r1 * (s2 43 x1.toNat))) → isB 0 ∧ Q 0 s4)))) ∧
  ((σ 39 8) ≤ x3 →
    cut 2 [some (.inr (.inr 39)), some (.inl x1), some (.inl (w32 (x2 + 1))), none] [] σ)) : seg none call c_L_isCorner true Q cut 2000 true (toPc 11 c_L_isCorner) [some (.inr (.inr 39)), some (.inl x1), some (.inl x2), some (.inl x3)] [] σ := h
theorem e_L_isCorner_11 {d : Nat} {Q : Int → Mem → Prop} {x1 : Int} {x2 : Int} {x3 : Int} {σ : Mem} (h :
  (x3 < (σ 39 8) →
    wp d m_L_bridgeAbove [.inr (.inr 39), .inl x2, .inl x3, .inl x1] σ (fun (r1 : Int) (s2 : Mem) =>
    (0 ≤ x1 ∧ x1 < (34 : Int)) ∧ (0 ≤ x1 ∧ x1 < (34 : Int)) ∧ wp d m_L_bridgeBelow [.inr (.inr 39), .inl x2, .inl x3, .inl x1] s2 (fun (r3 : Int) (s4 : Mem) =>
      ((w64 (r1 * (s2 43 x1.toNat))) < (w64 ((s2 44 x1.toNat) * r3)) → K_L_isCorner_11 d Q x1 x2 (w32 (x3 + 1)) s4) ∧
        ((w64 ((s2 44 x1.toNat) * r3)) ≤ (w64 (r1 * (s2 43 x1.toNat))) → Q 0 s4)))) ∧
  ((σ 39 8) ≤ x3 → K_L_isCorner_2 d Q x1 (w32 (x2 + 1)) σ)) : K_L_isCorner_11 d Q x1 x2 x3 σ := XX_intro (g_L_isCorner_11 (call := wp d) (cut := XX none (wp d) c_L_isCorner true Q) (Q := Q) (x1 := x1) (x2 := x2) (x3 := x3) (σ := σ) (⟨fun z4 => wp_conseq (fun _ _ z3 => ⟨(z3).1, ⟨((z3).2).1, wp_conseq (fun _ _ z2 => ⟨fun z1 => (z2).1 z1, fun z1 => ⟨isB0, ((z2).2 z1)⟩⟩) (((z3).2).2)⟩⟩) (((h).1 z4)), fun z4 => (h).2 z4⟩))
abbrev K_L_judgePrices_3 (d : Nat) (Q : Int → Mem → Prop) (x1 : Int) (x3 : Int) (x5 : Int) (x7 : Int) (σ : Mem) : Prop := XX none (wp d) c_L_judgePrices false Q 3 [some (.inr (.inr 39)), some (.inr (.inl x1)), none, some (.inr (.inl x3)), none, some (.inr (.inl x5)), none, some (.inl x7), none, none, none, none] [] σ
theorem g_L_judgePrices {call : Nat → List AV → Mem → (Int → Mem → Prop) → Prop} {cut : Nat → Lo → List AV → Mem → Prop} {Q : Int → Mem → Prop} {a1 : Int} {a2 : Int} {a3 : Int} {σ : Mem} (h :
  cut 3 [some (.inr (.inr 39)), some (.inr (.inl a1)), none, some (.inr (.inl a2)), none, some (.inr (.inl a3)), none, some (.inl 0), none, none, none, none] [] σ) : seg none call c_L_judgePrices false Q cut 2000 true (toPc 0 c_L_judgePrices) [some (.inr (.inr 39)), some (.inr (.inl a1)), none, some (.inr (.inl a2)), none, some (.inr (.inl a3)), none, none, none, none, none, none] [] σ := h
theorem e_L_judgePrices {d : Nat} {Q : Int → Mem → Prop} {a1 : Int} {a2 : Int} {a3 : Int} {σ : Mem} (h :
  K_L_judgePrices_3 d Q a1 a2 a3 0 σ) : wp (d + 1) m_L_judgePrices [.inr (.inr 39), .inr (.inl a1), .inr (.inl a2), .inr (.inl a3)] σ Q := wp_in rfl (XX_intro (g_L_judgePrices (call := wp d) (cut := XX none (wp d) c_L_judgePrices false Q) (Q := Q) (a1 := a1) (a2 := a2) (a3 := a3) (σ := σ) (h)))
theorem g_L_judgePrices_3 {call : Nat → List AV → Mem → (Int → Mem → Prop) → Prop} {cut : Nat → Lo → List AV → Mem → Prop} {Q : Int → Mem → Prop} {x1 : Int} {x3 : Int} {x5 : Int} {x7 : Int} {σ : Mem} (h :
  ((σ 39 8) < x7 →
    call m_L_priceAbove [.inr (.inr 39), .inl (σ 39 8), .inr (.inl x1), .inr (.inl x3)] σ (fun (r1 : Int) (s2 : Mem) =>
    (0 ≤ (s2 39 8) ∧ (s2 39 8) < (34 : Int)) ∧ call m_X_tell [.inr (.inl r1), .inr (.inl (w64 (x5 * (s2 43 (s2 39 8).toNat)))), .inl 0] s2 (fun (r3 : Int) (s4 : Mem) =>
      call m_X_tell [.inr (.inl (s4 39 11)), .inr (.inl (s4 39 12)), .inl 0] s4 (fun (r5 : Int) (s6 : Mem) =>
        (r3 = r5 →
            call m_X_tell [.inr (.inl r1), .inr (.inl (w64 (x5 * (s2 43 (s2 39 8).toNat)))), .inl 1] s6 (fun (r7 : Int) (s8 : Mem) =>
            call m_X_tell [.inr (.inl (s8 39 11)), .inr (.inl (s8 39 12)), .inl 1] s8 (fun (r9 : Int) (s10 : Mem) =>
              (r7 = r9 →
                  ((1 : Int) = 0 → Q 101 s10) ∧
                  (¬ (1 : Int) = 0 → Q (-9) s10)) ∧
                (¬ r7 = r9 →
                  ((0 : Int) = 0 → Q 101 s10) ∧
                  (¬ (0 : Int) = 0 → Q (-9) s10))))) ∧
          (¬ r3 = r5 →
            ((0 : Int) = 0 → Q 101 s6) ∧
            (¬ (0 : Int) = 0 → Q (-9) s6)))))) ∧
  (x7 ≤ (σ 39 8) →
    call m_L_priceAbove [.inr (.inr 39), .inl x7, .inr (.inl x1), .inr (.inl x3)] σ (fun (r11 : Int) (s12 : Mem) =>
    (0 ≤ x7 ∧ x7 < (34 : Int)) ∧ (r11 < (w64 ((s12 44 x7.toNat) * x5)) →
        (x7 = (s12 39 8) → Q 100 s12) ∧
        (¬ x7 = (s12 39 8) → Q x7 s12)) ∧
      ((w64 ((s12 44 x7.toNat) * x5)) ≤ r11 →
        cut 3 [some (.inr (.inr 39)), some (.inr (.inl x1)), none, some (.inr (.inl x3)), none, some (.inr (.inl x5)), none, some (.inl (w32 (x7 + 1))), none, none, none, none] [] s12)))) : seg none call c_L_judgePrices false Q cut 2000 true (toPc 3 c_L_judgePrices) [some (.inr (.inr 39)), some (.inr (.inl x1)), none, some (.inr (.inl x3)), none, some (.inr (.inl x5)), none, some (.inl x7), none, none, none, none] [] σ := h
theorem e_L_judgePrices_3 {d : Nat} {Q : Int → Mem → Prop} {x1 : Int} {x3 : Int} {x5 : Int} {x7 : Int} {σ : Mem} (h :
  ((σ 39 8) < x7 →
    wp d m_L_priceAbove [.inr (.inr 39), .inl (σ 39 8), .inr (.inl x1), .inr (.inl x3)] σ (fun (r1 : Int) (s2 : Mem) =>
    (0 ≤ (s2 39 8) ∧ (s2 39 8) < (34 : Int)) ∧ wp d m_X_tell [.inr (.inl r1), .inr (.inl (w64 (x5 * (s2 43 (s2 39 8).toNat)))), .inl 0] s2 (fun (r3 : Int) (s4 : Mem) =>
      wp d m_X_tell [.inr (.inl (s4 39 11)), .inr (.inl (s4 39 12)), .inl 0] s4 (fun (r5 : Int) (s6 : Mem) =>
        (r3 = r5 →
            wp d m_X_tell [.inr (.inl r1), .inr (.inl (w64 (x5 * (s2 43 (s2 39 8).toNat)))), .inl 1] s6 (fun (r7 : Int) (s8 : Mem) =>
            wp d m_X_tell [.inr (.inl (s8 39 11)), .inr (.inl (s8 39 12)), .inl 1] s8 (fun (r9 : Int) (s10 : Mem) =>
              (r7 = r9 → Q (-9) s10) ∧
                (¬ r7 = r9 → Q 101 s10)))) ∧
          (¬ r3 = r5 → Q 101 s6))))) ∧
  (x7 ≤ (σ 39 8) →
    wp d m_L_priceAbove [.inr (.inr 39), .inl x7, .inr (.inl x1), .inr (.inl x3)] σ (fun (r11 : Int) (s12 : Mem) =>
    (0 ≤ x7 ∧ x7 < (34 : Int)) ∧ (r11 < (w64 ((s12 44 x7.toNat) * x5)) →
        (x7 = (s12 39 8) → Q 100 s12) ∧
        (¬ x7 = (s12 39 8) → Q x7 s12)) ∧
      ((w64 ((s12 44 x7.toNat) * x5)) ≤ r11 → K_L_judgePrices_3 d Q x1 x3 x5 (w32 (x7 + 1)) s12)))) : K_L_judgePrices_3 d Q x1 x3 x5 x7 σ := XX_intro (g_L_judgePrices_3 (call := wp d) (cut := XX none (wp d) c_L_judgePrices false Q) (Q := Q) (x1 := x1) (x3 := x3) (x5 := x5) (x7 := x7) (σ := σ) (⟨fun z11 => wp_conseq (fun _ _ z10 => ⟨(z10).1, wp_conseq (fun _ _ z9 => wp_conseq (fun _ _ z8 => ⟨fun z7 => wp_conseq (fun _ _ z6 => wp_conseq (fun _ _ z5 => ⟨fun z4 => ⟨fun z3 => absurd z3 (by decide), fun _ => ((z5).1 z4)⟩, fun z4 => ⟨fun _ => ((z5).2 z4), fun z2 => absurd z2 (by decide)⟩⟩) (z6)) (((z8).1 z7)), fun z7 => ⟨fun _ => ((z8).2 z7), fun z1 => absurd z1 (by decide)⟩⟩) (z9)) ((z10).2)⟩) (((h).1 z11)), fun z11 => (h).2 z11⟩))
theorem g_L_priceAbove {call : Nat → List AV → Mem → (Int → Mem → Prop) → Prop} {cut : Nat → Lo → List AV → Mem → Prop} {Q : Int → Mem → Prop} {a1 : Int} {a2 : Int} {a3 : Int} {σ : Mem} (h :
  (0 ≤ a1 ∧ a1 < (34 : Int)) ∧ (0 ≤ a1 ∧ a1 < (34 : Int)) ∧ (0 ≤ a1 ∧ a1 < (34 : Int)) ∧ Q (w64 ((w64 (a2 * (w64 ((σ 43 a1.toNat) - (σ 42 a1.toNat))))) + (w64 (a3 * (σ 42 a1.toNat))))) σ) : seg none call c_L_priceAbove false Q cut 2000 true (toPc 0 c_L_priceAbove) [some (.inr (.inr 39)), some (.inl a1), some (.inr (.inl a2)), none, some (.inr (.inl a3)), none] [] σ := h
theorem e_L_priceAbove {d : Nat} {Q : Int → Mem → Prop} {a1 : Int} {a2 : Int} {a3 : Int} {σ : Mem} (h :
  (0 ≤ a1 ∧ a1 < (34 : Int)) ∧ (0 ≤ a1 ∧ a1 < (34 : Int)) ∧ (0 ≤ a1 ∧ a1 < (34 : Int)) ∧ Q (w64 ((w64 (a2 * (w64 ((σ 43 a1.toNat) - (σ 42 a1.toNat))))) + (w64 (a3 * (σ 42 a1.toNat))))) σ) : wp (d + 1) m_L_priceAbove [.inr (.inr 39), .inl a1, .inr (.inl a2), .inr (.inl a3)] σ Q := wp_in rfl (XX_intro (g_L_priceAbove (call := wp d) (cut := XX none (wp d) c_L_priceAbove false Q) (Q := Q) (a1 := a1) (a2 := a2) (a3 := a3) (σ := σ) (h)))
abbrev K_K_bringsOf_9 (d : Nat) (Q : Int → Mem → Prop) (x1 : Int) (x2 : Int) (σ : Mem) : Prop := XX none (wp d) c_K_bringsOf false Q 9 [some (.inr (.inr 45)), some (.inl x1), some (.inl x2)] [] σ
theorem g_K_bringsOf {call : Nat → List AV → Mem → (Int → Mem → Prop) → Prop} {cut : Nat → Lo → List AV → Mem → Prop} {Q : Int → Mem → Prop} {a1 : Int} {σ : Mem} (h :
  call m_B_attendNone [.inr (.inr 35)] σ (fun (r1 : Int) (s2 : Mem) =>
  cut 9 [some (.inr (.inr 45)), some (.inl a1), some (.inl 0)] [] s2)) : seg none call c_K_bringsOf false Q cut 2000 true (toPc 0 c_K_bringsOf) [some (.inr (.inr 45)), some (.inl a1), none] [] σ := h
theorem e_K_bringsOf {d : Nat} {Q : Int → Mem → Prop} {a1 : Int} {σ : Mem} (h :
  wp d m_B_attendNone [.inr (.inr 35)] σ (fun (r1 : Int) (s2 : Mem) => K_K_bringsOf_9 d Q a1 0 s2)) : wp (d + 1) m_K_bringsOf [.inr (.inr 45), .inl a1] σ Q := wp_in rfl (XX_intro (g_K_bringsOf (call := wp d) (cut := XX none (wp d) c_K_bringsOf false Q) (Q := Q) (a1 := a1) (σ := σ) (h)))
theorem g_K_bringsOf_9 {call : Nat → List AV → Mem → (Int → Mem → Prop) → Prop} {cut : Nat → Lo → List AV → Mem → Prop} {Q : Int → Mem → Prop} {x1 : Int} {x2 : Int} {σ : Mem} (h :
  (x2 < (σ 7 13) →
    ((andI (shrI x1 x2) 1) = 0 → cut 9 [some (.inr (.inr 45)), some (.inl x1), some (.inl (w32 (x2 + 1)))] [] σ) ∧
    (¬ (andI (shrI x1 x2) 1) = 0 →
      call m_B_attendTest [.inr (.inr 35), .inl x2] σ (fun (r3 : Int) (s4 : Mem) =>
      cut 9 [some (.inr (.inr 45)), some (.inl x1), some (.inl (w32 (x2 + 1)))] [] s4))) ∧
  ((σ 7 13) ≤ x2 →
    call m_B_brings [.inr (.inr 35), .inr (.inr 10), .inr (.inr 11)] σ (fun (r1 : Int) (s2 : Mem) => Q r1 s2))) : seg none call c_K_bringsOf false Q cut 2000 true (toPc 9 c_K_bringsOf) [some (.inr (.inr 45)), some (.inl x1), some (.inl x2)] [] σ := h
theorem e_K_bringsOf_9 {d : Nat} {Q : Int → Mem → Prop} {x1 : Int} {x2 : Int} {σ : Mem} (h :
  (x2 < (σ 7 13) →
    ((andI (shrI x1 x2) 1) = 0 → K_K_bringsOf_9 d Q x1 (w32 (x2 + 1)) σ) ∧
    (¬ (andI (shrI x1 x2) 1) = 0 →
      wp d m_B_attendTest [.inr (.inr 35), .inl x2] σ (fun (r3 : Int) (s4 : Mem) => K_K_bringsOf_9 d Q x1 (w32 (x2 + 1)) s4))) ∧
  ((σ 7 13) ≤ x2 →
    wp d m_B_brings [.inr (.inr 35), .inr (.inr 10), .inr (.inr 11)] σ (fun (r1 : Int) (s2 : Mem) => Q r1 s2))) : K_K_bringsOf_9 d Q x1 x2 σ := XX_intro (g_K_bringsOf_9 (call := wp d) (cut := XX none (wp d) c_K_bringsOf false Q) (Q := Q) (x1 := x1) (x2 := x2) (σ := σ) (h))
abbrev K_K_costOf_4 (d : Nat) (Q : Int → Mem → Prop) (x1 : Int) (x2 : Int) (x3 : Int) (σ : Mem) : Prop := XX none (wp d) c_K_costOf false Q 4 [some (.inr (.inr 45)), some (.inl x1), some (.inl x2), some (.inl x3)] [] σ
theorem g_K_costOf {call : Nat → List AV → Mem → (Int → Mem → Prop) → Prop} {cut : Nat → Lo → List AV → Mem → Prop} {Q : Int → Mem → Prop} {a1 : Int} {σ : Mem} (h :
  cut 4 [some (.inr (.inr 45)), some (.inl a1), some (.inl 0), some (.inl 0)] [] σ) : seg none call c_K_costOf false Q cut 2000 true (toPc 0 c_K_costOf) [some (.inr (.inr 45)), some (.inl a1), none, none] [] σ := h
theorem e_K_costOf {d : Nat} {Q : Int → Mem → Prop} {a1 : Int} {σ : Mem} (h :
  K_K_costOf_4 d Q a1 0 0 σ) : wp (d + 1) m_K_costOf [.inr (.inr 45), .inl a1] σ Q := wp_in rfl (XX_intro (g_K_costOf (call := wp d) (cut := XX none (wp d) c_K_costOf false Q) (Q := Q) (a1 := a1) (σ := σ) (h)))
theorem g_K_costOf_4 {call : Nat → List AV → Mem → (Int → Mem → Prop) → Prop} {cut : Nat → Lo → List AV → Mem → Prop} {Q : Int → Mem → Prop} {x1 : Int} {x2 : Int} {x3 : Int} {σ : Mem} (h :
  (x3 < (σ 7 13) →
    ((andI (shrI x1 x3) 1) = 0 →
      cut 4 [some (.inr (.inr 45)), some (.inl x1), some (.inl (w32 (x2 + 0))), some (.inl (w32 (x3 + 1)))] [] σ) ∧
    (¬ (andI (shrI x1 x3) 1) = 0 →
      (0 ≤ x3 ∧ x3 < (6 : Int)) ∧ cut 4 [some (.inr (.inr 45)), some (.inl x1), some (.inl (w32 (x2 + (σ 16 x3.toNat)))), some (.inl (w32 (x3 + 1)))] [] σ)) ∧
  ((σ 7 13) ≤ x3 → Q x2 σ)) : seg none call c_K_costOf false Q cut 2000 true (toPc 4 c_K_costOf) [some (.inr (.inr 45)), some (.inl x1), some (.inl x2), some (.inl x3)] [] σ := h
theorem e_K_costOf_4 {d : Nat} {Q : Int → Mem → Prop} {x1 : Int} {x2 : Int} {x3 : Int} {σ : Mem} (h :
  (x3 < (σ 7 13) →
    ((andI (shrI x1 x3) 1) = 0 → K_K_costOf_4 d Q x1 (w32 (x2 + 0)) (w32 (x3 + 1)) σ) ∧
    (¬ (andI (shrI x1 x3) 1) = 0 →
      (0 ≤ x3 ∧ x3 < (6 : Int)) ∧ K_K_costOf_4 d Q x1 (w32 (x2 + (σ 16 x3.toNat))) (w32 (x3 + 1)) σ)) ∧
  ((σ 7 13) ≤ x3 → Q x2 σ)) : K_K_costOf_4 d Q x1 x2 x3 σ := XX_intro (g_K_costOf_4 (call := wp d) (cut := XX none (wp d) c_K_costOf false Q) (Q := Q) (x1 := x1) (x2 := x2) (x3 := x3) (σ := σ) (h))
abbrev K_K_dearest_11 (d : Nat) (Q : Int → Mem → Prop) (x1 : Int) (x2 : Int) (x4 : Int) (σ : Mem) : Prop := XX none (wp d) c_K_dearest false Q 11 [some (.inr (.inr 45)), some (.inl x1), some (.inr (.inl x2)), none, some (.inl x4), none, none, none] [] σ
theorem g_K_dearest {call : Nat → List AV → Mem → (Int → Mem → Prop) → Prop} {cut : Nat → Lo → List AV → Mem → Prop} {Q : Int → Mem → Prop}  {σ : Mem} (h :
  call m_K_bringsOf [.inr (.inr 45), .inl 0] σ (fun (r1 : Int) (s2 : Mem) =>
  cut 11 [some (.inr (.inr 45)), some (.inl 0), some (.inr (.inl r1)), none, some (.inl 1), none, none, none] [] s2)) : seg none call c_K_dearest false Q cut 2000 true (toPc 0 c_K_dearest) [some (.inr (.inr 45)), none, none, none, none, none, none, none] [] σ := h
theorem e_K_dearest {d : Nat} {Q : Int → Mem → Prop}  {σ : Mem} (h :
  wp d m_K_bringsOf [.inr (.inr 45), .inl 0] σ (fun (r1 : Int) (s2 : Mem) => K_K_dearest_11 d Q 0 r1 1 s2)) : wp (d + 1) m_K_dearest [.inr (.inr 45)] σ Q := wp_in rfl (XX_intro (g_K_dearest (call := wp d) (cut := XX none (wp d) c_K_dearest false Q) (Q := Q)  (σ := σ) (h)))
theorem g_K_dearest_11 {call : Nat → List AV → Mem → (Int → Mem → Prop) → Prop} {cut : Nat → Lo → List AV → Mem → Prop} {Q : Int → Mem → Prop} {x1 : Int} {x2 : Int} {x4 : Int} {σ : Mem} (h :
  (x4 < (shlI 1 (σ 7 13)) →
    call m_J_bitCountI [.inl x4] σ (fun (r1 : Int) (s2 : Mem) =>
    (3 < r1 →
        cut 11 [some (.inr (.inr 45)), some (.inl x1), some (.inr (.inl x2)), none, some (.inl (w32 (x4 + 1))), none, none, none] [] s2) ∧
      (r1 ≤ 3 →
        call m_K_bringsOf [.inr (.inr 45), .inl x4] s2 (fun (r3 : Int) (s4 : Mem) =>
        call m_K_costOf [.inr (.inr 45), .inl x4] s4 (fun (r5 : Int) (s6 : Mem) =>
          call m_B_unit [.inr (.inr 35)] s6 (fun (r7 : Int) (s8 : Mem) =>
            call m_J_bitCountI [.inl x4] s8 (fun (r9 : Int) (s10 : Mem) =>
              call m_J_bitCountI [.inl x1] s10 (fun (r11 : Int) (s12 : Mem) =>
                (r9 < r11 →
                    (x2 < (w64 (r3 - (w64 (r5 * r7)))) →
                      cut 11 [some (.inr (.inr 45)), some (.inl x4), some (.inr (.inl (w64 (r3 - (w64 (r5 * r7)))))), none, some (.inl (w32 (x4 + 1))), none, none, none] [] s12) ∧
                    ((w64 (r3 - (w64 (r5 * r7)))) ≤ x2 →
                      ((w64 (r3 - (w64 (r5 * r7)))) = x2 →
                        ((1 : Int) = 0 →
                          cut 11 [some (.inr (.inr 45)), some (.inl x1), some (.inr (.inl x2)), none, some (.inl (w32 (x4 + 1))), none, none, none] [] s12) ∧
                        (¬ (1 : Int) = 0 →
                          cut 11 [some (.inr (.inr 45)), some (.inl x4), some (.inr (.inl (w64 (r3 - (w64 (r5 * r7)))))), none, some (.inl (w32 (x4 + 1))), none, none, none] [] s12)) ∧
                      (¬ (w64 (r3 - (w64 (r5 * r7)))) = x2 →
                        cut 11 [some (.inr (.inr 45)), some (.inl x1), some (.inr (.inl x2)), none, some (.inl (w32 (x4 + 1))), none, none, none] [] s12))) ∧
                  (r11 ≤ r9 →
                    (x2 < (w64 (r3 - (w64 (r5 * r7)))) →
                      cut 11 [some (.inr (.inr 45)), some (.inl x4), some (.inr (.inl (w64 (r3 - (w64 (r5 * r7)))))), none, some (.inl (w32 (x4 + 1))), none, none, none] [] s12) ∧
                    ((w64 (r3 - (w64 (r5 * r7)))) ≤ x2 →
                      ((w64 (r3 - (w64 (r5 * r7)))) = x2 →
                        ((0 : Int) = 0 →
                          cut 11 [some (.inr (.inr 45)), some (.inl x1), some (.inr (.inl x2)), none, some (.inl (w32 (x4 + 1))), none, none, none] [] s12) ∧
                        (¬ (0 : Int) = 0 →
                          cut 11 [some (.inr (.inr 45)), some (.inl x4), some (.inr (.inl (w64 (r3 - (w64 (r5 * r7)))))), none, some (.inl (w32 (x4 + 1))), none, none, none] [] s12)) ∧
                      (¬ (w64 (r3 - (w64 (r5 * r7)))) = x2 →
                        cut 11 [some (.inr (.inr 45)), some (.inl x1), some (.inr (.inl x2)), none, some (.inl (w32 (x4 + 1))), none, none, none] [] s12))))))))))) ∧
  ((shlI 1 (σ 7 13)) ≤ x4 → Q x1 σ)) : seg none call c_K_dearest false Q cut 2000 true (toPc 11 c_K_dearest) [some (.inr (.inr 45)), some (.inl x1), some (.inr (.inl x2)), none, some (.inl x4), none, none, none] [] σ := h
theorem e_K_dearest_11 {d : Nat} {Q : Int → Mem → Prop} {x1 : Int} {x2 : Int} {x4 : Int} {σ : Mem} (h :
  (x4 < (shlI 1 (σ 7 13)) →
    wp d m_J_bitCountI [.inl x4] σ (fun (r1 : Int) (s2 : Mem) =>
    (3 < r1 → K_K_dearest_11 d Q x1 x2 (w32 (x4 + 1)) s2) ∧
      (r1 ≤ 3 →
        wp d m_K_bringsOf [.inr (.inr 45), .inl x4] s2 (fun (r3 : Int) (s4 : Mem) =>
        wp d m_K_costOf [.inr (.inr 45), .inl x4] s4 (fun (r5 : Int) (s6 : Mem) =>
          wp d m_B_unit [.inr (.inr 35)] s6 (fun (r7 : Int) (s8 : Mem) =>
            wp d m_J_bitCountI [.inl x4] s8 (fun (r9 : Int) (s10 : Mem) =>
              wp d m_J_bitCountI [.inl x1] s10 (fun (r11 : Int) (s12 : Mem) =>
                (r9 < r11 →
                    (x2 < (w64 (r3 - (w64 (r5 * r7)))) → K_K_dearest_11 d Q x4 (w64 (r3 - (w64 (r5 * r7)))) (w32 (x4 + 1)) s12) ∧
                    ((w64 (r3 - (w64 (r5 * r7)))) ≤ x2 →
                      ((w64 (r3 - (w64 (r5 * r7)))) = x2 → K_K_dearest_11 d Q x4 (w64 (r3 - (w64 (r5 * r7)))) (w32 (x4 + 1)) s12) ∧
                      (¬ (w64 (r3 - (w64 (r5 * r7)))) = x2 → K_K_dearest_11 d Q x1 x2 (w32 (x4 + 1)) s12))) ∧
                  (r11 ≤ r9 →
                    (x2 < (w64 (r3 - (w64 (r5 * r7)))) → K_K_dearest_11 d Q x4 (w64 (r3 - (w64 (r5 * r7)))) (w32 (x4 + 1)) s12) ∧
                    ((w64 (r3 - (w64 (r5 * r7)))) ≤ x2 →
                      ((w64 (r3 - (w64 (r5 * r7)))) = x2 → K_K_dearest_11 d Q x1 x2 (w32 (x4 + 1)) s12) ∧
                      (¬ (w64 (r3 - (w64 (r5 * r7)))) = x2 → K_K_dearest_11 d Q x1 x2 (w32 (x4 + 1)) s12))))))))))) ∧
  ((shlI 1 (σ 7 13)) ≤ x4 → Q x1 σ)) : K_K_dearest_11 d Q x1 x2 x4 σ := XX_intro (g_K_dearest_11 (call := wp d) (cut := XX none (wp d) c_K_dearest false Q) (Q := Q) (x1 := x1) (x2 := x2) (x4 := x4) (σ := σ) (⟨fun z15 => wp_conseq (fun _ _ z14 => ⟨fun z13 => (z14).1 z13, fun z13 => wp_conseq (fun _ _ z12 => wp_conseq (fun _ _ z11 => wp_conseq (fun _ _ z10 => wp_conseq (fun _ _ z9 => wp_conseq (fun _ _ z8 => ⟨fun z7 => ⟨fun z6 => (((z8).1 z7)).1 z6, fun z6 => ⟨fun z5 => ⟨fun z4 => absurd z4 (by decide), fun _ => ((((((z8).1 z7)).2 z6)).1 z5)⟩, fun z5 => (((((z8).1 z7)).2 z6)).2 z5⟩⟩, fun z7 => ⟨fun z3 => (((z8).2 z7)).1 z3, fun z3 => ⟨fun z2 => ⟨fun _ => ((((((z8).2 z7)).2 z3)).1 z2), fun z1 => absurd z1 (by decide)⟩, fun z2 => (((((z8).2 z7)).2 z3)).2 z2⟩⟩⟩) (z9)) (z10)) (z11)) (z12)) (((z14).2 z13))⟩) (((h).1 z15)), fun z15 => (h).2 z15⟩))
abbrev K_K_cheapest_7 (d : Nat) (Q : Int → Mem → Prop) (x1 : Int) (x3 : Int) (x5 : Int) (x6 : Int) (σ : Mem) : Prop := XX none (wp d) c_K_cheapest false Q 7 [some (.inr (.inr 45)), some (.inr (.inl x1)), none, some (.inr (.inl x3)), none, some (.inl x5), some (.inl x6)] [] σ
theorem g_K_cheapest {call : Nat → List AV → Mem → (Int → Mem → Prop) → Prop} {cut : Nat → Lo → List AV → Mem → Prop} {Q : Int → Mem → Prop} {a1 : Int} {a2 : Int} {σ : Mem} (h :
  cut 7 [some (.inr (.inr 45)), some (.inr (.inl a1)), none, some (.inr (.inl a2)), none, some (.inl (-9)), some (.inl 0)] [] σ) : seg none call c_K_cheapest false Q cut 2000 true (toPc 0 c_K_cheapest) [some (.inr (.inr 45)), some (.inr (.inl a1)), none, some (.inr (.inl a2)), none, none, none] [] σ := h
theorem e_K_cheapest {d : Nat} {Q : Int → Mem → Prop} {a1 : Int} {a2 : Int} {σ : Mem} (h :
  K_K_cheapest_7 d Q a1 a2 (-9) 0 σ) : wp (d + 1) m_K_cheapest [.inr (.inr 45), .inr (.inl a1), .inr (.inl a2)] σ Q := wp_in rfl (XX_intro (g_K_cheapest (call := wp d) (cut := XX none (wp d) c_K_cheapest false Q) (Q := Q) (a1 := a1) (a2 := a2) (σ := σ) (h)))
theorem g_K_cheapest_7 {call : Nat → List AV → Mem → (Int → Mem → Prop) → Prop} {cut : Nat → Lo → List AV → Mem → Prop} {Q : Int → Mem → Prop} {x1 : Int} {x3 : Int} {x5 : Int} {x6 : Int} {σ : Mem} (h :
  (x6 < (shlI 1 (σ 7 13)) →
    call m_J_bitCountI [.inl x6] σ (fun (r1 : Int) (s2 : Mem) =>
    (3 < r1 →
        cut 7 [some (.inr (.inr 45)), some (.inr (.inl x1)), none, some (.inr (.inl x3)), none, some (.inl x5), some (.inl (w32 (x6 + 1)))] [] s2) ∧
      (r1 ≤ 3 →
        (x5 = (-9) →
          call m_K_bringsOf [.inr (.inr 45), .inl x6] s2 (fun (r3 : Int) (s4 : Mem) =>
          call m_B_unit [.inr (.inr 35)] s4 (fun (r5 : Int) (s6 : Mem) =>
            ((w64 (r3 * x3)) < (w64 (x1 * r5)) →
                cut 7 [some (.inr (.inr 45)), some (.inr (.inl x1)), none, some (.inr (.inl x3)), none, some (.inl x5), some (.inl (w32 (x6 + 1)))] [] s6) ∧
              ((w64 (x1 * r5)) ≤ (w64 (r3 * x3)) →
                cut 7 [some (.inr (.inr 45)), some (.inr (.inl x1)), none, some (.inr (.inl x3)), none, some (.inl x6), some (.inl (w32 (x6 + 1)))] [] s6)))) ∧
        (¬ x5 = (-9) →
          call m_K_isCheaper [.inr (.inr 45), .inl x6, .inl x5] s2 (fun (r7 : Int) (s8 : Mem) =>
          (r7 = 0 →
              cut 7 [some (.inr (.inr 45)), some (.inr (.inl x1)), none, some (.inr (.inl x3)), none, some (.inl x5), some (.inl (w32 (x6 + 1)))] [] s8) ∧
            (¬ r7 = 0 →
              call m_K_bringsOf [.inr (.inr 45), .inl x6] s8 (fun (r9 : Int) (s10 : Mem) =>
              call m_B_unit [.inr (.inr 35)] s10 (fun (r11 : Int) (s12 : Mem) =>
                ((w64 (r9 * x3)) < (w64 (x1 * r11)) →
                    cut 7 [some (.inr (.inr 45)), some (.inr (.inl x1)), none, some (.inr (.inl x3)), none, some (.inl x5), some (.inl (w32 (x6 + 1)))] [] s12) ∧
                  ((w64 (x1 * r11)) ≤ (w64 (r9 * x3)) →
                    cut 7 [some (.inr (.inr 45)), some (.inr (.inl x1)), none, some (.inr (.inl x3)), none, some (.inl x6), some (.inl (w32 (x6 + 1)))] [] s12))))))))) ∧
  ((shlI 1 (σ 7 13)) ≤ x6 → Q x5 σ)) : seg none call c_K_cheapest false Q cut 2000 true (toPc 7 c_K_cheapest) [some (.inr (.inr 45)), some (.inr (.inl x1)), none, some (.inr (.inl x3)), none, some (.inl x5), some (.inl x6)] [] σ := h
theorem e_K_cheapest_7 {d : Nat} {Q : Int → Mem → Prop} {x1 : Int} {x3 : Int} {x5 : Int} {x6 : Int} {σ : Mem} (h :
  (x6 < (shlI 1 (σ 7 13)) →
    wp d m_J_bitCountI [.inl x6] σ (fun (r1 : Int) (s2 : Mem) =>
    (3 < r1 → K_K_cheapest_7 d Q x1 x3 x5 (w32 (x6 + 1)) s2) ∧
      (r1 ≤ 3 →
        (x5 = (-9) →
          wp d m_K_bringsOf [.inr (.inr 45), .inl x6] s2 (fun (r3 : Int) (s4 : Mem) =>
          wp d m_B_unit [.inr (.inr 35)] s4 (fun (r5 : Int) (s6 : Mem) =>
            ((w64 (r3 * x3)) < (w64 (x1 * r5)) → K_K_cheapest_7 d Q x1 x3 x5 (w32 (x6 + 1)) s6) ∧
              ((w64 (x1 * r5)) ≤ (w64 (r3 * x3)) → K_K_cheapest_7 d Q x1 x3 x6 (w32 (x6 + 1)) s6)))) ∧
        (¬ x5 = (-9) →
          wp d m_K_isCheaper [.inr (.inr 45), .inl x6, .inl x5] s2 (fun (r7 : Int) (s8 : Mem) =>
          (r7 = 0 → K_K_cheapest_7 d Q x1 x3 x5 (w32 (x6 + 1)) s8) ∧
            (¬ r7 = 0 →
              wp d m_K_bringsOf [.inr (.inr 45), .inl x6] s8 (fun (r9 : Int) (s10 : Mem) =>
              wp d m_B_unit [.inr (.inr 35)] s10 (fun (r11 : Int) (s12 : Mem) =>
                ((w64 (r9 * x3)) < (w64 (x1 * r11)) → K_K_cheapest_7 d Q x1 x3 x5 (w32 (x6 + 1)) s12) ∧
                  ((w64 (x1 * r11)) ≤ (w64 (r9 * x3)) → K_K_cheapest_7 d Q x1 x3 x6 (w32 (x6 + 1)) s12))))))))) ∧
  ((shlI 1 (σ 7 13)) ≤ x6 → Q x5 σ)) : K_K_cheapest_7 d Q x1 x3 x5 x6 σ := XX_intro (g_K_cheapest_7 (call := wp d) (cut := XX none (wp d) c_K_cheapest false Q) (Q := Q) (x1 := x1) (x3 := x3) (x5 := x5) (x6 := x6) (σ := σ) (h))
theorem g_K_isCheaper {call : Nat → List AV → Mem → (Int → Mem → Prop) → Prop} {cut : Nat → Lo → List AV → Mem → Prop} {Q : Int → Mem → Prop} {a1 : Int} {a2 : Int} {σ : Mem} (h :
  call m_K_costOf [.inr (.inr 45), .inl a2] σ (fun (r1 : Int) (s2 : Mem) =>
  call m_K_costOf [.inr (.inr 45), .inl a1] s2 (fun (r3 : Int) (s4 : Mem) =>
    (0 < (w32 (r1 - r3)) → isB 1 ∧ Q 1 s4) ∧
      ((w32 (r1 - r3)) ≤ 0 →
        ((w32 (r1 - r3)) = 0 →
          call m_J_bitCountI [.inl a1] s4 (fun (r5 : Int) (s6 : Mem) =>
          call m_J_bitCountI [.inl a2] s6 (fun (r7 : Int) (s8 : Mem) =>
            (r5 < r7 → isB 1 ∧ Q 1 s8) ∧
              (r7 ≤ r5 → isB 0 ∧ Q 0 s8)))) ∧
        (¬ (w32 (r1 - r3)) = 0 → isB 0 ∧ Q 0 s4))))) : seg none call c_K_isCheaper true Q cut 2000 true (toPc 0 c_K_isCheaper) [some (.inr (.inr 45)), some (.inl a1), some (.inl a2), none] [] σ := h
theorem e_K_isCheaper {d : Nat} {Q : Int → Mem → Prop} {a1 : Int} {a2 : Int} {σ : Mem} (h :
  wp d m_K_costOf [.inr (.inr 45), .inl a2] σ (fun (r1 : Int) (s2 : Mem) =>
  wp d m_K_costOf [.inr (.inr 45), .inl a1] s2 (fun (r3 : Int) (s4 : Mem) =>
    (0 < (w32 (r1 - r3)) → Q 1 s4) ∧
      ((w32 (r1 - r3)) ≤ 0 →
        ((w32 (r1 - r3)) = 0 →
          wp d m_J_bitCountI [.inl a1] s4 (fun (r5 : Int) (s6 : Mem) =>
          wp d m_J_bitCountI [.inl a2] s6 (fun (r7 : Int) (s8 : Mem) => (r5 < r7 → Q 1 s8) ∧
              (r7 ≤ r5 → Q 0 s8)))) ∧
        (¬ (w32 (r1 - r3)) = 0 → Q 0 s4))))) : wp (d + 1) m_K_isCheaper [.inr (.inr 45), .inl a1, .inl a2] σ Q := wp_in rfl (XX_intro (g_K_isCheaper (call := wp d) (cut := XX none (wp d) c_K_isCheaper true Q) (Q := Q) (a1 := a1) (a2 := a2) (σ := σ) (wp_conseq (fun _ _ z7 => wp_conseq (fun _ _ z6 => ⟨fun z5 => ⟨isB1, ((z6).1 z5)⟩, fun z5 => ⟨fun z4 => wp_conseq (fun _ _ z3 => wp_conseq (fun _ _ z2 => ⟨fun z1 => ⟨isB1, ((z2).1 z1)⟩, fun z1 => ⟨isB0, ((z2).2 z1)⟩⟩) (z3)) (((((z6).2 z5)).1 z4)), fun z4 => ⟨isB0, ((((z6).2 z5)).2 z4)⟩⟩⟩) (z7)) (h))))
abbrev K_K_weighRivals_2 (d : Nat) (Q : Int → Mem → Prop) (x1 : Int) (x2 : Int) (x3 : Int) (σ : Mem) : Prop := XX none (wp d) c_K_weighRivals false Q 2 [some (.inr (.inr 45)), some (.inl x1), some (.inl x2), some (.inl x3), none] [] σ
abbrev K_K_weighRivals_11 (d : Nat) (Q : Int → Mem → Prop) (x1 : Int) (x2 : Int) (x3 : Int) (x4 : Int) (σ : Mem) : Prop := XX none (wp d) c_K_weighRivals false Q 11 [some (.inr (.inr 45)), some (.inl x1), some (.inl x2), some (.inl x3), some (.inl x4)] [] σ
theorem g_K_weighRivals {call : Nat → List AV → Mem → (Int → Mem → Prop) → Prop} {cut : Nat → Lo → List AV → Mem → Prop} {Q : Int → Mem → Prop} {a1 : Int} {a2 : Int} {σ : Mem} (h :
  cut 2 [some (.inr (.inr 45)), some (.inl a1), some (.inl a2), some (.inl 0), none] [] σ) : seg none call c_K_weighRivals false Q cut 2000 true (toPc 0 c_K_weighRivals) [some (.inr (.inr 45)), some (.inl a1), some (.inl a2), none, none] [] σ := h
theorem e_K_weighRivals {d : Nat} {Q : Int → Mem → Prop} {a1 : Int} {a2 : Int} {σ : Mem} (h :
  K_K_weighRivals_2 d Q a1 a2 0 σ) : wp (d + 1) m_K_weighRivals [.inr (.inr 45), .inl a1, .inl a2] σ Q := wp_in rfl (XX_intro (g_K_weighRivals (call := wp d) (cut := XX none (wp d) c_K_weighRivals false Q) (Q := Q) (a1 := a1) (a2 := a2) (σ := σ) (h)))
theorem g_K_weighRivals_2 {call : Nat → List AV → Mem → (Int → Mem → Prop) → Prop} {cut : Nat → Lo → List AV → Mem → Prop} {Q : Int → Mem → Prop} {x1 : Int} {x2 : Int} {x3 : Int} {σ : Mem} (h :
  (x3 < 7 →
    cut 11 [some (.inr (.inr 45)), some (.inl x1), some (.inl x2), some (.inl x3), some (.inl 0)] [] σ) ∧
  (7 ≤ x3 → Q 0 σ)) : seg none call c_K_weighRivals false Q cut 2000 true (toPc 2 c_K_weighRivals) [some (.inr (.inr 45)), some (.inl x1), some (.inl x2), some (.inl x3), none] [] σ := h
theorem e_K_weighRivals_2 {d : Nat} {Q : Int → Mem → Prop} {x1 : Int} {x2 : Int} {x3 : Int} {σ : Mem} (h :
  (x3 < 7 → K_K_weighRivals_11 d Q x1 x2 x3 0 σ) ∧
  (7 ≤ x3 → Q 0 σ)) : K_K_weighRivals_2 d Q x1 x2 x3 σ := XX_intro (g_K_weighRivals_2 (call := wp d) (cut := XX none (wp d) c_K_weighRivals false Q) (Q := Q) (x1 := x1) (x2 := x2) (x3 := x3) (σ := σ) (h))
theorem g_K_weighRivals_11 {call : Nat → List AV → Mem → (Int → Mem → Prop) → Prop} {cut : Nat → Lo → List AV → Mem → Prop} {Q : Int → Mem → Prop} {x1 : Int} {x2 : Int} {x3 : Int} {x4 : Int} {σ : Mem} (h :
  (x4 < 7 →
    call m_K_mayChoose [.inr (.inr 45), .inl x1, .inl x3] σ (fun (r1 : Int) (s2 : Mem) =>
    (r1 = 0 →
        cut 11 [some (.inr (.inr 45)), some (.inl x1), some (.inl x2), some (.inl x3), some (.inl (w32 (x4 + 1)))] [] s2) ∧
      (¬ r1 = 0 →
        call m_K_mayChoose [.inr (.inr 45), .inl x2, .inl x4] s2 (fun (r3 : Int) (s4 : Mem) =>
        (r3 = 0 →
            cut 11 [some (.inr (.inr 45)), some (.inl x1), some (.inl x2), some (.inl x3), some (.inl (w32 (x4 + 1)))] [] s4) ∧
          (¬ r3 = 0 →
            call m_K_bringsBoth [.inr (.inr 45), .inl x3, .inl x4] s4 (fun (r5 : Int) (s6 : Mem) =>
            (0 ≤ (w32 ((w32 (x3 * 7)) + x4)) ∧ (w32 ((w32 (x3 * 7)) + x4)) < (49 : Int)) ∧ cut 11 [some (.inr (.inr 45)), some (.inl x1), some (.inl x2), some (.inl x3), some (.inl (w32 (x4 + 1)))] [] (mset s6 46 (w32 ((w32 (x3 * 7)) + x4)).toNat r5))))))) ∧
  (7 ≤ x4 →
    cut 2 [some (.inr (.inr 45)), some (.inl x1), some (.inl x2), some (.inl (w32 (x3 + 1))), none] [] σ)) : seg none call c_K_weighRivals false Q cut 2000 true (toPc 11 c_K_weighRivals) [some (.inr (.inr 45)), some (.inl x1), some (.inl x2), some (.inl x3), some (.inl x4)] [] σ := h
theorem e_K_weighRivals_11 {d : Nat} {Q : Int → Mem → Prop} {x1 : Int} {x2 : Int} {x3 : Int} {x4 : Int} {σ : Mem} (h :
  (x4 < 7 →
    wp d m_K_mayChoose [.inr (.inr 45), .inl x1, .inl x3] σ (fun (r1 : Int) (s2 : Mem) =>
    (r1 = 0 → K_K_weighRivals_11 d Q x1 x2 x3 (w32 (x4 + 1)) s2) ∧
      (¬ r1 = 0 →
        wp d m_K_mayChoose [.inr (.inr 45), .inl x2, .inl x4] s2 (fun (r3 : Int) (s4 : Mem) =>
        (r3 = 0 → K_K_weighRivals_11 d Q x1 x2 x3 (w32 (x4 + 1)) s4) ∧
          (¬ r3 = 0 →
            wp d m_K_bringsBoth [.inr (.inr 45), .inl x3, .inl x4] s4 (fun (r5 : Int) (s6 : Mem) =>
            (0 ≤ (w32 ((w32 (x3 * 7)) + x4)) ∧ (w32 ((w32 (x3 * 7)) + x4)) < (49 : Int)) ∧ K_K_weighRivals_11 d Q x1 x2 x3 (w32 (x4 + 1)) (mset s6 46 (w32 ((w32 (x3 * 7)) + x4)).toNat r5))))))) ∧
  (7 ≤ x4 → K_K_weighRivals_2 d Q x1 x2 (w32 (x3 + 1)) σ)) : K_K_weighRivals_11 d Q x1 x2 x3 x4 σ := XX_intro (g_K_weighRivals_11 (call := wp d) (cut := XX none (wp d) c_K_weighRivals false Q) (Q := Q) (x1 := x1) (x2 := x2) (x3 := x3) (x4 := x4) (σ := σ) (h))
theorem g_K_mayChoose {call : Nat → List AV → Mem → (Int → Mem → Prop) → Prop} {cut : Nat → Lo → List AV → Mem → Prop} {Q : Int → Mem → Prop} {a1 : Int} {a2 : Int} {σ : Mem} (h :
  (a2 = 0 → isB 1 ∧ Q 1 σ) ∧
  (¬ a2 = 0 →
    ((andI (shrI a1 (w32 (a2 - 1))) 1) = 0 → isB 0 ∧ Q 0 σ) ∧
    (¬ (andI (shrI a1 (w32 (a2 - 1))) 1) = 0 → isB 1 ∧ Q 1 σ))) : seg none call c_K_mayChoose true Q cut 2000 true (toPc 0 c_K_mayChoose) [some (.inr (.inr 45)), some (.inl a1), some (.inl a2)] [] σ := h
theorem e_K_mayChoose {d : Nat} {Q : Int → Mem → Prop} {a1 : Int} {a2 : Int} {σ : Mem} (h :
  (a2 = 0 → Q 1 σ) ∧
  (¬ a2 = 0 →
    ((andI (shrI a1 (w32 (a2 - 1))) 1) = 0 → Q 0 σ) ∧
    (¬ (andI (shrI a1 (w32 (a2 - 1))) 1) = 0 → Q 1 σ))) : wp (d + 1) m_K_mayChoose [.inr (.inr 45), .inl a1, .inl a2] σ Q := wp_in rfl (XX_intro (g_K_mayChoose (call := wp d) (cut := XX none (wp d) c_K_mayChoose true Q) (Q := Q) (a1 := a1) (a2 := a2) (σ := σ) (⟨fun z2 => ⟨isB1, ((h).1 z2)⟩, fun z2 => ⟨fun z1 => ⟨isB0, ((((h).2 z2)).1 z1)⟩, fun z1 => ⟨isB1, ((((h).2 z2)).2 z1)⟩⟩⟩)))
theorem g_K_bringsBoth {call : Nat → List AV → Mem → (Int → Mem → Prop) → Prop} {cut : Nat → Lo → List AV → Mem → Prop} {Q : Int → Mem → Prop} {a1 : Int} {a2 : Int} {σ : Mem} (h :
  call m_B_attendNone [.inr (.inr 35)] σ (fun (r1 : Int) (s2 : Mem) =>
  (0 < a1 →
      call m_B_attendTest [.inr (.inr 35), .inl (w32 (a1 - 1))] s2 (fun (r9 : Int) (s10 : Mem) =>
      (0 < a2 →
          call m_B_attendTest [.inr (.inr 35), .inl (w32 (a2 - 1))] s10 (fun (r13 : Int) (s14 : Mem) =>
          call m_B_brings [.inr (.inr 35), .inr (.inr 10), .inr (.inr 11)] s14 (fun (r15 : Int) (s16 : Mem) => Q r15 s16))) ∧
        (a2 ≤ 0 →
          call m_B_brings [.inr (.inr 35), .inr (.inr 10), .inr (.inr 11)] s10 (fun (r11 : Int) (s12 : Mem) => Q r11 s12)))) ∧
    (a1 ≤ 0 →
      (0 < a2 →
        call m_B_attendTest [.inr (.inr 35), .inl (w32 (a2 - 1))] s2 (fun (r5 : Int) (s6 : Mem) =>
        call m_B_brings [.inr (.inr 35), .inr (.inr 10), .inr (.inr 11)] s6 (fun (r7 : Int) (s8 : Mem) => Q r7 s8))) ∧
      (a2 ≤ 0 →
        call m_B_brings [.inr (.inr 35), .inr (.inr 10), .inr (.inr 11)] s2 (fun (r3 : Int) (s4 : Mem) => Q r3 s4))))) : seg none call c_K_bringsBoth false Q cut 2000 true (toPc 0 c_K_bringsBoth) [some (.inr (.inr 45)), some (.inl a1), some (.inl a2)] [] σ := h
theorem e_K_bringsBoth {d : Nat} {Q : Int → Mem → Prop} {a1 : Int} {a2 : Int} {σ : Mem} (h :
  wp d m_B_attendNone [.inr (.inr 35)] σ (fun (r1 : Int) (s2 : Mem) =>
  (0 < a1 →
      wp d m_B_attendTest [.inr (.inr 35), .inl (w32 (a1 - 1))] s2 (fun (r9 : Int) (s10 : Mem) =>
      (0 < a2 →
          wp d m_B_attendTest [.inr (.inr 35), .inl (w32 (a2 - 1))] s10 (fun (r13 : Int) (s14 : Mem) =>
          wp d m_B_brings [.inr (.inr 35), .inr (.inr 10), .inr (.inr 11)] s14 (fun (r15 : Int) (s16 : Mem) => Q r15 s16))) ∧
        (a2 ≤ 0 →
          wp d m_B_brings [.inr (.inr 35), .inr (.inr 10), .inr (.inr 11)] s10 (fun (r11 : Int) (s12 : Mem) => Q r11 s12)))) ∧
    (a1 ≤ 0 →
      (0 < a2 →
        wp d m_B_attendTest [.inr (.inr 35), .inl (w32 (a2 - 1))] s2 (fun (r5 : Int) (s6 : Mem) =>
        wp d m_B_brings [.inr (.inr 35), .inr (.inr 10), .inr (.inr 11)] s6 (fun (r7 : Int) (s8 : Mem) => Q r7 s8))) ∧
      (a2 ≤ 0 →
        wp d m_B_brings [.inr (.inr 35), .inr (.inr 10), .inr (.inr 11)] s2 (fun (r3 : Int) (s4 : Mem) => Q r3 s4))))) : wp (d + 1) m_K_bringsBoth [.inr (.inr 45), .inl a1, .inl a2] σ Q := wp_in rfl (XX_intro (g_K_bringsBoth (call := wp d) (cut := XX none (wp d) c_K_bringsBoth false Q) (Q := Q) (a1 := a1) (a2 := a2) (σ := σ) (h)))
abbrev K_K_findRests_5 (d : Nat) (Q : Int → Mem → Prop) (x1 : Int) (x2 : Int) (x3 : Int) (x4 : Int) (σ : Mem) : Prop := XX none (wp d) c_K_findRests false Q 5 [some (.inr (.inr 45)), some (.inl x1), some (.inl x2), some (.inl x3), some (.inl x4), none] [] σ
abbrev K_K_findRests_15 (d : Nat) (Q : Int → Mem → Prop) (x1 : Int) (x2 : Int) (x3 : Int) (x4 : Int) (x5 : Int) (σ : Mem) : Prop := XX none (wp d) c_K_findRests false Q 15 [some (.inr (.inr 45)), some (.inl x1), some (.inl x2), some (.inl x3), some (.inl x4), some (.inl x5)] [] σ
theorem g_K_findRests {call : Nat → List AV → Mem → (Int → Mem → Prop) → Prop} {cut : Nat → Lo → List AV → Mem → Prop} {Q : Int → Mem → Prop} {a1 : Int} {a2 : Int} {σ : Mem} (h :
  cut 5 [some (.inr (.inr 45)), some (.inl a1), some (.inl a2), some (.inl 0), some (.inl 0), none] [] σ) : seg none call c_K_findRests false Q cut 2000 true (toPc 0 c_K_findRests) [some (.inr (.inr 45)), some (.inl a1), some (.inl a2), none, none, none] [] σ := h
theorem e_K_findRests {d : Nat} {Q : Int → Mem → Prop} {a1 : Int} {a2 : Int} {σ : Mem} (h :
  K_K_findRests_5 d Q a1 a2 0 0 σ) : wp (d + 1) m_K_findRests [.inr (.inr 45), .inl a1, .inl a2] σ Q := wp_in rfl (XX_intro (g_K_findRests (call := wp d) (cut := XX none (wp d) c_K_findRests false Q) (Q := Q) (a1 := a1) (a2 := a2) (σ := σ) (h)))
theorem g_K_findRests_5 {call : Nat → List AV → Mem → (Int → Mem → Prop) → Prop} {cut : Nat → Lo → List AV → Mem → Prop} {Q : Int → Mem → Prop} {x1 : Int} {x2 : Int} {x3 : Int} {x4 : Int} {σ : Mem} (h :
  (x4 < 7 →
    cut 15 [some (.inr (.inr 45)), some (.inl x1), some (.inl x2), some (.inl x3), some (.inl x4), some (.inl 0)] [] σ) ∧
  (7 ≤ x4 → Q x3 σ)) : seg none call c_K_findRests false Q cut 2000 true (toPc 5 c_K_findRests) [some (.inr (.inr 45)), some (.inl x1), some (.inl x2), some (.inl x3), some (.inl x4), none] [] σ := h
theorem e_K_findRests_5 {d : Nat} {Q : Int → Mem → Prop} {x1 : Int} {x2 : Int} {x3 : Int} {x4 : Int} {σ : Mem} (h :
  (x4 < 7 → K_K_findRests_15 d Q x1 x2 x3 x4 0 σ) ∧
  (7 ≤ x4 → Q x3 σ)) : K_K_findRests_5 d Q x1 x2 x3 x4 σ := XX_intro (g_K_findRests_5 (call := wp d) (cut := XX none (wp d) c_K_findRests false Q) (Q := Q) (x1 := x1) (x2 := x2) (x3 := x3) (x4 := x4) (σ := σ) (h))
theorem g_K_findRests_15 {call : Nat → List AV → Mem → (Int → Mem → Prop) → Prop} {cut : Nat → Lo → List AV → Mem → Prop} {Q : Int → Mem → Prop} {x1 : Int} {x2 : Int} {x3 : Int} {x4 : Int} {x5 : Int} {σ : Mem} (h :
  (x5 < 7 →
    call m_K_mayChoose [.inr (.inr 45), .inl x1, .inl x4] σ (fun (r1 : Int) (s2 : Mem) =>
    (r1 = 0 →
        cut 15 [some (.inr (.inr 45)), some (.inl x1), some (.inl x2), some (.inl x3), some (.inl x4), some (.inl (w32 (x5 + 1)))] [] s2) ∧
      (¬ r1 = 0 →
        call m_K_mayChoose [.inr (.inr 45), .inl x2, .inl x5] s2 (fun (r3 : Int) (s4 : Mem) =>
        (r3 = 0 →
            cut 15 [some (.inr (.inr 45)), some (.inl x1), some (.inl x2), some (.inl x3), some (.inl x4), some (.inl (w32 (x5 + 1)))] [] s4) ∧
          (¬ r3 = 0 →
            call m_K_isRest [.inr (.inr 45), .inl x1, .inl x2, .inl x4, .inl x5] s4 (fun (r5 : Int) (s6 : Mem) =>
            (r5 = 0 →
                cut 15 [some (.inr (.inr 45)), some (.inl x1), some (.inl x2), some (.inl x3), some (.inl x4), some (.inl (w32 (x5 + 1)))] [] s6) ∧
              (¬ r5 = 0 →
                (x3 = 0 →
                  (x3 = 0 →
                    cut 15 [some (.inr (.inr 45)), some (.inl x1), some (.inl x2), some (.inl (w32 (x3 + 1))), some (.inl x4), some (.inl (w32 (x5 + 1)))] [] (mset (mset s6 45 3 x4) 45 4 x5)) ∧
                  (¬ x3 = 0 →
                    cut 15 [some (.inr (.inr 45)), some (.inl x1), some (.inl x2), some (.inl (w32 (x3 + 1))), some (.inl x4), some (.inl (w32 (x5 + 1)))] [] (mset (mset s6 45 3 x4) 45 4 ((mset s6 45 3 x4) 45 4)))) ∧
                (¬ x3 = 0 →
                  (x3 = 0 →
                    cut 15 [some (.inr (.inr 45)), some (.inl x1), some (.inl x2), some (.inl (w32 (x3 + 1))), some (.inl x4), some (.inl (w32 (x5 + 1)))] [] (mset (mset s6 45 3 (s6 45 3)) 45 4 x5)) ∧
                  (¬ x3 = 0 →
                    cut 15 [some (.inr (.inr 45)), some (.inl x1), some (.inl x2), some (.inl (w32 (x3 + 1))), some (.inl x4), some (.inl (w32 (x5 + 1)))] [] (mset (mset s6 45 3 (s6 45 3)) 45 4 ((mset s6 45 3 (s6 45 3)) 45 4))))))))))) ∧
  (7 ≤ x5 →
    cut 5 [some (.inr (.inr 45)), some (.inl x1), some (.inl x2), some (.inl x3), some (.inl (w32 (x4 + 1))), none] [] σ)) : seg none call c_K_findRests false Q cut 2000 true (toPc 15 c_K_findRests) [some (.inr (.inr 45)), some (.inl x1), some (.inl x2), some (.inl x3), some (.inl x4), some (.inl x5)] [] σ := h
theorem e_K_findRests_15 {d : Nat} {Q : Int → Mem → Prop} {x1 : Int} {x2 : Int} {x3 : Int} {x4 : Int} {x5 : Int} {σ : Mem} (h :
  (x5 < 7 →
    wp d m_K_mayChoose [.inr (.inr 45), .inl x1, .inl x4] σ (fun (r1 : Int) (s2 : Mem) =>
    (r1 = 0 → K_K_findRests_15 d Q x1 x2 x3 x4 (w32 (x5 + 1)) s2) ∧
      (¬ r1 = 0 →
        wp d m_K_mayChoose [.inr (.inr 45), .inl x2, .inl x5] s2 (fun (r3 : Int) (s4 : Mem) =>
        (r3 = 0 → K_K_findRests_15 d Q x1 x2 x3 x4 (w32 (x5 + 1)) s4) ∧
          (¬ r3 = 0 →
            wp d m_K_isRest [.inr (.inr 45), .inl x1, .inl x2, .inl x4, .inl x5] s4 (fun (r5 : Int) (s6 : Mem) =>
            (r5 = 0 → K_K_findRests_15 d Q x1 x2 x3 x4 (w32 (x5 + 1)) s6) ∧
              (¬ r5 = 0 →
                (x3 = 0 →
                  (x3 = 0 →
                    K_K_findRests_15 d Q x1 x2 (w32 (x3 + 1)) x4 (w32 (x5 + 1)) (mset (mset s6 45 3 x4) 45 4 x5)) ∧
                  (¬ x3 = 0 →
                    K_K_findRests_15 d Q x1 x2 (w32 (x3 + 1)) x4 (w32 (x5 + 1)) (mset (mset s6 45 3 x4) 45 4 ((mset s6 45 3 x4) 45 4)))) ∧
                (¬ x3 = 0 →
                  (x3 = 0 →
                    K_K_findRests_15 d Q x1 x2 (w32 (x3 + 1)) x4 (w32 (x5 + 1)) (mset (mset s6 45 3 (s6 45 3)) 45 4 x5)) ∧
                  (¬ x3 = 0 →
                    K_K_findRests_15 d Q x1 x2 (w32 (x3 + 1)) x4 (w32 (x5 + 1)) (mset (mset s6 45 3 (s6 45 3)) 45 4 ((mset s6 45 3 (s6 45 3)) 45 4))))))))))) ∧
  (7 ≤ x5 → K_K_findRests_5 d Q x1 x2 x3 (w32 (x4 + 1)) σ)) : K_K_findRests_15 d Q x1 x2 x3 x4 x5 σ := XX_intro (g_K_findRests_15 (call := wp d) (cut := XX none (wp d) c_K_findRests false Q) (Q := Q) (x1 := x1) (x2 := x2) (x3 := x3) (x4 := x4) (x5 := x5) (σ := σ) (h))
abbrev K_K_isRest_17 (d : Nat) (Q : Int → Mem → Prop) (x1 : Int) (x2 : Int) (x3 : Int) (x4 : Int) (x5 : Int) (x7 : Int) (σ : Mem) : Prop := XX none (wp d) c_K_isRest true Q 17 [some (.inr (.inr 45)), some (.inl x1), some (.inl x2), some (.inl x3), some (.inl x4), some (.inr (.inl x5)), none, some (.inl x7)] [] σ
theorem g_K_isRest {call : Nat → List AV → Mem → (Int → Mem → Prop) → Prop} {cut : Nat → Lo → List AV → Mem → Prop} {Q : Int → Mem → Prop} {a1 : Int} {a2 : Int} {a3 : Int} {a4 : Int} {σ : Mem} (h :
  (0 ≤ (w32 ((w32 (a3 * 7)) + a4)) ∧ (w32 ((w32 (a3 * 7)) + a4)) < (49 : Int)) ∧ cut 17 [some (.inr (.inr 45)), some (.inl a1), some (.inl a2), some (.inl a3), some (.inl a4), some (.inr (.inl (σ 46 (w32 ((w32 (a3 * 7)) + a4)).toNat))), none, some (.inl 0)] [] σ) : seg none call c_K_isRest true Q cut 2000 true (toPc 0 c_K_isRest) [some (.inr (.inr 45)), some (.inl a1), some (.inl a2), some (.inl a3), some (.inl a4), none, none, none] [] σ := h
theorem e_K_isRest {d : Nat} {Q : Int → Mem → Prop} {a1 : Int} {a2 : Int} {a3 : Int} {a4 : Int} {σ : Mem} (h :
  (0 ≤ (w32 ((w32 (a3 * 7)) + a4)) ∧ (w32 ((w32 (a3 * 7)) + a4)) < (49 : Int)) ∧ K_K_isRest_17 d Q a1 a2 a3 a4 (σ 46 (w32 ((w32 (a3 * 7)) + a4)).toNat) 0 σ) : wp (d + 1) m_K_isRest [.inr (.inr 45), .inl a1, .inl a2, .inl a3, .inl a4] σ Q := wp_in rfl (XX_intro (g_K_isRest (call := wp d) (cut := XX none (wp d) c_K_isRest true Q) (Q := Q) (a1 := a1) (a2 := a2) (a3 := a3) (a4 := a4) (σ := σ) (h)))
theorem g_K_isRest_17 {call : Nat → List AV → Mem → (Int → Mem → Prop) → Prop} {cut : Nat → Lo → List AV → Mem → Prop} {Q : Int → Mem → Prop} {x1 : Int} {x2 : Int} {x3 : Int} {x4 : Int} {x5 : Int} {x7 : Int} {σ : Mem} (h :
  (x7 < 7 →
    call m_K_mayChoose [.inr (.inr 45), .inl x1, .inl x7] σ (fun (r1 : Int) (s2 : Mem) =>
    (r1 = 0 →
        call m_K_mayChoose [.inr (.inr 45), .inl x2, .inl x7] s2 (fun (r3 : Int) (s4 : Mem) =>
        (r3 = 0 →
            cut 17 [some (.inr (.inr 45)), some (.inl x1), some (.inl x2), some (.inl x3), some (.inl x4), some (.inr (.inl x5)), none, some (.inl (w32 (x7 + 1)))] [] s4) ∧
          (¬ r3 = 0 →
            (0 ≤ (w32 ((w32 (x3 * 7)) + x7)) ∧ (w32 ((w32 (x3 * 7)) + x7)) < (49 : Int)) ∧ ((s4 46 (w32 ((w32 (x3 * 7)) + x7)).toNat) < x5 → isB 0 ∧ Q 0 s4) ∧
            (x5 ≤ (s4 46 (w32 ((w32 (x3 * 7)) + x7)).toNat) →
              cut 17 [some (.inr (.inr 45)), some (.inl x1), some (.inl x2), some (.inl x3), some (.inl x4), some (.inr (.inl x5)), none, some (.inl (w32 (x7 + 1)))] [] s4)))) ∧
      (¬ r1 = 0 →
        (0 ≤ (w32 ((w32 (x7 * 7)) + x4)) ∧ (w32 ((w32 (x7 * 7)) + x4)) < (49 : Int)) ∧ (x5 < (s2 46 (w32 ((w32 (x7 * 7)) + x4)).toNat) → isB 0 ∧ Q 0 s2) ∧
        ((s2 46 (w32 ((w32 (x7 * 7)) + x4)).toNat) ≤ x5 →
          call m_K_mayChoose [.inr (.inr 45), .inl x2, .inl x7] s2 (fun (r5 : Int) (s6 : Mem) =>
          (r5 = 0 →
              cut 17 [some (.inr (.inr 45)), some (.inl x1), some (.inl x2), some (.inl x3), some (.inl x4), some (.inr (.inl x5)), none, some (.inl (w32 (x7 + 1)))] [] s6) ∧
            (¬ r5 = 0 →
              (0 ≤ (w32 ((w32 (x3 * 7)) + x7)) ∧ (w32 ((w32 (x3 * 7)) + x7)) < (49 : Int)) ∧ ((s6 46 (w32 ((w32 (x3 * 7)) + x7)).toNat) < x5 → isB 0 ∧ Q 0 s6) ∧
              (x5 ≤ (s6 46 (w32 ((w32 (x3 * 7)) + x7)).toNat) →
                cut 17 [some (.inr (.inr 45)), some (.inl x1), some (.inl x2), some (.inl x3), some (.inl x4), some (.inr (.inl x5)), none, some (.inl (w32 (x7 + 1)))] [] s6))))))) ∧
  (7 ≤ x7 → isB 1 ∧ Q 1 σ)) : seg none call c_K_isRest true Q cut 2000 true (toPc 17 c_K_isRest) [some (.inr (.inr 45)), some (.inl x1), some (.inl x2), some (.inl x3), some (.inl x4), some (.inr (.inl x5)), none, some (.inl x7)] [] σ := h
theorem e_K_isRest_17 {d : Nat} {Q : Int → Mem → Prop} {x1 : Int} {x2 : Int} {x3 : Int} {x4 : Int} {x5 : Int} {x7 : Int} {σ : Mem} (h :
  (x7 < 7 →
    wp d m_K_mayChoose [.inr (.inr 45), .inl x1, .inl x7] σ (fun (r1 : Int) (s2 : Mem) =>
    (r1 = 0 →
        wp d m_K_mayChoose [.inr (.inr 45), .inl x2, .inl x7] s2 (fun (r3 : Int) (s4 : Mem) =>
        (r3 = 0 → K_K_isRest_17 d Q x1 x2 x3 x4 x5 (w32 (x7 + 1)) s4) ∧
          (¬ r3 = 0 →
            (0 ≤ (w32 ((w32 (x3 * 7)) + x7)) ∧ (w32 ((w32 (x3 * 7)) + x7)) < (49 : Int)) ∧ ((s4 46 (w32 ((w32 (x3 * 7)) + x7)).toNat) < x5 → Q 0 s4) ∧
            (x5 ≤ (s4 46 (w32 ((w32 (x3 * 7)) + x7)).toNat) → K_K_isRest_17 d Q x1 x2 x3 x4 x5 (w32 (x7 + 1)) s4)))) ∧
      (¬ r1 = 0 →
        (0 ≤ (w32 ((w32 (x7 * 7)) + x4)) ∧ (w32 ((w32 (x7 * 7)) + x4)) < (49 : Int)) ∧ (x5 < (s2 46 (w32 ((w32 (x7 * 7)) + x4)).toNat) → Q 0 s2) ∧
        ((s2 46 (w32 ((w32 (x7 * 7)) + x4)).toNat) ≤ x5 →
          wp d m_K_mayChoose [.inr (.inr 45), .inl x2, .inl x7] s2 (fun (r5 : Int) (s6 : Mem) =>
          (r5 = 0 → K_K_isRest_17 d Q x1 x2 x3 x4 x5 (w32 (x7 + 1)) s6) ∧
            (¬ r5 = 0 →
              (0 ≤ (w32 ((w32 (x3 * 7)) + x7)) ∧ (w32 ((w32 (x3 * 7)) + x7)) < (49 : Int)) ∧ ((s6 46 (w32 ((w32 (x3 * 7)) + x7)).toNat) < x5 → Q 0 s6) ∧
              (x5 ≤ (s6 46 (w32 ((w32 (x3 * 7)) + x7)).toNat) → K_K_isRest_17 d Q x1 x2 x3 x4 x5 (w32 (x7 + 1)) s6))))))) ∧
  (7 ≤ x7 → Q 1 σ)) : K_K_isRest_17 d Q x1 x2 x3 x4 x5 x7 σ := XX_intro (g_K_isRest_17 (call := wp d) (cut := XX none (wp d) c_K_isRest true Q) (Q := Q) (x1 := x1) (x2 := x2) (x3 := x3) (x4 := x4) (x5 := x5) (x7 := x7) (σ := σ) (⟨fun z10 => wp_conseq (fun _ _ z9 => ⟨fun z8 => wp_conseq (fun _ _ z3 => ⟨fun z2 => (z3).1 z2, fun z2 => ⟨(((z3).2 z2)).1, ⟨fun z1 => ⟨isB0, (((((z3).2 z2)).2).1 z1)⟩, fun z1 => ((((z3).2 z2)).2).2 z1⟩⟩⟩) (((z9).1 z8)), fun z8 => ⟨(((z9).2 z8)).1, ⟨fun z7 => ⟨isB0, (((((z9).2 z8)).2).1 z7)⟩, fun z7 => wp_conseq (fun _ _ z6 => ⟨fun z5 => (z6).1 z5, fun z5 => ⟨(((z6).2 z5)).1, ⟨fun z4 => ⟨isB0, (((((z6).2 z5)).2).1 z4)⟩, fun z4 => ((((z6).2 z5)).2).2 z4⟩⟩⟩) ((((((z9).2 z8)).2).2 z7))⟩⟩⟩) (((h).1 z10)), fun z10 => ⟨isB1, ((h).2 z10)⟩⟩))
theorem g_P_keep {call : Nat → List AV → Mem → (Int → Mem → Prop) → Prop} {cut : Nat → Lo → List AV → Mem → Prop} {Q : Int → Mem → Prop} {a1 : Int} {a2 : Int} {a3 : Int} {σ : Mem} (h :
  ((σ 31 0) < 30 →
    (0 ≤ (σ 31 0) ∧ (σ 31 0) < (30 : Int)) ∧ (0 ≤ ((mset σ 32 (σ 31 0).toNat a1) 31 0) ∧ ((mset σ 32 (σ 31 0).toNat a1) 31 0) < (30 : Int)) ∧ (0 ≤ ((mset (mset σ 32 (σ 31 0).toNat a1) 33 ((mset σ 32 (σ 31 0).toNat a1) 31 0).toNat a2) 31 0) ∧ ((mset (mset σ 32 (σ 31 0).toNat a1) 33 ((mset σ 32 (σ 31 0).toNat a1) 31 0).toNat a2) 31 0) < (30 : Int)) ∧ Q 0 (mset (mset (mset (mset σ 32 (σ 31 0).toNat a1) 33 ((mset σ 32 (σ 31 0).toNat a1) 31 0).toNat a2) 34 ((mset (mset σ 32 (σ 31 0).toNat a1) 33 ((mset σ 32 (σ 31 0).toNat a1) 31 0).toNat a2) 31 0).toNat a3) 31 0 (w32 (((mset (mset (mset σ 32 (σ 31 0).toNat a1) 33 ((mset σ 32 (σ 31 0).toNat a1) 31 0).toNat a2) 34 ((mset (mset σ 32 (σ 31 0).toNat a1) 33 ((mset σ 32 (σ 31 0).toNat a1) 31 0).toNat a2) 31 0).toNat a3) 31 0) + 1)))) ∧
  (30 ≤ (σ 31 0) →
    call m_P_giveUpOldest [.inr (.inr 31)] σ (fun (r1 : Int) (s2 : Mem) =>
    (0 ≤ (s2 31 0) ∧ (s2 31 0) < (30 : Int)) ∧ (0 ≤ ((mset s2 32 (s2 31 0).toNat a1) 31 0) ∧ ((mset s2 32 (s2 31 0).toNat a1) 31 0) < (30 : Int)) ∧ (0 ≤ ((mset (mset s2 32 (s2 31 0).toNat a1) 33 ((mset s2 32 (s2 31 0).toNat a1) 31 0).toNat a2) 31 0) ∧ ((mset (mset s2 32 (s2 31 0).toNat a1) 33 ((mset s2 32 (s2 31 0).toNat a1) 31 0).toNat a2) 31 0) < (30 : Int)) ∧ Q 0 (mset (mset (mset (mset s2 32 (s2 31 0).toNat a1) 33 ((mset s2 32 (s2 31 0).toNat a1) 31 0).toNat a2) 34 ((mset (mset s2 32 (s2 31 0).toNat a1) 33 ((mset s2 32 (s2 31 0).toNat a1) 31 0).toNat a2) 31 0).toNat a3) 31 0 (w32 (((mset (mset (mset s2 32 (s2 31 0).toNat a1) 33 ((mset s2 32 (s2 31 0).toNat a1) 31 0).toNat a2) 34 ((mset (mset s2 32 (s2 31 0).toNat a1) 33 ((mset s2 32 (s2 31 0).toNat a1) 31 0).toNat a2) 31 0).toNat a3) 31 0) + 1)))))) : seg none call c_P_keep false Q cut 2000 true (toPc 0 c_P_keep) [some (.inr (.inr 31)), some (.inl a1), some (.inl a2), some (.inl a3)] [] σ := h
theorem e_P_keep {d : Nat} {Q : Int → Mem → Prop} {a1 : Int} {a2 : Int} {a3 : Int} {σ : Mem} (h :
  ((σ 31 0) < 30 →
    (0 ≤ (σ 31 0) ∧ (σ 31 0) < (30 : Int)) ∧ (0 ≤ ((mset σ 32 (σ 31 0).toNat a1) 31 0) ∧ ((mset σ 32 (σ 31 0).toNat a1) 31 0) < (30 : Int)) ∧ (0 ≤ ((mset (mset σ 32 (σ 31 0).toNat a1) 33 ((mset σ 32 (σ 31 0).toNat a1) 31 0).toNat a2) 31 0) ∧ ((mset (mset σ 32 (σ 31 0).toNat a1) 33 ((mset σ 32 (σ 31 0).toNat a1) 31 0).toNat a2) 31 0) < (30 : Int)) ∧ Q 0 (mset (mset (mset (mset σ 32 (σ 31 0).toNat a1) 33 ((mset σ 32 (σ 31 0).toNat a1) 31 0).toNat a2) 34 ((mset (mset σ 32 (σ 31 0).toNat a1) 33 ((mset σ 32 (σ 31 0).toNat a1) 31 0).toNat a2) 31 0).toNat a3) 31 0 (w32 (((mset (mset (mset σ 32 (σ 31 0).toNat a1) 33 ((mset σ 32 (σ 31 0).toNat a1) 31 0).toNat a2) 34 ((mset (mset σ 32 (σ 31 0).toNat a1) 33 ((mset σ 32 (σ 31 0).toNat a1) 31 0).toNat a2) 31 0).toNat a3) 31 0) + 1)))) ∧
  (30 ≤ (σ 31 0) →
    wp d m_P_giveUpOldest [.inr (.inr 31)] σ (fun (r1 : Int) (s2 : Mem) =>
    (0 ≤ (s2 31 0) ∧ (s2 31 0) < (30 : Int)) ∧ (0 ≤ ((mset s2 32 (s2 31 0).toNat a1) 31 0) ∧ ((mset s2 32 (s2 31 0).toNat a1) 31 0) < (30 : Int)) ∧ (0 ≤ ((mset (mset s2 32 (s2 31 0).toNat a1) 33 ((mset s2 32 (s2 31 0).toNat a1) 31 0).toNat a2) 31 0) ∧ ((mset (mset s2 32 (s2 31 0).toNat a1) 33 ((mset s2 32 (s2 31 0).toNat a1) 31 0).toNat a2) 31 0) < (30 : Int)) ∧ Q 0 (mset (mset (mset (mset s2 32 (s2 31 0).toNat a1) 33 ((mset s2 32 (s2 31 0).toNat a1) 31 0).toNat a2) 34 ((mset (mset s2 32 (s2 31 0).toNat a1) 33 ((mset s2 32 (s2 31 0).toNat a1) 31 0).toNat a2) 31 0).toNat a3) 31 0 (w32 (((mset (mset (mset s2 32 (s2 31 0).toNat a1) 33 ((mset s2 32 (s2 31 0).toNat a1) 31 0).toNat a2) 34 ((mset (mset s2 32 (s2 31 0).toNat a1) 33 ((mset s2 32 (s2 31 0).toNat a1) 31 0).toNat a2) 31 0).toNat a3) 31 0) + 1)))))) : wp (d + 1) m_P_keep [.inr (.inr 31), .inl a1, .inl a2, .inl a3] σ Q := wp_in rfl (XX_intro (g_P_keep (call := wp d) (cut := XX none (wp d) c_P_keep false Q) (Q := Q) (a1 := a1) (a2 := a2) (a3 := a3) (σ := σ) (h)))
theorem g_P_giveUpOldest {call : Nat → List AV → Mem → (Int → Mem → Prop) → Prop} {cut : Nat → Lo → List AV → Mem → Prop} {Q : Int → Mem → Prop}  {σ : Mem} (h :
  (0 ≤ (1 : Int) ∧ 0 ≤ (0 : Int) ∧ 0 < ((mset σ 31 0 29) 31 0) ∧ 1 + ((mset σ 31 0 29) 31 0) ≤ (30 : Int) ∧ 0 + ((mset σ 31 0 29) 31 0) ≤ (30 : Int)) ∧ (0 ≤ (1 : Int) ∧ 0 ≤ (0 : Int) ∧ 0 < ((mcpy (mset σ 31 0 29) 32 1 32 0 ((mset σ 31 0 29) 31 0).toNat) 31 0) ∧ 1 + ((mcpy (mset σ 31 0 29) 32 1 32 0 ((mset σ 31 0 29) 31 0).toNat) 31 0) ≤ (30 : Int) ∧ 0 + ((mcpy (mset σ 31 0 29) 32 1 32 0 ((mset σ 31 0 29) 31 0).toNat) 31 0) ≤ (30 : Int)) ∧ (0 ≤ (1 : Int) ∧ 0 ≤ (0 : Int) ∧ 0 < ((mcpy (mcpy (mset σ 31 0 29) 32 1 32 0 ((mset σ 31 0 29) 31 0).toNat) 33 1 33 0 ((mcpy (mset σ 31 0 29) 32 1 32 0 ((mset σ 31 0 29) 31 0).toNat) 31 0).toNat) 31 0) ∧ 1 + ((mcpy (mcpy (mset σ 31 0 29) 32 1 32 0 ((mset σ 31 0 29) 31 0).toNat) 33 1 33 0 ((mcpy (mset σ 31 0 29) 32 1 32 0 ((mset σ 31 0 29) 31 0).toNat) 31 0).toNat) 31 0) ≤ (30 : Int) ∧ 0 + ((mcpy (mcpy (mset σ 31 0 29) 32 1 32 0 ((mset σ 31 0 29) 31 0).toNat) 33 1 33 0 ((mcpy (mset σ 31 0 29) 32 1 32 0 ((mset σ 31 0 29) 31 0).toNat) 31 0).toNat) 31 0) ≤ (30 : Int)) ∧ Q 0 (mcpy (mcpy (mcpy (mset σ 31 0 29) 32 1 32 0 ((mset σ 31 0 29) 31 0).toNat) 33 1 33 0 ((mcpy (mset σ 31 0 29) 32 1 32 0 ((mset σ 31 0 29) 31 0).toNat) 31 0).toNat) 34 1 34 0 ((mcpy (mcpy (mset σ 31 0 29) 32 1 32 0 ((mset σ 31 0 29) 31 0).toNat) 33 1 33 0 ((mcpy (mset σ 31 0 29) 32 1 32 0 ((mset σ 31 0 29) 31 0).toNat) 31 0).toNat) 31 0).toNat)) : seg none call c_P_giveUpOldest false Q cut 2000 true (toPc 0 c_P_giveUpOldest) [some (.inr (.inr 31))] [] σ := h
theorem e_P_giveUpOldest {d : Nat} {Q : Int → Mem → Prop}  {σ : Mem} (h :
  (0 ≤ (1 : Int) ∧ 0 ≤ (0 : Int) ∧ 0 < ((mset σ 31 0 29) 31 0) ∧ 1 + ((mset σ 31 0 29) 31 0) ≤ (30 : Int) ∧ 0 + ((mset σ 31 0 29) 31 0) ≤ (30 : Int)) ∧ (0 ≤ (1 : Int) ∧ 0 ≤ (0 : Int) ∧ 0 < ((mcpy (mset σ 31 0 29) 32 1 32 0 ((mset σ 31 0 29) 31 0).toNat) 31 0) ∧ 1 + ((mcpy (mset σ 31 0 29) 32 1 32 0 ((mset σ 31 0 29) 31 0).toNat) 31 0) ≤ (30 : Int) ∧ 0 + ((mcpy (mset σ 31 0 29) 32 1 32 0 ((mset σ 31 0 29) 31 0).toNat) 31 0) ≤ (30 : Int)) ∧ (0 ≤ (1 : Int) ∧ 0 ≤ (0 : Int) ∧ 0 < ((mcpy (mcpy (mset σ 31 0 29) 32 1 32 0 ((mset σ 31 0 29) 31 0).toNat) 33 1 33 0 ((mcpy (mset σ 31 0 29) 32 1 32 0 ((mset σ 31 0 29) 31 0).toNat) 31 0).toNat) 31 0) ∧ 1 + ((mcpy (mcpy (mset σ 31 0 29) 32 1 32 0 ((mset σ 31 0 29) 31 0).toNat) 33 1 33 0 ((mcpy (mset σ 31 0 29) 32 1 32 0 ((mset σ 31 0 29) 31 0).toNat) 31 0).toNat) 31 0) ≤ (30 : Int) ∧ 0 + ((mcpy (mcpy (mset σ 31 0 29) 32 1 32 0 ((mset σ 31 0 29) 31 0).toNat) 33 1 33 0 ((mcpy (mset σ 31 0 29) 32 1 32 0 ((mset σ 31 0 29) 31 0).toNat) 31 0).toNat) 31 0) ≤ (30 : Int)) ∧ Q 0 (mcpy (mcpy (mcpy (mset σ 31 0 29) 32 1 32 0 ((mset σ 31 0 29) 31 0).toNat) 33 1 33 0 ((mcpy (mset σ 31 0 29) 32 1 32 0 ((mset σ 31 0 29) 31 0).toNat) 31 0).toNat) 34 1 34 0 ((mcpy (mcpy (mset σ 31 0 29) 32 1 32 0 ((mset σ 31 0 29) 31 0).toNat) 33 1 33 0 ((mcpy (mset σ 31 0 29) 32 1 32 0 ((mset σ 31 0 29) 31 0).toNat) 31 0).toNat) 31 0).toNat)) : wp (d + 1) m_P_giveUpOldest [.inr (.inr 31)] σ Q := wp_in rfl (XX_intro (g_P_giveUpOldest (call := wp d) (cut := XX none (wp d) c_P_giveUpOldest false Q) (Q := Q)  (σ := σ) (h)))
theorem g_P_takeBack {call : Nat → List AV → Mem → (Int → Mem → Prop) → Prop} {cut : Nat → Lo → List AV → Mem → Prop} {Q : Int → Mem → Prop}  {σ : Mem} (h :
  ((σ 31 0) = 0 → Q 0 σ) ∧
  (¬ (σ 31 0) = 0 →
    (0 ≤ ((mset σ 31 0 (w32 ((σ 31 0) - 1))) 31 0) ∧ ((mset σ 31 0 (w32 ((σ 31 0) - 1))) 31 0) < (30 : Int)) ∧ (((mset σ 31 0 (w32 ((σ 31 0) - 1))) 32 ((mset σ 31 0 (w32 ((σ 31 0) - 1))) 31 0).toNat) < 0 ∨ 2 < ((mset σ 31 0 (w32 ((σ 31 0) - 1))) 32 ((mset σ 31 0 (w32 ((σ 31 0) - 1))) 31 0).toNat) → (0 ≤ ((mset σ 31 0 (w32 ((σ 31 0) - 1))) 31 0) ∧ ((mset σ 31 0 (w32 ((σ 31 0) - 1))) 31 0) < (30 : Int)) ∧ Q 0 (mset (mset σ 31 0 (w32 ((σ 31 0) - 1))) 7 3 ((mset σ 31 0 (w32 ((σ 31 0) - 1))) 34 ((mset σ 31 0 (w32 ((σ 31 0) - 1))) 31 0).toNat))) ∧
    (((mset σ 31 0 (w32 ((σ 31 0) - 1))) 32 ((mset σ 31 0 (w32 ((σ 31 0) - 1))) 31 0).toNat) = 0 → Q 0 (mset (mset σ 31 0 (w32 ((σ 31 0) - 1))) 7 10 (w32 (((mset σ 31 0 (w32 ((σ 31 0) - 1))) 7 10) - 1)))) ∧
    (((mset σ 31 0 (w32 ((σ 31 0) - 1))) 32 ((mset σ 31 0 (w32 ((σ 31 0) - 1))) 31 0).toNat) = 0 + 1 → Q 0 (mset (mset σ 31 0 (w32 ((σ 31 0) - 1))) 7 13 (w32 (((mset σ 31 0 (w32 ((σ 31 0) - 1))) 7 13) - 1)))) ∧
    (((mset σ 31 0 (w32 ((σ 31 0) - 1))) 32 ((mset σ 31 0 (w32 ((σ 31 0) - 1))) 31 0).toNat) = 0 + 1 + 1 → (0 ≤ ((mset σ 31 0 (w32 ((σ 31 0) - 1))) 31 0) ∧ ((mset σ 31 0 (w32 ((σ 31 0) - 1))) 31 0) < (30 : Int)) ∧ (0 ≤ ((mset σ 31 0 (w32 ((σ 31 0) - 1))) 31 0) ∧ ((mset σ 31 0 (w32 ((σ 31 0) - 1))) 31 0) < (30 : Int)) ∧ (0 ≤ ((mset σ 31 0 (w32 ((σ 31 0) - 1))) 33 ((mset σ 31 0 (w32 ((σ 31 0) - 1))) 31 0).toNat) ∧ ((mset σ 31 0 (w32 ((σ 31 0) - 1))) 33 ((mset σ 31 0 (w32 ((σ 31 0) - 1))) 31 0).toNat) < (24 : Int)) ∧ Q 0 (mset (mset σ 31 0 (w32 ((σ 31 0) - 1))) 12 ((mset σ 31 0 (w32 ((σ 31 0) - 1))) 33 ((mset σ 31 0 (w32 ((σ 31 0) - 1))) 31 0).toNat).toNat ((mset σ 31 0 (w32 ((σ 31 0) - 1))) 34 ((mset σ 31 0 (w32 ((σ 31 0) - 1))) 31 0).toNat))) ∧ True)) : seg none call c_P_takeBack false Q cut 2000 true (toPc 0 c_P_takeBack) [some (.inr (.inr 31)), some (.inr (.inr 7))] [] σ := h
theorem e_P_takeBack {d : Nat} {Q : Int → Mem → Prop}  {σ : Mem} (h :
  ((σ 31 0) = 0 → Q 0 σ) ∧
  (¬ (σ 31 0) = 0 →
    (0 ≤ ((mset σ 31 0 (w32 ((σ 31 0) - 1))) 31 0) ∧ ((mset σ 31 0 (w32 ((σ 31 0) - 1))) 31 0) < (30 : Int)) ∧ (((mset σ 31 0 (w32 ((σ 31 0) - 1))) 32 ((mset σ 31 0 (w32 ((σ 31 0) - 1))) 31 0).toNat) < 0 ∨ 2 < ((mset σ 31 0 (w32 ((σ 31 0) - 1))) 32 ((mset σ 31 0 (w32 ((σ 31 0) - 1))) 31 0).toNat) → (0 ≤ ((mset σ 31 0 (w32 ((σ 31 0) - 1))) 31 0) ∧ ((mset σ 31 0 (w32 ((σ 31 0) - 1))) 31 0) < (30 : Int)) ∧ Q 0 (mset (mset σ 31 0 (w32 ((σ 31 0) - 1))) 7 3 ((mset σ 31 0 (w32 ((σ 31 0) - 1))) 34 ((mset σ 31 0 (w32 ((σ 31 0) - 1))) 31 0).toNat))) ∧
    (((mset σ 31 0 (w32 ((σ 31 0) - 1))) 32 ((mset σ 31 0 (w32 ((σ 31 0) - 1))) 31 0).toNat) = 0 → Q 0 (mset (mset σ 31 0 (w32 ((σ 31 0) - 1))) 7 10 (w32 (((mset σ 31 0 (w32 ((σ 31 0) - 1))) 7 10) - 1)))) ∧
    (((mset σ 31 0 (w32 ((σ 31 0) - 1))) 32 ((mset σ 31 0 (w32 ((σ 31 0) - 1))) 31 0).toNat) = 1 → Q 0 (mset (mset σ 31 0 (w32 ((σ 31 0) - 1))) 7 13 (w32 (((mset σ 31 0 (w32 ((σ 31 0) - 1))) 7 13) - 1)))) ∧
    (((mset σ 31 0 (w32 ((σ 31 0) - 1))) 32 ((mset σ 31 0 (w32 ((σ 31 0) - 1))) 31 0).toNat) = 2 → (0 ≤ ((mset σ 31 0 (w32 ((σ 31 0) - 1))) 31 0) ∧ ((mset σ 31 0 (w32 ((σ 31 0) - 1))) 31 0) < (30 : Int)) ∧ (0 ≤ ((mset σ 31 0 (w32 ((σ 31 0) - 1))) 31 0) ∧ ((mset σ 31 0 (w32 ((σ 31 0) - 1))) 31 0) < (30 : Int)) ∧ (0 ≤ ((mset σ 31 0 (w32 ((σ 31 0) - 1))) 33 ((mset σ 31 0 (w32 ((σ 31 0) - 1))) 31 0).toNat) ∧ ((mset σ 31 0 (w32 ((σ 31 0) - 1))) 33 ((mset σ 31 0 (w32 ((σ 31 0) - 1))) 31 0).toNat) < (24 : Int)) ∧ Q 0 (mset (mset σ 31 0 (w32 ((σ 31 0) - 1))) 12 ((mset σ 31 0 (w32 ((σ 31 0) - 1))) 33 ((mset σ 31 0 (w32 ((σ 31 0) - 1))) 31 0).toNat).toNat ((mset σ 31 0 (w32 ((σ 31 0) - 1))) 34 ((mset σ 31 0 (w32 ((σ 31 0) - 1))) 31 0).toNat))))) : wp (d + 1) m_P_takeBack [.inr (.inr 31), .inr (.inr 7)] σ Q := wp_in rfl (XX_intro (g_P_takeBack (call := wp d) (cut := XX none (wp d) c_P_takeBack false Q) (Q := Q)  (σ := σ) (⟨fun z2 => (h).1 z2, fun z2 => ⟨(((h).2 z2)).1, ⟨fun z1 => (((((h).2 z2)).2).1 z1), fun z1 => (((((h).2 z2)).2).2.1 (z1.trans (by decide))), fun z1 => (((((h).2 z2)).2).2.2.1 (z1.trans (by decide))), fun z1 => (((((h).2 z2)).2).2.2.2 (z1.trans (by decide))), trivial⟩⟩⟩)))
theorem g_S_begin {call : Nat → List AV → Mem → (Int → Mem → Prop) → Prop} {cut : Nat → Lo → List AV → Mem → Prop} {Q : Int → Mem → Prop}  {σ : Mem} (h :
  (isB 1) ∧ (0 ≤ (0 : Int) ∧ 0 ≤ (0 : Int) ∧ 0 < (4 : Int) ∧ 0 + 4 ≤ (4 : Int) ∧ 0 + 4 ≤ (4 : Int)) ∧ (0 ≤ (0 : Int) ∧ 0 ≤ (0 : Int) ∧ 0 < (24 : Int) ∧ 0 + 24 ≤ (24 : Int) ∧ 0 + 24 ≤ (24 : Int)) ∧ (0 ≤ (0 : Int) ∧ 0 ≤ (0 : Int) ∧ 0 < (24 : Int) ∧ 0 + 24 ≤ (24 : Int) ∧ 0 + 24 ≤ (24 : Int)) ∧ (0 ≤ (0 : Int) ∧ 0 ≤ (0 : Int) ∧ 0 < (24 : Int) ∧ 0 + 24 ≤ (24 : Int) ∧ 0 + 24 ≤ (24 : Int)) ∧ call m_S_reducePrior [.inr (.inr 7)] (mcpy (mcpy (mcpy (mcpy (mset (mset (mset (mset (mset (mset (mset σ 7 0 1) 7 1 ((mset σ 7 0 1) 1 4)) 7 2 ((mset (mset σ 7 0 1) 7 1 ((mset σ 7 0 1) 1 4)) 1 5)) 7 3 0) 7 10 0) 7 13 0) 7 16 0) 3 0 8 0 4) 4 0 10 0 24) 4 0 12 0 24) 5 0 11 0 24) (fun (r1 : Int) (s2 : Mem) => Q 0 s2)) : seg none call c_S_begin false Q cut 2000 true (toPc 0 c_S_begin) [some (.inr (.inr 7)), some (.inr (.inr 1))] [] σ := h
theorem e_S_begin {d : Nat} {Q : Int → Mem → Prop}  {σ : Mem} (h :
  wp d m_S_reducePrior [.inr (.inr 7)] (mcpy (mcpy (mcpy (mcpy (mset (mset (mset (mset (mset (mset (mset σ 7 0 1) 7 1 ((mset σ 7 0 1) 1 4)) 7 2 ((mset (mset σ 7 0 1) 7 1 ((mset σ 7 0 1) 1 4)) 1 5)) 7 3 0) 7 10 0) 7 13 0) 7 16 0) 3 0 8 0 4) 4 0 10 0 24) 4 0 12 0 24) 5 0 11 0 24) (fun (r1 : Int) (s2 : Mem) => Q 0 s2)) : wp (d + 1) m_S_begin [.inr (.inr 7), .inr (.inr 1)] σ Q := wp_in rfl (XX_intro (g_S_begin (call := wp d) (cut := XX none (wp d) c_S_begin false Q) (Q := Q)  (σ := σ) (⟨isB1, ⟨(by decide), ⟨(by decide), ⟨(by decide), ⟨(by decide), h⟩⟩⟩⟩⟩)))
abbrev K_S_reducePrior_4 (d : Nat) (Q : Int → Mem → Prop) (x1 : Int) (x3 : Int) (σ : Mem) : Prop := XX none (wp d) c_S_reducePrior false Q 4 [some (.inr (.inr 7)), some (.inr (.inl x1)), none, some (.inl x3)] [] σ
abbrev K_S_reducePrior_37 (d : Nat) (Q : Int → Mem → Prop) (x1 : Int) (x3 : Int) (σ : Mem) : Prop := XX none (wp d) c_S_reducePrior false Q 37 [some (.inr (.inr 7)), some (.inr (.inl x1)), none, some (.inl x3)] [] σ
theorem g_S_reducePrior {call : Nat → List AV → Mem → (Int → Mem → Prop) → Prop} {cut : Nat → Lo → List AV → Mem → Prop} {Q : Int → Mem → Prop}  {σ : Mem} (h :
  cut 4 [some (.inr (.inr 7)), some (.inr (.inl 0)), none, some (.inl 0)] [] σ) : seg none call c_S_reducePrior false Q cut 2000 true (toPc 0 c_S_reducePrior) [some (.inr (.inr 7)), none, none, none] [] σ := h
theorem e_S_reducePrior {d : Nat} {Q : Int → Mem → Prop}  {σ : Mem} (h :
  K_S_reducePrior_4 d Q 0 0 σ) : wp (d + 1) m_S_reducePrior [.inr (.inr 7)] σ Q := wp_in rfl (XX_intro (g_S_reducePrior (call := wp d) (cut := XX none (wp d) c_S_reducePrior false Q) (Q := Q)  (σ := σ) (h)))
theorem g_S_reducePrior_4 {call : Nat → List AV → Mem → (Int → Mem → Prop) → Prop} {cut : Nat → Lo → List AV → Mem → Prop} {Q : Int → Mem → Prop} {x1 : Int} {x3 : Int} {σ : Mem} (h :
  (x3 < (σ 7 1) →
    (0 ≤ x3 ∧ x3 < (4 : Int)) ∧ call m_X_commonDivisor [.inr (.inl x1), .inr (.inl (σ 8 x3.toNat))] σ (fun (r1 : Int) (s2 : Mem) =>
    cut 4 [some (.inr (.inr 7)), some (.inr (.inl r1)), none, some (.inl (w32 (x3 + 1)))] [] s2)) ∧
  ((σ 7 1) ≤ x3 →
    cut 37 [some (.inr (.inr 7)), some (.inr (.inl x1)), none, some (.inl 0)] [] (mset σ 7 6 0))) : seg none call c_S_reducePrior false Q cut 2000 true (toPc 4 c_S_reducePrior) [some (.inr (.inr 7)), some (.inr (.inl x1)), none, some (.inl x3)] [] σ := h
theorem e_S_reducePrior_4 {d : Nat} {Q : Int → Mem → Prop} {x1 : Int} {x3 : Int} {σ : Mem} (h :
  (x3 < (σ 7 1) →
    (0 ≤ x3 ∧ x3 < (4 : Int)) ∧ wp d m_X_commonDivisor [.inr (.inl x1), .inr (.inl (σ 8 x3.toNat))] σ (fun (r1 : Int) (s2 : Mem) => K_S_reducePrior_4 d Q r1 (w32 (x3 + 1)) s2)) ∧
  ((σ 7 1) ≤ x3 → K_S_reducePrior_37 d Q x1 0 (mset σ 7 6 0))) : K_S_reducePrior_4 d Q x1 x3 σ := XX_intro (g_S_reducePrior_4 (call := wp d) (cut := XX none (wp d) c_S_reducePrior false Q) (Q := Q) (x1 := x1) (x3 := x3) (σ := σ) (h))
theorem g_S_reducePrior_37 {call : Nat → List AV → Mem → (Int → Mem → Prop) → Prop} {cut : Nat → Lo → List AV → Mem → Prop} {Q : Int → Mem → Prop} {x1 : Int} {x3 : Int} {σ : Mem} (h :
  (x3 < (σ 7 1) →
    (1 < x1 →
      (0 ≤ x3 ∧ x3 < (4 : Int)) ∧ (¬ x1 = 0) ∧ (0 ≤ x3 ∧ x3 < (4 : Int)) ∧ (0 ≤ x3 ∧ x3 < (4 : Int)) ∧ cut 37 [some (.inr (.inr 7)), some (.inr (.inl x1)), none, some (.inl (w32 (x3 + 1)))] [] (mset (mset σ 9 x3.toNat (w64 (Int.tdiv (σ 8 x3.toNat) x1))) 7 6 (w64 (((mset σ 9 x3.toNat (w64 (Int.tdiv (σ 8 x3.toNat) x1))) 7 6) + ((mset σ 9 x3.toNat (w64 (Int.tdiv (σ 8 x3.toNat) x1))) 9 x3.toNat))))) ∧
    (x1 ≤ 1 →
      (0 ≤ x3 ∧ x3 < (4 : Int)) ∧ (0 ≤ x3 ∧ x3 < (4 : Int)) ∧ (0 ≤ x3 ∧ x3 < (4 : Int)) ∧ cut 37 [some (.inr (.inr 7)), some (.inr (.inl x1)), none, some (.inl (w32 (x3 + 1)))] [] (mset (mset σ 9 x3.toNat (σ 8 x3.toNat)) 7 6 (w64 (((mset σ 9 x3.toNat (σ 8 x3.toNat)) 7 6) + ((mset σ 9 x3.toNat (σ 8 x3.toNat)) 9 x3.toNat)))))) ∧
  ((σ 7 1) ≤ x3 → Q 0 σ)) : seg none call c_S_reducePrior false Q cut 2000 true (toPc 37 c_S_reducePrior) [some (.inr (.inr 7)), some (.inr (.inl x1)), none, some (.inl x3)] [] σ := h
theorem e_S_reducePrior_37 {d : Nat} {Q : Int → Mem → Prop} {x1 : Int} {x3 : Int} {σ : Mem} (h :
  (x3 < (σ 7 1) →
    (1 < x1 →
      (0 ≤ x3 ∧ x3 < (4 : Int)) ∧ (¬ x1 = 0) ∧ (0 ≤ x3 ∧ x3 < (4 : Int)) ∧ (0 ≤ x3 ∧ x3 < (4 : Int)) ∧ K_S_reducePrior_37 d Q x1 (w32 (x3 + 1)) (mset (mset σ 9 x3.toNat (w64 (Int.tdiv (σ 8 x3.toNat) x1))) 7 6 (w64 (((mset σ 9 x3.toNat (w64 (Int.tdiv (σ 8 x3.toNat) x1))) 7 6) + ((mset σ 9 x3.toNat (w64 (Int.tdiv (σ 8 x3.toNat) x1))) 9 x3.toNat))))) ∧
    (x1 ≤ 1 →
      (0 ≤ x3 ∧ x3 < (4 : Int)) ∧ (0 ≤ x3 ∧ x3 < (4 : Int)) ∧ (0 ≤ x3 ∧ x3 < (4 : Int)) ∧ K_S_reducePrior_37 d Q x1 (w32 (x3 + 1)) (mset (mset σ 9 x3.toNat (σ 8 x3.toNat)) 7 6 (w64 (((mset σ 9 x3.toNat (σ 8 x3.toNat)) 7 6) + ((mset σ 9 x3.toNat (σ 8 x3.toNat)) 9 x3.toNat)))))) ∧
  ((σ 7 1) ≤ x3 → Q 0 σ)) : K_S_reducePrior_37 d Q x1 x3 σ := XX_intro (g_S_reducePrior_37 (call := wp d) (cut := XX none (wp d) c_S_reducePrior false Q) (Q := Q) (x1 := x1) (x3 := x3) (σ := σ) (h))
theorem g_S_copyFromA {call : Nat → List AV → Mem → (Int → Mem → Prop) → Prop} {cut : Nat → Lo → List AV → Mem → Prop} {Q : Int → Mem → Prop}  {σ : Mem} (h :
  (isB (σ 7 0)) ∧ (0 ≤ (0 : Int) ∧ 0 ≤ (0 : Int) ∧ 0 < (4 : Int) ∧ 0 + 4 ≤ (4 : Int) ∧ 0 + 4 ≤ (4 : Int)) ∧ (0 ≤ (0 : Int) ∧ 0 ≤ (0 : Int) ∧ 0 < (4 : Int) ∧ 0 + 4 ≤ (4 : Int) ∧ 0 + 4 ≤ (4 : Int)) ∧ (0 ≤ (0 : Int) ∧ 0 ≤ (0 : Int) ∧ 0 < (24 : Int) ∧ 0 + 24 ≤ (24 : Int) ∧ 0 + 24 ≤ (24 : Int)) ∧ (0 ≤ (0 : Int) ∧ 0 ≤ (0 : Int) ∧ 0 < (24 : Int) ∧ 0 + 24 ≤ (24 : Int) ∧ 0 + 24 ≤ (24 : Int)) ∧ (0 ≤ (0 : Int) ∧ 0 ≤ (0 : Int) ∧ 0 < (24 : Int) ∧ 0 + 24 ≤ (24 : Int) ∧ 0 + 24 ≤ (24 : Int)) ∧ (0 ≤ (0 : Int) ∧ 0 ≤ (0 : Int) ∧ 0 < (12 : Int) ∧ 0 + 12 ≤ (12 : Int) ∧ 0 + 12 ≤ (12 : Int)) ∧ (0 ≤ (0 : Int) ∧ 0 ≤ (0 : Int) ∧ 0 < (288 : Int) ∧ 0 + 288 ≤ (288 : Int) ∧ 0 + 288 ≤ (288 : Int)) ∧ (0 ≤ (0 : Int) ∧ 0 ≤ (0 : Int) ∧ 0 < (6 : Int) ∧ 0 + 6 ≤ (6 : Int) ∧ 0 + 6 ≤ (6 : Int)) ∧ (0 ≤ (0 : Int) ∧ 0 ≤ (0 : Int) ∧ 0 < (6 : Int) ∧ 0 + 6 ≤ (6 : Int) ∧ 0 + 6 ≤ (6 : Int)) ∧ (0 ≤ (0 : Int) ∧ 0 ≤ (0 : Int) ∧ 0 < (16 : Int) ∧ 0 + 16 ≤ (16 : Int) ∧ 0 + 16 ≤ (16 : Int)) ∧ (0 ≤ (0 : Int) ∧ 0 ≤ (0 : Int) ∧ 0 < (4 : Int) ∧ 0 + 4 ≤ (4 : Int) ∧ 0 + 4 ≤ (4 : Int)) ∧ Q 0 (mcpy (mcpy (mcpy (mcpy (mcpy (mcpy (mcpy (mcpy (mcpy (mcpy (mcpy (mset (mset (mset (mset (mset (mset (mset (mset σ 19 0 (σ 7 0)) 19 1 ((mset σ 19 0 (σ 7 0)) 7 1)) 19 2 ((mset (mset σ 19 0 (σ 7 0)) 19 1 ((mset σ 19 0 (σ 7 0)) 7 1)) 7 2)) 19 3 ((mset (mset (mset σ 19 0 (σ 7 0)) 19 1 ((mset σ 19 0 (σ 7 0)) 7 1)) 19 2 ((mset (mset σ 19 0 (σ 7 0)) 19 1 ((mset σ 19 0 (σ 7 0)) 7 1)) 7 2)) 7 3)) 19 6 ((mset (mset (mset (mset σ 19 0 (σ 7 0)) 19 1 ((mset σ 19 0 (σ 7 0)) 7 1)) 19 2 ((mset (mset σ 19 0 (σ 7 0)) 19 1 ((mset σ 19 0 (σ 7 0)) 7 1)) 7 2)) 19 3 ((mset (mset (mset σ 19 0 (σ 7 0)) 19 1 ((mset σ 19 0 (σ 7 0)) 7 1)) 19 2 ((mset (mset σ 19 0 (σ 7 0)) 19 1 ((mset σ 19 0 (σ 7 0)) 7 1)) 7 2)) 7 3)) 7 6)) 19 10 ((mset (mset (mset (mset (mset σ 19 0 (σ 7 0)) 19 1 ((mset σ 19 0 (σ 7 0)) 7 1)) 19 2 ((mset (mset σ 19 0 (σ 7 0)) 19 1 ((mset σ 19 0 (σ 7 0)) 7 1)) 7 2)) 19 3 ((mset (mset (mset σ 19 0 (σ 7 0)) 19 1 ((mset σ 19 0 (σ 7 0)) 7 1)) 19 2 ((mset (mset σ 19 0 (σ 7 0)) 19 1 ((mset σ 19 0 (σ 7 0)) 7 1)) 7 2)) 7 3)) 19 6 ((mset (mset (mset (mset σ 19 0 (σ 7 0)) 19 1 ((mset σ 19 0 (σ 7 0)) 7 1)) 19 2 ((mset (mset σ 19 0 (σ 7 0)) 19 1 ((mset σ 19 0 (σ 7 0)) 7 1)) 7 2)) 19 3 ((mset (mset (mset σ 19 0 (σ 7 0)) 19 1 ((mset σ 19 0 (σ 7 0)) 7 1)) 19 2 ((mset (mset σ 19 0 (σ 7 0)) 19 1 ((mset σ 19 0 (σ 7 0)) 7 1)) 7 2)) 7 3)) 7 6)) 7 10)) 19 13 ((mset (mset (mset (mset (mset (mset σ 19 0 (σ 7 0)) 19 1 ((mset σ 19 0 (σ 7 0)) 7 1)) 19 2 ((mset (mset σ 19 0 (σ 7 0)) 19 1 ((mset σ 19 0 (σ 7 0)) 7 1)) 7 2)) 19 3 ((mset (mset (mset σ 19 0 (σ 7 0)) 19 1 ((mset σ 19 0 (σ 7 0)) 7 1)) 19 2 ((mset (mset σ 19 0 (σ 7 0)) 19 1 ((mset σ 19 0 (σ 7 0)) 7 1)) 7 2)) 7 3)) 19 6 ((mset (mset (mset (mset σ 19 0 (σ 7 0)) 19 1 ((mset σ 19 0 (σ 7 0)) 7 1)) 19 2 ((mset (mset σ 19 0 (σ 7 0)) 19 1 ((mset σ 19 0 (σ 7 0)) 7 1)) 7 2)) 19 3 ((mset (mset (mset σ 19 0 (σ 7 0)) 19 1 ((mset σ 19 0 (σ 7 0)) 7 1)) 19 2 ((mset (mset σ 19 0 (σ 7 0)) 19 1 ((mset σ 19 0 (σ 7 0)) 7 1)) 7 2)) 7 3)) 7 6)) 19 10 ((mset (mset (mset (mset (mset σ 19 0 (σ 7 0)) 19 1 ((mset σ 19 0 (σ 7 0)) 7 1)) 19 2 ((mset (mset σ 19 0 (σ 7 0)) 19 1 ((mset σ 19 0 (σ 7 0)) 7 1)) 7 2)) 19 3 ((mset (mset (mset σ 19 0 (σ 7 0)) 19 1 ((mset σ 19 0 (σ 7 0)) 7 1)) 19 2 ((mset (mset σ 19 0 (σ 7 0)) 19 1 ((mset σ 19 0 (σ 7 0)) 7 1)) 7 2)) 7 3)) 19 6 ((mset (mset (mset (mset σ 19 0 (σ 7 0)) 19 1 ((mset σ 19 0 (σ 7 0)) 7 1)) 19 2 ((mset (mset σ 19 0 (σ 7 0)) 19 1 ((mset σ 19 0 (σ 7 0)) 7 1)) 7 2)) 19 3 ((mset (mset (mset σ 19 0 (σ 7 0)) 19 1 ((mset σ 19 0 (σ 7 0)) 7 1)) 19 2 ((mset (mset σ 19 0 (σ 7 0)) 19 1 ((mset σ 19 0 (σ 7 0)) 7 1)) 7 2)) 7 3)) 7 6)) 7 10)) 7 13)) 19 16 ((mset (mset (mset (mset (mset (mset (mset σ 19 0 (σ 7 0)) 19 1 ((mset σ 19 0 (σ 7 0)) 7 1)) 19 2 ((mset (mset σ 19 0 (σ 7 0)) 19 1 ((mset σ 19 0 (σ 7 0)) 7 1)) 7 2)) 19 3 ((mset (mset (mset σ 19 0 (σ 7 0)) 19 1 ((mset σ 19 0 (σ 7 0)) 7 1)) 19 2 ((mset (mset σ 19 0 (σ 7 0)) 19 1 ((mset σ 19 0 (σ 7 0)) 7 1)) 7 2)) 7 3)) 19 6 ((mset (mset (mset (mset σ 19 0 (σ 7 0)) 19 1 ((mset σ 19 0 (σ 7 0)) 7 1)) 19 2 ((mset (mset σ 19 0 (σ 7 0)) 19 1 ((mset σ 19 0 (σ 7 0)) 7 1)) 7 2)) 19 3 ((mset (mset (mset σ 19 0 (σ 7 0)) 19 1 ((mset σ 19 0 (σ 7 0)) 7 1)) 19 2 ((mset (mset σ 19 0 (σ 7 0)) 19 1 ((mset σ 19 0 (σ 7 0)) 7 1)) 7 2)) 7 3)) 7 6)) 19 10 ((mset (mset (mset (mset (mset σ 19 0 (σ 7 0)) 19 1 ((mset σ 19 0 (σ 7 0)) 7 1)) 19 2 ((mset (mset σ 19 0 (σ 7 0)) 19 1 ((mset σ 19 0 (σ 7 0)) 7 1)) 7 2)) 19 3 ((mset (mset (mset σ 19 0 (σ 7 0)) 19 1 ((mset σ 19 0 (σ 7 0)) 7 1)) 19 2 ((mset (mset σ 19 0 (σ 7 0)) 19 1 ((mset σ 19 0 (σ 7 0)) 7 1)) 7 2)) 7 3)) 19 6 ((mset (mset (mset (mset σ 19 0 (σ 7 0)) 19 1 ((mset σ 19 0 (σ 7 0)) 7 1)) 19 2 ((mset (mset σ 19 0 (σ 7 0)) 19 1 ((mset σ 19 0 (σ 7 0)) 7 1)) 7 2)) 19 3 ((mset (mset (mset σ 19 0 (σ 7 0)) 19 1 ((mset σ 19 0 (σ 7 0)) 7 1)) 19 2 ((mset (mset σ 19 0 (σ 7 0)) 19 1 ((mset σ 19 0 (σ 7 0)) 7 1)) 7 2)) 7 3)) 7 6)) 7 10)) 19 13 ((mset (mset (mset (mset (mset (mset σ 19 0 (σ 7 0)) 19 1 ((mset σ 19 0 (σ 7 0)) 7 1)) 19 2 ((mset (mset σ 19 0 (σ 7 0)) 19 1 ((mset σ 19 0 (σ 7 0)) 7 1)) 7 2)) 19 3 ((mset (mset (mset σ 19 0 (σ 7 0)) 19 1 ((mset σ 19 0 (σ 7 0)) 7 1)) 19 2 ((mset (mset σ 19 0 (σ 7 0)) 19 1 ((mset σ 19 0 (σ 7 0)) 7 1)) 7 2)) 7 3)) 19 6 ((mset (mset (mset (mset σ 19 0 (σ 7 0)) 19 1 ((mset σ 19 0 (σ 7 0)) 7 1)) 19 2 ((mset (mset σ 19 0 (σ 7 0)) 19 1 ((mset σ 19 0 (σ 7 0)) 7 1)) 7 2)) 19 3 ((mset (mset (mset σ 19 0 (σ 7 0)) 19 1 ((mset σ 19 0 (σ 7 0)) 7 1)) 19 2 ((mset (mset σ 19 0 (σ 7 0)) 19 1 ((mset σ 19 0 (σ 7 0)) 7 1)) 7 2)) 7 3)) 7 6)) 19 10 ((mset (mset (mset (mset (mset σ 19 0 (σ 7 0)) 19 1 ((mset σ 19 0 (σ 7 0)) 7 1)) 19 2 ((mset (mset σ 19 0 (σ 7 0)) 19 1 ((mset σ 19 0 (σ 7 0)) 7 1)) 7 2)) 19 3 ((mset (mset (mset σ 19 0 (σ 7 0)) 19 1 ((mset σ 19 0 (σ 7 0)) 7 1)) 19 2 ((mset (mset σ 19 0 (σ 7 0)) 19 1 ((mset σ 19 0 (σ 7 0)) 7 1)) 7 2)) 7 3)) 19 6 ((mset (mset (mset (mset σ 19 0 (σ 7 0)) 19 1 ((mset σ 19 0 (σ 7 0)) 7 1)) 19 2 ((mset (mset σ 19 0 (σ 7 0)) 19 1 ((mset σ 19 0 (σ 7 0)) 7 1)) 7 2)) 19 3 ((mset (mset (mset σ 19 0 (σ 7 0)) 19 1 ((mset σ 19 0 (σ 7 0)) 7 1)) 19 2 ((mset (mset σ 19 0 (σ 7 0)) 19 1 ((mset σ 19 0 (σ 7 0)) 7 1)) 7 2)) 7 3)) 7 6)) 7 10)) 7 13)) 7 16)) 8 0 20 0 4) 9 0 21 0 4) 10 0 22 0 24) 11 0 23 0 24) 12 0 24 0 24) 13 0 25 0 12) 14 0 26 0 288) 15 0 27 0 6) 16 0 28 0 6) 17 0 29 0 16) 18 0 30 0 4)) : seg none call c_S_copyFrom false Q cut 2000 true (toPc 0 c_S_copyFrom) [some (.inr (.inr 19)), some (.inr (.inr 7))] [] σ := h
theorem e_S_copyFromA {d : Nat} {Q : Int → Mem → Prop}  {σ : Mem} (h :
  (isB (σ 7 0)) ∧ Q 0 (mcpy (mcpy (mcpy (mcpy (mcpy (mcpy (mcpy (mcpy (mcpy (mcpy (mcpy (mset (mset (mset (mset (mset (mset (mset (mset σ 19 0 (σ 7 0)) 19 1 ((mset σ 19 0 (σ 7 0)) 7 1)) 19 2 ((mset (mset σ 19 0 (σ 7 0)) 19 1 ((mset σ 19 0 (σ 7 0)) 7 1)) 7 2)) 19 3 ((mset (mset (mset σ 19 0 (σ 7 0)) 19 1 ((mset σ 19 0 (σ 7 0)) 7 1)) 19 2 ((mset (mset σ 19 0 (σ 7 0)) 19 1 ((mset σ 19 0 (σ 7 0)) 7 1)) 7 2)) 7 3)) 19 6 ((mset (mset (mset (mset σ 19 0 (σ 7 0)) 19 1 ((mset σ 19 0 (σ 7 0)) 7 1)) 19 2 ((mset (mset σ 19 0 (σ 7 0)) 19 1 ((mset σ 19 0 (σ 7 0)) 7 1)) 7 2)) 19 3 ((mset (mset (mset σ 19 0 (σ 7 0)) 19 1 ((mset σ 19 0 (σ 7 0)) 7 1)) 19 2 ((mset (mset σ 19 0 (σ 7 0)) 19 1 ((mset σ 19 0 (σ 7 0)) 7 1)) 7 2)) 7 3)) 7 6)) 19 10 ((mset (mset (mset (mset (mset σ 19 0 (σ 7 0)) 19 1 ((mset σ 19 0 (σ 7 0)) 7 1)) 19 2 ((mset (mset σ 19 0 (σ 7 0)) 19 1 ((mset σ 19 0 (σ 7 0)) 7 1)) 7 2)) 19 3 ((mset (mset (mset σ 19 0 (σ 7 0)) 19 1 ((mset σ 19 0 (σ 7 0)) 7 1)) 19 2 ((mset (mset σ 19 0 (σ 7 0)) 19 1 ((mset σ 19 0 (σ 7 0)) 7 1)) 7 2)) 7 3)) 19 6 ((mset (mset (mset (mset σ 19 0 (σ 7 0)) 19 1 ((mset σ 19 0 (σ 7 0)) 7 1)) 19 2 ((mset (mset σ 19 0 (σ 7 0)) 19 1 ((mset σ 19 0 (σ 7 0)) 7 1)) 7 2)) 19 3 ((mset (mset (mset σ 19 0 (σ 7 0)) 19 1 ((mset σ 19 0 (σ 7 0)) 7 1)) 19 2 ((mset (mset σ 19 0 (σ 7 0)) 19 1 ((mset σ 19 0 (σ 7 0)) 7 1)) 7 2)) 7 3)) 7 6)) 7 10)) 19 13 ((mset (mset (mset (mset (mset (mset σ 19 0 (σ 7 0)) 19 1 ((mset σ 19 0 (σ 7 0)) 7 1)) 19 2 ((mset (mset σ 19 0 (σ 7 0)) 19 1 ((mset σ 19 0 (σ 7 0)) 7 1)) 7 2)) 19 3 ((mset (mset (mset σ 19 0 (σ 7 0)) 19 1 ((mset σ 19 0 (σ 7 0)) 7 1)) 19 2 ((mset (mset σ 19 0 (σ 7 0)) 19 1 ((mset σ 19 0 (σ 7 0)) 7 1)) 7 2)) 7 3)) 19 6 ((mset (mset (mset (mset σ 19 0 (σ 7 0)) 19 1 ((mset σ 19 0 (σ 7 0)) 7 1)) 19 2 ((mset (mset σ 19 0 (σ 7 0)) 19 1 ((mset σ 19 0 (σ 7 0)) 7 1)) 7 2)) 19 3 ((mset (mset (mset σ 19 0 (σ 7 0)) 19 1 ((mset σ 19 0 (σ 7 0)) 7 1)) 19 2 ((mset (mset σ 19 0 (σ 7 0)) 19 1 ((mset σ 19 0 (σ 7 0)) 7 1)) 7 2)) 7 3)) 7 6)) 19 10 ((mset (mset (mset (mset (mset σ 19 0 (σ 7 0)) 19 1 ((mset σ 19 0 (σ 7 0)) 7 1)) 19 2 ((mset (mset σ 19 0 (σ 7 0)) 19 1 ((mset σ 19 0 (σ 7 0)) 7 1)) 7 2)) 19 3 ((mset (mset (mset σ 19 0 (σ 7 0)) 19 1 ((mset σ 19 0 (σ 7 0)) 7 1)) 19 2 ((mset (mset σ 19 0 (σ 7 0)) 19 1 ((mset σ 19 0 (σ 7 0)) 7 1)) 7 2)) 7 3)) 19 6 ((mset (mset (mset (mset σ 19 0 (σ 7 0)) 19 1 ((mset σ 19 0 (σ 7 0)) 7 1)) 19 2 ((mset (mset σ 19 0 (σ 7 0)) 19 1 ((mset σ 19 0 (σ 7 0)) 7 1)) 7 2)) 19 3 ((mset (mset (mset σ 19 0 (σ 7 0)) 19 1 ((mset σ 19 0 (σ 7 0)) 7 1)) 19 2 ((mset (mset σ 19 0 (σ 7 0)) 19 1 ((mset σ 19 0 (σ 7 0)) 7 1)) 7 2)) 7 3)) 7 6)) 7 10)) 7 13)) 19 16 ((mset (mset (mset (mset (mset (mset (mset σ 19 0 (σ 7 0)) 19 1 ((mset σ 19 0 (σ 7 0)) 7 1)) 19 2 ((mset (mset σ 19 0 (σ 7 0)) 19 1 ((mset σ 19 0 (σ 7 0)) 7 1)) 7 2)) 19 3 ((mset (mset (mset σ 19 0 (σ 7 0)) 19 1 ((mset σ 19 0 (σ 7 0)) 7 1)) 19 2 ((mset (mset σ 19 0 (σ 7 0)) 19 1 ((mset σ 19 0 (σ 7 0)) 7 1)) 7 2)) 7 3)) 19 6 ((mset (mset (mset (mset σ 19 0 (σ 7 0)) 19 1 ((mset σ 19 0 (σ 7 0)) 7 1)) 19 2 ((mset (mset σ 19 0 (σ 7 0)) 19 1 ((mset σ 19 0 (σ 7 0)) 7 1)) 7 2)) 19 3 ((mset (mset (mset σ 19 0 (σ 7 0)) 19 1 ((mset σ 19 0 (σ 7 0)) 7 1)) 19 2 ((mset (mset σ 19 0 (σ 7 0)) 19 1 ((mset σ 19 0 (σ 7 0)) 7 1)) 7 2)) 7 3)) 7 6)) 19 10 ((mset (mset (mset (mset (mset σ 19 0 (σ 7 0)) 19 1 ((mset σ 19 0 (σ 7 0)) 7 1)) 19 2 ((mset (mset σ 19 0 (σ 7 0)) 19 1 ((mset σ 19 0 (σ 7 0)) 7 1)) 7 2)) 19 3 ((mset (mset (mset σ 19 0 (σ 7 0)) 19 1 ((mset σ 19 0 (σ 7 0)) 7 1)) 19 2 ((mset (mset σ 19 0 (σ 7 0)) 19 1 ((mset σ 19 0 (σ 7 0)) 7 1)) 7 2)) 7 3)) 19 6 ((mset (mset (mset (mset σ 19 0 (σ 7 0)) 19 1 ((mset σ 19 0 (σ 7 0)) 7 1)) 19 2 ((mset (mset σ 19 0 (σ 7 0)) 19 1 ((mset σ 19 0 (σ 7 0)) 7 1)) 7 2)) 19 3 ((mset (mset (mset σ 19 0 (σ 7 0)) 19 1 ((mset σ 19 0 (σ 7 0)) 7 1)) 19 2 ((mset (mset σ 19 0 (σ 7 0)) 19 1 ((mset σ 19 0 (σ 7 0)) 7 1)) 7 2)) 7 3)) 7 6)) 7 10)) 19 13 ((mset (mset (mset (mset (mset (mset σ 19 0 (σ 7 0)) 19 1 ((mset σ 19 0 (σ 7 0)) 7 1)) 19 2 ((mset (mset σ 19 0 (σ 7 0)) 19 1 ((mset σ 19 0 (σ 7 0)) 7 1)) 7 2)) 19 3 ((mset (mset (mset σ 19 0 (σ 7 0)) 19 1 ((mset σ 19 0 (σ 7 0)) 7 1)) 19 2 ((mset (mset σ 19 0 (σ 7 0)) 19 1 ((mset σ 19 0 (σ 7 0)) 7 1)) 7 2)) 7 3)) 19 6 ((mset (mset (mset (mset σ 19 0 (σ 7 0)) 19 1 ((mset σ 19 0 (σ 7 0)) 7 1)) 19 2 ((mset (mset σ 19 0 (σ 7 0)) 19 1 ((mset σ 19 0 (σ 7 0)) 7 1)) 7 2)) 19 3 ((mset (mset (mset σ 19 0 (σ 7 0)) 19 1 ((mset σ 19 0 (σ 7 0)) 7 1)) 19 2 ((mset (mset σ 19 0 (σ 7 0)) 19 1 ((mset σ 19 0 (σ 7 0)) 7 1)) 7 2)) 7 3)) 7 6)) 19 10 ((mset (mset (mset (mset (mset σ 19 0 (σ 7 0)) 19 1 ((mset σ 19 0 (σ 7 0)) 7 1)) 19 2 ((mset (mset σ 19 0 (σ 7 0)) 19 1 ((mset σ 19 0 (σ 7 0)) 7 1)) 7 2)) 19 3 ((mset (mset (mset σ 19 0 (σ 7 0)) 19 1 ((mset σ 19 0 (σ 7 0)) 7 1)) 19 2 ((mset (mset σ 19 0 (σ 7 0)) 19 1 ((mset σ 19 0 (σ 7 0)) 7 1)) 7 2)) 7 3)) 19 6 ((mset (mset (mset (mset σ 19 0 (σ 7 0)) 19 1 ((mset σ 19 0 (σ 7 0)) 7 1)) 19 2 ((mset (mset σ 19 0 (σ 7 0)) 19 1 ((mset σ 19 0 (σ 7 0)) 7 1)) 7 2)) 19 3 ((mset (mset (mset σ 19 0 (σ 7 0)) 19 1 ((mset σ 19 0 (σ 7 0)) 7 1)) 19 2 ((mset (mset σ 19 0 (σ 7 0)) 19 1 ((mset σ 19 0 (σ 7 0)) 7 1)) 7 2)) 7 3)) 7 6)) 7 10)) 7 13)) 7 16)) 8 0 20 0 4) 9 0 21 0 4) 10 0 22 0 24) 11 0 23 0 24) 12 0 24 0 24) 13 0 25 0 12) 14 0 26 0 288) 15 0 27 0 6) 16 0 28 0 6) 17 0 29 0 16) 18 0 30 0 4)) : wp (d + 1) m_S_copyFrom [.inr (.inr 19), .inr (.inr 7)] σ Q := wp_in rfl (XX_intro (g_S_copyFromA (call := wp d) (cut := XX none (wp d) c_S_copyFrom false Q) (Q := Q)  (σ := σ) (⟨(h).1, ⟨(by decide), ⟨(by decide), ⟨(by decide), ⟨(by decide), ⟨(by decide), ⟨(by decide), ⟨(by decide), ⟨(by decide), ⟨(by decide), ⟨(by decide), ⟨(by decide), (h).2⟩⟩⟩⟩⟩⟩⟩⟩⟩⟩⟩⟩)))
theorem g_S_copyFromB {call : Nat → List AV → Mem → (Int → Mem → Prop) → Prop} {cut : Nat → Lo → List AV → Mem → Prop} {Q : Int → Mem → Prop}  {σ : Mem} (h :
  (isB (σ 19 0)) ∧ (0 ≤ (0 : Int) ∧ 0 ≤ (0 : Int) ∧ 0 < (4 : Int) ∧ 0 + 4 ≤ (4 : Int) ∧ 0 + 4 ≤ (4 : Int)) ∧ (0 ≤ (0 : Int) ∧ 0 ≤ (0 : Int) ∧ 0 < (4 : Int) ∧ 0 + 4 ≤ (4 : Int) ∧ 0 + 4 ≤ (4 : Int)) ∧ (0 ≤ (0 : Int) ∧ 0 ≤ (0 : Int) ∧ 0 < (24 : Int) ∧ 0 + 24 ≤ (24 : Int) ∧ 0 + 24 ≤ (24 : Int)) ∧ (0 ≤ (0 : Int) ∧ 0 ≤ (0 : Int) ∧ 0 < (24 : Int) ∧ 0 + 24 ≤ (24 : Int) ∧ 0 + 24 ≤ (24 : Int)) ∧ (0 ≤ (0 : Int) ∧ 0 ≤ (0 : Int) ∧ 0 < (24 : Int) ∧ 0 + 24 ≤ (24 : Int) ∧ 0 + 24 ≤ (24 : Int)) ∧ (0 ≤ (0 : Int) ∧ 0 ≤ (0 : Int) ∧ 0 < (12 : Int) ∧ 0 + 12 ≤ (12 : Int) ∧ 0 + 12 ≤ (12 : Int)) ∧ (0 ≤ (0 : Int) ∧ 0 ≤ (0 : Int) ∧ 0 < (288 : Int) ∧ 0 + 288 ≤ (288 : Int) ∧ 0 + 288 ≤ (288 : Int)) ∧ (0 ≤ (0 : Int) ∧ 0 ≤ (0 : Int) ∧ 0 < (6 : Int) ∧ 0 + 6 ≤ (6 : Int) ∧ 0 + 6 ≤ (6 : Int)) ∧ (0 ≤ (0 : Int) ∧ 0 ≤ (0 : Int) ∧ 0 < (6 : Int) ∧ 0 + 6 ≤ (6 : Int) ∧ 0 + 6 ≤ (6 : Int)) ∧ (0 ≤ (0 : Int) ∧ 0 ≤ (0 : Int) ∧ 0 < (16 : Int) ∧ 0 + 16 ≤ (16 : Int) ∧ 0 + 16 ≤ (16 : Int)) ∧ (0 ≤ (0 : Int) ∧ 0 ≤ (0 : Int) ∧ 0 < (4 : Int) ∧ 0 + 4 ≤ (4 : Int) ∧ 0 + 4 ≤ (4 : Int)) ∧ Q 0 (mcpy (mcpy (mcpy (mcpy (mcpy (mcpy (mcpy (mcpy (mcpy (mcpy (mcpy (mset (mset (mset (mset (mset (mset (mset (mset σ 7 0 (σ 19 0)) 7 1 ((mset σ 7 0 (σ 19 0)) 19 1)) 7 2 ((mset (mset σ 7 0 (σ 19 0)) 7 1 ((mset σ 7 0 (σ 19 0)) 19 1)) 19 2)) 7 3 ((mset (mset (mset σ 7 0 (σ 19 0)) 7 1 ((mset σ 7 0 (σ 19 0)) 19 1)) 7 2 ((mset (mset σ 7 0 (σ 19 0)) 7 1 ((mset σ 7 0 (σ 19 0)) 19 1)) 19 2)) 19 3)) 7 6 ((mset (mset (mset (mset σ 7 0 (σ 19 0)) 7 1 ((mset σ 7 0 (σ 19 0)) 19 1)) 7 2 ((mset (mset σ 7 0 (σ 19 0)) 7 1 ((mset σ 7 0 (σ 19 0)) 19 1)) 19 2)) 7 3 ((mset (mset (mset σ 7 0 (σ 19 0)) 7 1 ((mset σ 7 0 (σ 19 0)) 19 1)) 7 2 ((mset (mset σ 7 0 (σ 19 0)) 7 1 ((mset σ 7 0 (σ 19 0)) 19 1)) 19 2)) 19 3)) 19 6)) 7 10 ((mset (mset (mset (mset (mset σ 7 0 (σ 19 0)) 7 1 ((mset σ 7 0 (σ 19 0)) 19 1)) 7 2 ((mset (mset σ 7 0 (σ 19 0)) 7 1 ((mset σ 7 0 (σ 19 0)) 19 1)) 19 2)) 7 3 ((mset (mset (mset σ 7 0 (σ 19 0)) 7 1 ((mset σ 7 0 (σ 19 0)) 19 1)) 7 2 ((mset (mset σ 7 0 (σ 19 0)) 7 1 ((mset σ 7 0 (σ 19 0)) 19 1)) 19 2)) 19 3)) 7 6 ((mset (mset (mset (mset σ 7 0 (σ 19 0)) 7 1 ((mset σ 7 0 (σ 19 0)) 19 1)) 7 2 ((mset (mset σ 7 0 (σ 19 0)) 7 1 ((mset σ 7 0 (σ 19 0)) 19 1)) 19 2)) 7 3 ((mset (mset (mset σ 7 0 (σ 19 0)) 7 1 ((mset σ 7 0 (σ 19 0)) 19 1)) 7 2 ((mset (mset σ 7 0 (σ 19 0)) 7 1 ((mset σ 7 0 (σ 19 0)) 19 1)) 19 2)) 19 3)) 19 6)) 19 10)) 7 13 ((mset (mset (mset (mset (mset (mset σ 7 0 (σ 19 0)) 7 1 ((mset σ 7 0 (σ 19 0)) 19 1)) 7 2 ((mset (mset σ 7 0 (σ 19 0)) 7 1 ((mset σ 7 0 (σ 19 0)) 19 1)) 19 2)) 7 3 ((mset (mset (mset σ 7 0 (σ 19 0)) 7 1 ((mset σ 7 0 (σ 19 0)) 19 1)) 7 2 ((mset (mset σ 7 0 (σ 19 0)) 7 1 ((mset σ 7 0 (σ 19 0)) 19 1)) 19 2)) 19 3)) 7 6 ((mset (mset (mset (mset σ 7 0 (σ 19 0)) 7 1 ((mset σ 7 0 (σ 19 0)) 19 1)) 7 2 ((mset (mset σ 7 0 (σ 19 0)) 7 1 ((mset σ 7 0 (σ 19 0)) 19 1)) 19 2)) 7 3 ((mset (mset (mset σ 7 0 (σ 19 0)) 7 1 ((mset σ 7 0 (σ 19 0)) 19 1)) 7 2 ((mset (mset σ 7 0 (σ 19 0)) 7 1 ((mset σ 7 0 (σ 19 0)) 19 1)) 19 2)) 19 3)) 19 6)) 7 10 ((mset (mset (mset (mset (mset σ 7 0 (σ 19 0)) 7 1 ((mset σ 7 0 (σ 19 0)) 19 1)) 7 2 ((mset (mset σ 7 0 (σ 19 0)) 7 1 ((mset σ 7 0 (σ 19 0)) 19 1)) 19 2)) 7 3 ((mset (mset (mset σ 7 0 (σ 19 0)) 7 1 ((mset σ 7 0 (σ 19 0)) 19 1)) 7 2 ((mset (mset σ 7 0 (σ 19 0)) 7 1 ((mset σ 7 0 (σ 19 0)) 19 1)) 19 2)) 19 3)) 7 6 ((mset (mset (mset (mset σ 7 0 (σ 19 0)) 7 1 ((mset σ 7 0 (σ 19 0)) 19 1)) 7 2 ((mset (mset σ 7 0 (σ 19 0)) 7 1 ((mset σ 7 0 (σ 19 0)) 19 1)) 19 2)) 7 3 ((mset (mset (mset σ 7 0 (σ 19 0)) 7 1 ((mset σ 7 0 (σ 19 0)) 19 1)) 7 2 ((mset (mset σ 7 0 (σ 19 0)) 7 1 ((mset σ 7 0 (σ 19 0)) 19 1)) 19 2)) 19 3)) 19 6)) 19 10)) 19 13)) 7 16 ((mset (mset (mset (mset (mset (mset (mset σ 7 0 (σ 19 0)) 7 1 ((mset σ 7 0 (σ 19 0)) 19 1)) 7 2 ((mset (mset σ 7 0 (σ 19 0)) 7 1 ((mset σ 7 0 (σ 19 0)) 19 1)) 19 2)) 7 3 ((mset (mset (mset σ 7 0 (σ 19 0)) 7 1 ((mset σ 7 0 (σ 19 0)) 19 1)) 7 2 ((mset (mset σ 7 0 (σ 19 0)) 7 1 ((mset σ 7 0 (σ 19 0)) 19 1)) 19 2)) 19 3)) 7 6 ((mset (mset (mset (mset σ 7 0 (σ 19 0)) 7 1 ((mset σ 7 0 (σ 19 0)) 19 1)) 7 2 ((mset (mset σ 7 0 (σ 19 0)) 7 1 ((mset σ 7 0 (σ 19 0)) 19 1)) 19 2)) 7 3 ((mset (mset (mset σ 7 0 (σ 19 0)) 7 1 ((mset σ 7 0 (σ 19 0)) 19 1)) 7 2 ((mset (mset σ 7 0 (σ 19 0)) 7 1 ((mset σ 7 0 (σ 19 0)) 19 1)) 19 2)) 19 3)) 19 6)) 7 10 ((mset (mset (mset (mset (mset σ 7 0 (σ 19 0)) 7 1 ((mset σ 7 0 (σ 19 0)) 19 1)) 7 2 ((mset (mset σ 7 0 (σ 19 0)) 7 1 ((mset σ 7 0 (σ 19 0)) 19 1)) 19 2)) 7 3 ((mset (mset (mset σ 7 0 (σ 19 0)) 7 1 ((mset σ 7 0 (σ 19 0)) 19 1)) 7 2 ((mset (mset σ 7 0 (σ 19 0)) 7 1 ((mset σ 7 0 (σ 19 0)) 19 1)) 19 2)) 19 3)) 7 6 ((mset (mset (mset (mset σ 7 0 (σ 19 0)) 7 1 ((mset σ 7 0 (σ 19 0)) 19 1)) 7 2 ((mset (mset σ 7 0 (σ 19 0)) 7 1 ((mset σ 7 0 (σ 19 0)) 19 1)) 19 2)) 7 3 ((mset (mset (mset σ 7 0 (σ 19 0)) 7 1 ((mset σ 7 0 (σ 19 0)) 19 1)) 7 2 ((mset (mset σ 7 0 (σ 19 0)) 7 1 ((mset σ 7 0 (σ 19 0)) 19 1)) 19 2)) 19 3)) 19 6)) 19 10)) 7 13 ((mset (mset (mset (mset (mset (mset σ 7 0 (σ 19 0)) 7 1 ((mset σ 7 0 (σ 19 0)) 19 1)) 7 2 ((mset (mset σ 7 0 (σ 19 0)) 7 1 ((mset σ 7 0 (σ 19 0)) 19 1)) 19 2)) 7 3 ((mset (mset (mset σ 7 0 (σ 19 0)) 7 1 ((mset σ 7 0 (σ 19 0)) 19 1)) 7 2 ((mset (mset σ 7 0 (σ 19 0)) 7 1 ((mset σ 7 0 (σ 19 0)) 19 1)) 19 2)) 19 3)) 7 6 ((mset (mset (mset (mset σ 7 0 (σ 19 0)) 7 1 ((mset σ 7 0 (σ 19 0)) 19 1)) 7 2 ((mset (mset σ 7 0 (σ 19 0)) 7 1 ((mset σ 7 0 (σ 19 0)) 19 1)) 19 2)) 7 3 ((mset (mset (mset σ 7 0 (σ 19 0)) 7 1 ((mset σ 7 0 (σ 19 0)) 19 1)) 7 2 ((mset (mset σ 7 0 (σ 19 0)) 7 1 ((mset σ 7 0 (σ 19 0)) 19 1)) 19 2)) 19 3)) 19 6)) 7 10 ((mset (mset (mset (mset (mset σ 7 0 (σ 19 0)) 7 1 ((mset σ 7 0 (σ 19 0)) 19 1)) 7 2 ((mset (mset σ 7 0 (σ 19 0)) 7 1 ((mset σ 7 0 (σ 19 0)) 19 1)) 19 2)) 7 3 ((mset (mset (mset σ 7 0 (σ 19 0)) 7 1 ((mset σ 7 0 (σ 19 0)) 19 1)) 7 2 ((mset (mset σ 7 0 (σ 19 0)) 7 1 ((mset σ 7 0 (σ 19 0)) 19 1)) 19 2)) 19 3)) 7 6 ((mset (mset (mset (mset σ 7 0 (σ 19 0)) 7 1 ((mset σ 7 0 (σ 19 0)) 19 1)) 7 2 ((mset (mset σ 7 0 (σ 19 0)) 7 1 ((mset σ 7 0 (σ 19 0)) 19 1)) 19 2)) 7 3 ((mset (mset (mset σ 7 0 (σ 19 0)) 7 1 ((mset σ 7 0 (σ 19 0)) 19 1)) 7 2 ((mset (mset σ 7 0 (σ 19 0)) 7 1 ((mset σ 7 0 (σ 19 0)) 19 1)) 19 2)) 19 3)) 19 6)) 19 10)) 19 13)) 19 16)) 20 0 8 0 4) 21 0 9 0 4) 22 0 10 0 24) 23 0 11 0 24) 24 0 12 0 24) 25 0 13 0 12) 26 0 14 0 288) 27 0 15 0 6) 28 0 16 0 6) 29 0 17 0 16) 30 0 18 0 4)) : seg none call c_S_copyFrom false Q cut 2000 true (toPc 0 c_S_copyFrom) [some (.inr (.inr 7)), some (.inr (.inr 19))] [] σ := h
theorem e_S_copyFromB {d : Nat} {Q : Int → Mem → Prop}  {σ : Mem} (h :
  (isB (σ 19 0)) ∧ Q 0 (mcpy (mcpy (mcpy (mcpy (mcpy (mcpy (mcpy (mcpy (mcpy (mcpy (mcpy (mset (mset (mset (mset (mset (mset (mset (mset σ 7 0 (σ 19 0)) 7 1 ((mset σ 7 0 (σ 19 0)) 19 1)) 7 2 ((mset (mset σ 7 0 (σ 19 0)) 7 1 ((mset σ 7 0 (σ 19 0)) 19 1)) 19 2)) 7 3 ((mset (mset (mset σ 7 0 (σ 19 0)) 7 1 ((mset σ 7 0 (σ 19 0)) 19 1)) 7 2 ((mset (mset σ 7 0 (σ 19 0)) 7 1 ((mset σ 7 0 (σ 19 0)) 19 1)) 19 2)) 19 3)) 7 6 ((mset (mset (mset (mset σ 7 0 (σ 19 0)) 7 1 ((mset σ 7 0 (σ 19 0)) 19 1)) 7 2 ((mset (mset σ 7 0 (σ 19 0)) 7 1 ((mset σ 7 0 (σ 19 0)) 19 1)) 19 2)) 7 3 ((mset (mset (mset σ 7 0 (σ 19 0)) 7 1 ((mset σ 7 0 (σ 19 0)) 19 1)) 7 2 ((mset (mset σ 7 0 (σ 19 0)) 7 1 ((mset σ 7 0 (σ 19 0)) 19 1)) 19 2)) 19 3)) 19 6)) 7 10 ((mset (mset (mset (mset (mset σ 7 0 (σ 19 0)) 7 1 ((mset σ 7 0 (σ 19 0)) 19 1)) 7 2 ((mset (mset σ 7 0 (σ 19 0)) 7 1 ((mset σ 7 0 (σ 19 0)) 19 1)) 19 2)) 7 3 ((mset (mset (mset σ 7 0 (σ 19 0)) 7 1 ((mset σ 7 0 (σ 19 0)) 19 1)) 7 2 ((mset (mset σ 7 0 (σ 19 0)) 7 1 ((mset σ 7 0 (σ 19 0)) 19 1)) 19 2)) 19 3)) 7 6 ((mset (mset (mset (mset σ 7 0 (σ 19 0)) 7 1 ((mset σ 7 0 (σ 19 0)) 19 1)) 7 2 ((mset (mset σ 7 0 (σ 19 0)) 7 1 ((mset σ 7 0 (σ 19 0)) 19 1)) 19 2)) 7 3 ((mset (mset (mset σ 7 0 (σ 19 0)) 7 1 ((mset σ 7 0 (σ 19 0)) 19 1)) 7 2 ((mset (mset σ 7 0 (σ 19 0)) 7 1 ((mset σ 7 0 (σ 19 0)) 19 1)) 19 2)) 19 3)) 19 6)) 19 10)) 7 13 ((mset (mset (mset (mset (mset (mset σ 7 0 (σ 19 0)) 7 1 ((mset σ 7 0 (σ 19 0)) 19 1)) 7 2 ((mset (mset σ 7 0 (σ 19 0)) 7 1 ((mset σ 7 0 (σ 19 0)) 19 1)) 19 2)) 7 3 ((mset (mset (mset σ 7 0 (σ 19 0)) 7 1 ((mset σ 7 0 (σ 19 0)) 19 1)) 7 2 ((mset (mset σ 7 0 (σ 19 0)) 7 1 ((mset σ 7 0 (σ 19 0)) 19 1)) 19 2)) 19 3)) 7 6 ((mset (mset (mset (mset σ 7 0 (σ 19 0)) 7 1 ((mset σ 7 0 (σ 19 0)) 19 1)) 7 2 ((mset (mset σ 7 0 (σ 19 0)) 7 1 ((mset σ 7 0 (σ 19 0)) 19 1)) 19 2)) 7 3 ((mset (mset (mset σ 7 0 (σ 19 0)) 7 1 ((mset σ 7 0 (σ 19 0)) 19 1)) 7 2 ((mset (mset σ 7 0 (σ 19 0)) 7 1 ((mset σ 7 0 (σ 19 0)) 19 1)) 19 2)) 19 3)) 19 6)) 7 10 ((mset (mset (mset (mset (mset σ 7 0 (σ 19 0)) 7 1 ((mset σ 7 0 (σ 19 0)) 19 1)) 7 2 ((mset (mset σ 7 0 (σ 19 0)) 7 1 ((mset σ 7 0 (σ 19 0)) 19 1)) 19 2)) 7 3 ((mset (mset (mset σ 7 0 (σ 19 0)) 7 1 ((mset σ 7 0 (σ 19 0)) 19 1)) 7 2 ((mset (mset σ 7 0 (σ 19 0)) 7 1 ((mset σ 7 0 (σ 19 0)) 19 1)) 19 2)) 19 3)) 7 6 ((mset (mset (mset (mset σ 7 0 (σ 19 0)) 7 1 ((mset σ 7 0 (σ 19 0)) 19 1)) 7 2 ((mset (mset σ 7 0 (σ 19 0)) 7 1 ((mset σ 7 0 (σ 19 0)) 19 1)) 19 2)) 7 3 ((mset (mset (mset σ 7 0 (σ 19 0)) 7 1 ((mset σ 7 0 (σ 19 0)) 19 1)) 7 2 ((mset (mset σ 7 0 (σ 19 0)) 7 1 ((mset σ 7 0 (σ 19 0)) 19 1)) 19 2)) 19 3)) 19 6)) 19 10)) 19 13)) 7 16 ((mset (mset (mset (mset (mset (mset (mset σ 7 0 (σ 19 0)) 7 1 ((mset σ 7 0 (σ 19 0)) 19 1)) 7 2 ((mset (mset σ 7 0 (σ 19 0)) 7 1 ((mset σ 7 0 (σ 19 0)) 19 1)) 19 2)) 7 3 ((mset (mset (mset σ 7 0 (σ 19 0)) 7 1 ((mset σ 7 0 (σ 19 0)) 19 1)) 7 2 ((mset (mset σ 7 0 (σ 19 0)) 7 1 ((mset σ 7 0 (σ 19 0)) 19 1)) 19 2)) 19 3)) 7 6 ((mset (mset (mset (mset σ 7 0 (σ 19 0)) 7 1 ((mset σ 7 0 (σ 19 0)) 19 1)) 7 2 ((mset (mset σ 7 0 (σ 19 0)) 7 1 ((mset σ 7 0 (σ 19 0)) 19 1)) 19 2)) 7 3 ((mset (mset (mset σ 7 0 (σ 19 0)) 7 1 ((mset σ 7 0 (σ 19 0)) 19 1)) 7 2 ((mset (mset σ 7 0 (σ 19 0)) 7 1 ((mset σ 7 0 (σ 19 0)) 19 1)) 19 2)) 19 3)) 19 6)) 7 10 ((mset (mset (mset (mset (mset σ 7 0 (σ 19 0)) 7 1 ((mset σ 7 0 (σ 19 0)) 19 1)) 7 2 ((mset (mset σ 7 0 (σ 19 0)) 7 1 ((mset σ 7 0 (σ 19 0)) 19 1)) 19 2)) 7 3 ((mset (mset (mset σ 7 0 (σ 19 0)) 7 1 ((mset σ 7 0 (σ 19 0)) 19 1)) 7 2 ((mset (mset σ 7 0 (σ 19 0)) 7 1 ((mset σ 7 0 (σ 19 0)) 19 1)) 19 2)) 19 3)) 7 6 ((mset (mset (mset (mset σ 7 0 (σ 19 0)) 7 1 ((mset σ 7 0 (σ 19 0)) 19 1)) 7 2 ((mset (mset σ 7 0 (σ 19 0)) 7 1 ((mset σ 7 0 (σ 19 0)) 19 1)) 19 2)) 7 3 ((mset (mset (mset σ 7 0 (σ 19 0)) 7 1 ((mset σ 7 0 (σ 19 0)) 19 1)) 7 2 ((mset (mset σ 7 0 (σ 19 0)) 7 1 ((mset σ 7 0 (σ 19 0)) 19 1)) 19 2)) 19 3)) 19 6)) 19 10)) 7 13 ((mset (mset (mset (mset (mset (mset σ 7 0 (σ 19 0)) 7 1 ((mset σ 7 0 (σ 19 0)) 19 1)) 7 2 ((mset (mset σ 7 0 (σ 19 0)) 7 1 ((mset σ 7 0 (σ 19 0)) 19 1)) 19 2)) 7 3 ((mset (mset (mset σ 7 0 (σ 19 0)) 7 1 ((mset σ 7 0 (σ 19 0)) 19 1)) 7 2 ((mset (mset σ 7 0 (σ 19 0)) 7 1 ((mset σ 7 0 (σ 19 0)) 19 1)) 19 2)) 19 3)) 7 6 ((mset (mset (mset (mset σ 7 0 (σ 19 0)) 7 1 ((mset σ 7 0 (σ 19 0)) 19 1)) 7 2 ((mset (mset σ 7 0 (σ 19 0)) 7 1 ((mset σ 7 0 (σ 19 0)) 19 1)) 19 2)) 7 3 ((mset (mset (mset σ 7 0 (σ 19 0)) 7 1 ((mset σ 7 0 (σ 19 0)) 19 1)) 7 2 ((mset (mset σ 7 0 (σ 19 0)) 7 1 ((mset σ 7 0 (σ 19 0)) 19 1)) 19 2)) 19 3)) 19 6)) 7 10 ((mset (mset (mset (mset (mset σ 7 0 (σ 19 0)) 7 1 ((mset σ 7 0 (σ 19 0)) 19 1)) 7 2 ((mset (mset σ 7 0 (σ 19 0)) 7 1 ((mset σ 7 0 (σ 19 0)) 19 1)) 19 2)) 7 3 ((mset (mset (mset σ 7 0 (σ 19 0)) 7 1 ((mset σ 7 0 (σ 19 0)) 19 1)) 7 2 ((mset (mset σ 7 0 (σ 19 0)) 7 1 ((mset σ 7 0 (σ 19 0)) 19 1)) 19 2)) 19 3)) 7 6 ((mset (mset (mset (mset σ 7 0 (σ 19 0)) 7 1 ((mset σ 7 0 (σ 19 0)) 19 1)) 7 2 ((mset (mset σ 7 0 (σ 19 0)) 7 1 ((mset σ 7 0 (σ 19 0)) 19 1)) 19 2)) 7 3 ((mset (mset (mset σ 7 0 (σ 19 0)) 7 1 ((mset σ 7 0 (σ 19 0)) 19 1)) 7 2 ((mset (mset σ 7 0 (σ 19 0)) 7 1 ((mset σ 7 0 (σ 19 0)) 19 1)) 19 2)) 19 3)) 19 6)) 19 10)) 19 13)) 19 16)) 20 0 8 0 4) 21 0 9 0 4) 22 0 10 0 24) 23 0 11 0 24) 24 0 12 0 24) 25 0 13 0 12) 26 0 14 0 288) 27 0 15 0 6) 28 0 16 0 6) 29 0 17 0 16) 30 0 18 0 4)) : wp (d + 1) m_S_copyFrom [.inr (.inr 7), .inr (.inr 19)] σ Q := wp_in rfl (XX_intro (g_S_copyFromB (call := wp d) (cut := XX none (wp d) c_S_copyFrom false Q) (Q := Q)  (σ := σ) (⟨(h).1, ⟨(by decide), ⟨(by decide), ⟨(by decide), ⟨(by decide), ⟨(by decide), ⟨(by decide), ⟨(by decide), ⟨(by decide), ⟨(by decide), ⟨(by decide), ⟨(by decide), (h).2⟩⟩⟩⟩⟩⟩⟩⟩⟩⟩⟩⟩)))
theorem g_S_hasTwo {call : Nat → List AV → Mem → (Int → Mem → Prop) → Prop} {cut : Nat → Lo → List AV → Mem → Prop} {Q : Int → Mem → Prop}  {σ : Mem} (h :
  ((σ 7 0) = 0 → isB 0 ∧ Q 0 σ) ∧
  (¬ (σ 7 0) = 0 →
    ((σ 7 1) = 2 → isB 1 ∧ Q 1 σ) ∧
    (¬ (σ 7 1) = 2 → isB 0 ∧ Q 0 σ))) : seg none call c_S_hasTwo true Q cut 2000 true (toPc 0 c_S_hasTwo) [some (.inr (.inr 7))] [] σ := h
theorem e_S_hasTwo {d : Nat} {Q : Int → Mem → Prop}  {σ : Mem} (h :
  ((σ 7 0) = 0 → Q 0 σ) ∧
  (¬ (σ 7 0) = 0 →
    ((σ 7 1) = 2 → Q 1 σ) ∧
    (¬ (σ 7 1) = 2 → Q 0 σ))) : wp (d + 1) m_S_hasTwo [.inr (.inr 7)] σ Q := wp_in rfl (XX_intro (g_S_hasTwo (call := wp d) (cut := XX none (wp d) c_S_hasTwo true Q) (Q := Q)  (σ := σ) (⟨fun z2 => ⟨isB0, ((h).1 z2)⟩, fun z2 => ⟨fun z1 => ⟨isB1, ((((h).2 z2)).1 z1)⟩, fun z1 => ⟨isB0, ((((h).2 z2)).2 z1)⟩⟩⟩)))
theorem g_S_hasTruth {call : Nat → List AV → Mem → (Int → Mem → Prop) → Prop} {cut : Nat → Lo → List AV → Mem → Prop} {Q : Int → Mem → Prop} {a1 : Int} {σ : Mem} (h :
  (a1 < 0 → isB 0 ∧ Q 0 σ) ∧
  (0 ≤ a1 →
    (a1 < (σ 7 1) → isB 1 ∧ Q 1 σ) ∧
    ((σ 7 1) ≤ a1 → isB 0 ∧ Q 0 σ))) : seg none call c_S_hasTruth true Q cut 2000 true (toPc 0 c_S_hasTruth) [some (.inr (.inr 7)), some (.inl a1)] [] σ := h
theorem e_S_hasTruth {d : Nat} {Q : Int → Mem → Prop} {a1 : Int} {σ : Mem} (h :
  (a1 < 0 → Q 0 σ) ∧
  (0 ≤ a1 →
    (a1 < (σ 7 1) → Q 1 σ) ∧
    ((σ 7 1) ≤ a1 → Q 0 σ))) : wp (d + 1) m_S_hasTruth [.inr (.inr 7), .inl a1] σ Q := wp_in rfl (XX_intro (g_S_hasTruth (call := wp d) (cut := XX none (wp d) c_S_hasTruth true Q) (Q := Q) (a1 := a1) (σ := σ) (⟨fun z2 => ⟨isB0, ((h).1 z2)⟩, fun z2 => ⟨fun z1 => ⟨isB1, ((((h).2 z2)).1 z1)⟩, fun z1 => ⟨isB0, ((((h).2 z2)).2 z1)⟩⟩⟩)))
theorem g_S_hasAct {call : Nat → List AV → Mem → (Int → Mem → Prop) → Prop} {cut : Nat → Lo → List AV → Mem → Prop} {Q : Int → Mem → Prop} {a1 : Int} {σ : Mem} (h :
  (a1 < 0 → isB 0 ∧ Q 0 σ) ∧
  (0 ≤ a1 →
    (a1 < (σ 7 2) → isB 1 ∧ Q 1 σ) ∧
    ((σ 7 2) ≤ a1 → isB 0 ∧ Q 0 σ))) : seg none call c_S_hasAct true Q cut 2000 true (toPc 0 c_S_hasAct) [some (.inr (.inr 7)), some (.inl a1)] [] σ := h
theorem e_S_hasAct {d : Nat} {Q : Int → Mem → Prop} {a1 : Int} {σ : Mem} (h :
  (a1 < 0 → Q 0 σ) ∧
  (0 ≤ a1 →
    (a1 < (σ 7 2) → Q 1 σ) ∧
    ((σ 7 2) ≤ a1 → Q 0 σ))) : wp (d + 1) m_S_hasAct [.inr (.inr 7), .inl a1] σ Q := wp_in rfl (XX_intro (g_S_hasAct (call := wp d) (cut := XX none (wp d) c_S_hasAct true Q) (Q := Q) (a1 := a1) (σ := σ) (⟨fun z2 => ⟨isB0, ((h).1 z2)⟩, fun z2 => ⟨fun z1 => ⟨isB1, ((((h).2 z2)).1 z1)⟩, fun z1 => ⟨isB0, ((((h).2 z2)).2 z1)⟩⟩⟩)))
theorem g_S_hasLook {call : Nat → List AV → Mem → (Int → Mem → Prop) → Prop} {cut : Nat → Lo → List AV → Mem → Prop} {Q : Int → Mem → Prop} {a1 : Int} {σ : Mem} (h :
  (a1 < 0 → isB 0 ∧ Q 0 σ) ∧
  (0 ≤ a1 →
    (a1 < (σ 7 10) → isB 1 ∧ Q 1 σ) ∧
    ((σ 7 10) ≤ a1 → isB 0 ∧ Q 0 σ))) : seg none call c_S_hasLook true Q cut 2000 true (toPc 0 c_S_hasLook) [some (.inr (.inr 7)), some (.inl a1)] [] σ := h
theorem e_S_hasLook {d : Nat} {Q : Int → Mem → Prop} {a1 : Int} {σ : Mem} (h :
  (a1 < 0 → Q 0 σ) ∧
  (0 ≤ a1 →
    (a1 < (σ 7 10) → Q 1 σ) ∧
    ((σ 7 10) ≤ a1 → Q 0 σ))) : wp (d + 1) m_S_hasLook [.inr (.inr 7), .inl a1] σ Q := wp_in rfl (XX_intro (g_S_hasLook (call := wp d) (cut := XX none (wp d) c_S_hasLook true Q) (Q := Q) (a1 := a1) (σ := σ) (⟨fun z2 => ⟨isB0, ((h).1 z2)⟩, fun z2 => ⟨fun z1 => ⟨isB1, ((((h).2 z2)).1 z1)⟩, fun z1 => ⟨isB0, ((((h).2 z2)).2 z1)⟩⟩⟩)))
theorem g_S_hasSign {call : Nat → List AV → Mem → (Int → Mem → Prop) → Prop} {cut : Nat → Lo → List AV → Mem → Prop} {Q : Int → Mem → Prop} {a1 : Int} {a2 : Int} {σ : Mem} (h :
  call m_S_hasLook [.inr (.inr 7), .inl a1] σ (fun (r1 : Int) (s2 : Mem) =>
  (r1 = 0 → isB 0 ∧ Q 0 s2) ∧
    (¬ r1 = 0 →
      (a2 < 0 → isB 0 ∧ Q 0 s2) ∧
      (0 ≤ a2 →
        (0 ≤ a1 ∧ a1 < (12 : Int)) ∧ (a2 < (s2 13 a1.toNat) → isB 1 ∧ Q 1 s2) ∧
        ((s2 13 a1.toNat) ≤ a2 → isB 0 ∧ Q 0 s2))))) : seg none call c_S_hasSign true Q cut 2000 true (toPc 0 c_S_hasSign) [some (.inr (.inr 7)), some (.inl a1), some (.inl a2)] [] σ := h
theorem e_S_hasSign {d : Nat} {Q : Int → Mem → Prop} {a1 : Int} {a2 : Int} {σ : Mem} (h :
  wp d m_S_hasLook [.inr (.inr 7), .inl a1] σ (fun (r1 : Int) (s2 : Mem) =>
  (r1 = 0 → Q 0 s2) ∧
    (¬ r1 = 0 →
      (a2 < 0 → Q 0 s2) ∧
      (0 ≤ a2 →
        (0 ≤ a1 ∧ a1 < (12 : Int)) ∧ (a2 < (s2 13 a1.toNat) → Q 1 s2) ∧
        ((s2 13 a1.toNat) ≤ a2 → Q 0 s2))))) : wp (d + 1) m_S_hasSign [.inr (.inr 7), .inl a1, .inl a2] σ Q := wp_in rfl (XX_intro (g_S_hasSign (call := wp d) (cut := XX none (wp d) c_S_hasSign true Q) (Q := Q) (a1 := a1) (a2 := a2) (σ := σ) (wp_conseq (fun _ _ z4 => ⟨fun z3 => ⟨isB0, ((z4).1 z3)⟩, fun z3 => ⟨fun z2 => ⟨isB0, ((((z4).2 z3)).1 z2)⟩, fun z2 => ⟨(((((z4).2 z3)).2 z2)).1, ⟨fun z1 => ⟨isB1, (((((((z4).2 z3)).2 z2)).2).1 z1)⟩, fun z1 => ⟨isB0, (((((((z4).2 z3)).2 z2)).2).2 z1)⟩⟩⟩⟩⟩) (h))))
theorem g_S_lacksLook {call : Nat → List AV → Mem → (Int → Mem → Prop) → Prop} {cut : Nat → Lo → List AV → Mem → Prop} {Q : Int → Mem → Prop} {a1 : Int} {σ : Mem} (h :
  ((σ 7 0) = 0 → Q 3 σ) ∧
  (¬ (σ 7 0) = 0 →
    call m_S_hasLook [.inr (.inr 7), .inl a1] σ (fun (r1 : Int) (s2 : Mem) => (r1 = 0 → Q 1 s2) ∧
      (¬ r1 = 0 → Q 0 s2)))) : seg none call c_S_lacksLook false Q cut 2000 true (toPc 0 c_S_lacksLook) [some (.inr (.inr 7)), some (.inl a1)] [] σ := h
theorem e_S_lacksLook {d : Nat} {Q : Int → Mem → Prop} {a1 : Int} {σ : Mem} (h :
  ((σ 7 0) = 0 → Q 3 σ) ∧
  (¬ (σ 7 0) = 0 →
    wp d m_S_hasLook [.inr (.inr 7), .inl a1] σ (fun (r1 : Int) (s2 : Mem) => (r1 = 0 → Q 1 s2) ∧
      (¬ r1 = 0 → Q 0 s2)))) : wp (d + 1) m_S_lacksLook [.inr (.inr 7), .inl a1] σ Q := wp_in rfl (XX_intro (g_S_lacksLook (call := wp d) (cut := XX none (wp d) c_S_lacksLook false Q) (Q := Q) (a1 := a1) (σ := σ) (h)))
theorem g_S_lacksSign {call : Nat → List AV → Mem → (Int → Mem → Prop) → Prop} {cut : Nat → Lo → List AV → Mem → Prop} {Q : Int → Mem → Prop} {a1 : Int} {a2 : Int} {a3 : Int} {σ : Mem} (h :
  ((σ 7 0) = 0 → Q 3 σ) ∧
  (¬ (σ 7 0) = 0 →
    call m_S_hasSign [.inr (.inr 7), .inl a1, .inl a2] σ (fun (r1 : Int) (s2 : Mem) =>
    (r1 = 0 → Q 1 s2) ∧
      (¬ r1 = 0 →
        call m_S_hasTruth [.inr (.inr 7), .inl a3] s2 (fun (r3 : Int) (s4 : Mem) => (r3 = 0 → Q 1 s4) ∧
          (¬ r3 = 0 → Q 0 s4)))))) : seg none call c_S_lacksSign false Q cut 2000 true (toPc 0 c_S_lacksSign) [some (.inr (.inr 7)), some (.inl a1), some (.inl a2), some (.inl a3)] [] σ := h
theorem e_S_lacksSign {d : Nat} {Q : Int → Mem → Prop} {a1 : Int} {a2 : Int} {a3 : Int} {σ : Mem} (h :
  ((σ 7 0) = 0 → Q 3 σ) ∧
  (¬ (σ 7 0) = 0 →
    wp d m_S_hasSign [.inr (.inr 7), .inl a1, .inl a2] σ (fun (r1 : Int) (s2 : Mem) =>
    (r1 = 0 → Q 1 s2) ∧
      (¬ r1 = 0 →
        wp d m_S_hasTruth [.inr (.inr 7), .inl a3] s2 (fun (r3 : Int) (s4 : Mem) => (r3 = 0 → Q 1 s4) ∧
          (¬ r3 = 0 → Q 0 s4)))))) : wp (d + 1) m_S_lacksSign [.inr (.inr 7), .inl a1, .inl a2, .inl a3] σ Q := wp_in rfl (XX_intro (g_S_lacksSign (call := wp d) (cut := XX none (wp d) c_S_lacksSign false Q) (Q := Q) (a1 := a1) (a2 := a2) (a3 := a3) (σ := σ) (h)))
theorem g_S_lacksAct {call : Nat → List AV → Mem → (Int → Mem → Prop) → Prop} {cut : Nat → Lo → List AV → Mem → Prop} {Q : Int → Mem → Prop} {a1 : Int} {a2 : Int} {σ : Mem} (h :
  ((σ 7 0) = 0 → Q 3 σ) ∧
  (¬ (σ 7 0) = 0 →
    call m_S_hasAct [.inr (.inr 7), .inl a1] σ (fun (r1 : Int) (s2 : Mem) =>
    (r1 = 0 → Q 1 s2) ∧
      (¬ r1 = 0 →
        call m_S_hasTruth [.inr (.inr 7), .inl a2] s2 (fun (r3 : Int) (s4 : Mem) => (r3 = 0 → Q 1 s4) ∧
          (¬ r3 = 0 → Q 0 s4)))))) : seg none call c_S_lacksAct false Q cut 2000 true (toPc 0 c_S_lacksAct) [some (.inr (.inr 7)), some (.inl a1), some (.inl a2)] [] σ := h
theorem e_S_lacksAct {d : Nat} {Q : Int → Mem → Prop} {a1 : Int} {a2 : Int} {σ : Mem} (h :
  ((σ 7 0) = 0 → Q 3 σ) ∧
  (¬ (σ 7 0) = 0 →
    wp d m_S_hasAct [.inr (.inr 7), .inl a1] σ (fun (r1 : Int) (s2 : Mem) =>
    (r1 = 0 → Q 1 s2) ∧
      (¬ r1 = 0 →
        wp d m_S_hasTruth [.inr (.inr 7), .inl a2] s2 (fun (r3 : Int) (s4 : Mem) => (r3 = 0 → Q 1 s4) ∧
          (¬ r3 = 0 → Q 0 s4)))))) : wp (d + 1) m_S_lacksAct [.inr (.inr 7), .inl a1, .inl a2] σ Q := wp_in rfl (XX_intro (g_S_lacksAct (call := wp d) (cut := XX none (wp d) c_S_lacksAct false Q) (Q := Q) (a1 := a1) (a2 := a2) (σ := σ) (h)))
theorem g_S_hasTest {call : Nat → List AV → Mem → (Int → Mem → Prop) → Prop} {cut : Nat → Lo → List AV → Mem → Prop} {Q : Int → Mem → Prop} {a1 : Int} {σ : Mem} (h :
  (a1 < 0 → isB 0 ∧ Q 0 σ) ∧
  (0 ≤ a1 →
    (a1 < (σ 7 13) → isB 1 ∧ Q 1 σ) ∧
    ((σ 7 13) ≤ a1 → isB 0 ∧ Q 0 σ))) : seg none call c_S_hasTest true Q cut 2000 true (toPc 0 c_S_hasTest) [some (.inr (.inr 7)), some (.inl a1)] [] σ := h
theorem e_S_hasTest {d : Nat} {Q : Int → Mem → Prop} {a1 : Int} {σ : Mem} (h :
  (a1 < 0 → Q 0 σ) ∧
  (0 ≤ a1 →
    (a1 < (σ 7 13) → Q 1 σ) ∧
    ((σ 7 13) ≤ a1 → Q 0 σ))) : wp (d + 1) m_S_hasTest [.inr (.inr 7), .inl a1] σ Q := wp_in rfl (XX_intro (g_S_hasTest (call := wp d) (cut := XX none (wp d) c_S_hasTest true Q) (Q := Q) (a1 := a1) (σ := σ) (⟨fun z2 => ⟨isB0, ((h).1 z2)⟩, fun z2 => ⟨fun z1 => ⟨isB1, ((((h).2 z2)).1 z1)⟩, fun z1 => ⟨isB0, ((((h).2 z2)).2 z1)⟩⟩⟩)))
theorem g_S_hasTests {call : Nat → List AV → Mem → (Int → Mem → Prop) → Prop} {cut : Nat → Lo → List AV → Mem → Prop} {Q : Int → Mem → Prop} {a1 : Int} {σ : Mem} (h :
  (a1 < 0 → isB 0 ∧ Q 0 σ) ∧
  (0 ≤ a1 →
    (a1 < (shlI 1 (σ 7 13)) → isB 1 ∧ Q 1 σ) ∧
    ((shlI 1 (σ 7 13)) ≤ a1 → isB 0 ∧ Q 0 σ))) : seg none call c_S_hasTests true Q cut 2000 true (toPc 0 c_S_hasTests) [some (.inr (.inr 7)), some (.inl a1)] [] σ := h
theorem e_S_hasTests {d : Nat} {Q : Int → Mem → Prop} {a1 : Int} {σ : Mem} (h :
  (a1 < 0 → Q 0 σ) ∧
  (0 ≤ a1 →
    (a1 < (shlI 1 (σ 7 13)) → Q 1 σ) ∧
    ((shlI 1 (σ 7 13)) ≤ a1 → Q 0 σ))) : wp (d + 1) m_S_hasTests [.inr (.inr 7), .inl a1] σ Q := wp_in rfl (XX_intro (g_S_hasTests (call := wp d) (cut := XX none (wp d) c_S_hasTests true Q) (Q := Q) (a1 := a1) (σ := σ) (⟨fun z2 => ⟨isB0, ((h).1 z2)⟩, fun z2 => ⟨fun z1 => ⟨isB1, ((((h).2 z2)).1 z1)⟩, fun z1 => ⟨isB0, ((((h).2 z2)).2 z1)⟩⟩⟩)))
theorem g_S_isOrder {call : Nat → List AV → Mem → (Int → Mem → Prop) → Prop} {cut : Nat → Lo → List AV → Mem → Prop} {Q : Int → Mem → Prop} {a1 : Int} {a2 : Int} {a3 : Int} {σ : Mem} (h :
  call m_S_hasTest [.inr (.inr 7), .inl a1] σ (fun (r1 : Int) (s2 : Mem) =>
  (r1 = 0 → isB 0 ∧ Q 0 s2) ∧
    (¬ r1 = 0 →
      (a2 = (-1) →
        (a3 = (-1) → isB 1 ∧ Q 1 s2) ∧
        (¬ a3 = (-1) → isB 0 ∧ Q 0 s2)) ∧
      (¬ a2 = (-1) →
        call m_S_hasTest [.inr (.inr 7), .inl a2] s2 (fun (r3 : Int) (s4 : Mem) =>
        (r3 = 0 → isB 0 ∧ Q 0 s4) ∧
          (¬ r3 = 0 →
            (a2 = a1 → isB 0 ∧ Q 0 s4) ∧
            (¬ a2 = a1 →
              (a3 = (-1) → isB 1 ∧ Q 1 s4) ∧
              (¬ a3 = (-1) →
                call m_S_hasTest [.inr (.inr 7), .inl a3] s4 (fun (r5 : Int) (s6 : Mem) =>
                (r5 = 0 → isB 0 ∧ Q 0 s6) ∧
                  (¬ r5 = 0 →
                    (a3 = a1 → isB 0 ∧ Q 0 s6) ∧
                    (¬ a3 = a1 →
                      (a3 = a2 → isB 0 ∧ Q 0 s6) ∧
                      (¬ a3 = a2 → isB 1 ∧ Q 1 s6)))))))))))) : seg none call c_S_isOrder true Q cut 2000 true (toPc 0 c_S_isOrder) [some (.inr (.inr 7)), some (.inl a1), some (.inl a2), some (.inl a3)] [] σ := h
theorem e_S_isOrder {d : Nat} {Q : Int → Mem → Prop} {a1 : Int} {a2 : Int} {a3 : Int} {σ : Mem} (h :
  wp d m_S_hasTest [.inr (.inr 7), .inl a1] σ (fun (r1 : Int) (s2 : Mem) =>
  (r1 = 0 → Q 0 s2) ∧
    (¬ r1 = 0 →
      (a2 = (-1) →
        (a3 = (-1) → Q 1 s2) ∧
        (¬ a3 = (-1) → Q 0 s2)) ∧
      (¬ a2 = (-1) →
        wp d m_S_hasTest [.inr (.inr 7), .inl a2] s2 (fun (r3 : Int) (s4 : Mem) =>
        (r3 = 0 → Q 0 s4) ∧
          (¬ r3 = 0 →
            (a2 = a1 → Q 0 s4) ∧
            (¬ a2 = a1 →
              (a3 = (-1) → Q 1 s4) ∧
              (¬ a3 = (-1) →
                wp d m_S_hasTest [.inr (.inr 7), .inl a3] s4 (fun (r5 : Int) (s6 : Mem) =>
                (r5 = 0 → Q 0 s6) ∧
                  (¬ r5 = 0 →
                    (a3 = a1 → Q 0 s6) ∧
                    (¬ a3 = a1 →
                      (a3 = a2 → Q 0 s6) ∧
                      (¬ a3 = a2 → Q 1 s6)))))))))))) : wp (d + 1) m_S_isOrder [.inr (.inr 7), .inl a1, .inl a2, .inl a3] σ Q := wp_in rfl (XX_intro (g_S_isOrder (call := wp d) (cut := XX none (wp d) c_S_isOrder true Q) (Q := Q) (a1 := a1) (a2 := a2) (a3 := a3) (σ := σ) (wp_conseq (fun _ _ z12 => ⟨fun z11 => ⟨isB0, ((z12).1 z11)⟩, fun z11 => ⟨fun z10 => ⟨fun z9 => ⟨isB1, ((((((z12).2 z11)).1 z10)).1 z9)⟩, fun z9 => ⟨isB0, ((((((z12).2 z11)).1 z10)).2 z9)⟩⟩, fun z10 => wp_conseq (fun _ _ z8 => ⟨fun z7 => ⟨isB0, ((z8).1 z7)⟩, fun z7 => ⟨fun z6 => ⟨isB0, ((((z8).2 z7)).1 z6)⟩, fun z6 => ⟨fun z5 => ⟨isB1, ((((((z8).2 z7)).2 z6)).1 z5)⟩, fun z5 => wp_conseq (fun _ _ z4 => ⟨fun z3 => ⟨isB0, ((z4).1 z3)⟩, fun z3 => ⟨fun z2 => ⟨isB0, ((((z4).2 z3)).1 z2)⟩, fun z2 => ⟨fun z1 => ⟨isB0, ((((((z4).2 z3)).2 z2)).1 z1)⟩, fun z1 => ⟨isB1, ((((((z4).2 z3)).2 z2)).2 z1)⟩⟩⟩⟩) (((((((z8).2 z7)).2 z6)).2 z5))⟩⟩⟩) (((((z12).2 z11)).2 z10))⟩⟩) (h))))
theorem g_S_pay {call : Nat → List AV → Mem → (Int → Mem → Prop) → Prop} {cut : Nat → Lo → List AV → Mem → Prop} {Q : Int → Mem → Prop} {a1 : Int} {σ : Mem} (h :
  (a1 = 0 → Q (11 : Int) σ) ∧
  (¬ a1 = 0 → Q (10 : Int) σ)) : seg none call c_S_pay false Q cut 2000 true (toPc 0 c_S_pay) [some (.inr (.inr 7)), some (.inl a1)] [] σ := h
theorem e_S_pay {d : Nat} {Q : Int → Mem → Prop} {a1 : Int} {σ : Mem} (h :
  (a1 = 0 → Q (11 : Int) σ) ∧
  (¬ a1 = 0 → Q (10 : Int) σ)) : wp (d + 1) m_S_pay [.inr (.inr 7), .inl a1] σ Q := wp_in rfl (XX_intro (g_S_pay (call := wp d) (cut := XX none (wp d) c_S_pay false Q) (Q := Q) (a1 := a1) (σ := σ) (h)))
theorem g_S_partOf {call : Nat → List AV → Mem → (Int → Mem → Prop) → Prop} {cut : Nat → Lo → List AV → Mem → Prop} {Q : Int → Mem → Prop} {a1 : Int} {a2 : Int} {a3 : Int} {σ : Mem} (h :
  (0 ≤ (w32 ((w32 ((w32 (a1 * 24)) + (w32 (a2 * 6)))) + a3)) ∧ (w32 ((w32 ((w32 (a1 * 24)) + (w32 (a2 * 6)))) + a3)) < (288 : Int)) ∧ Q (σ 14 (w32 ((w32 ((w32 (a1 * 24)) + (w32 (a2 * 6)))) + a3)).toNat) σ) : seg none call c_S_partOf false Q cut 2000 true (toPc 0 c_S_partOf) [some (.inr (.inr 7)), some (.inl a1), some (.inl a2), some (.inl a3)] [] σ := h
theorem e_S_partOf {d : Nat} {Q : Int → Mem → Prop} {a1 : Int} {a2 : Int} {a3 : Int} {σ : Mem} (h :
  (0 ≤ (w32 ((w32 ((w32 (a1 * 24)) + (w32 (a2 * 6)))) + a3)) ∧ (w32 ((w32 ((w32 (a1 * 24)) + (w32 (a2 * 6)))) + a3)) < (288 : Int)) ∧ Q (σ 14 (w32 ((w32 ((w32 (a1 * 24)) + (w32 (a2 * 6)))) + a3)).toNat) σ) : wp (d + 1) m_S_partOf [.inr (.inr 7), .inl a1, .inl a2, .inl a3] σ Q := wp_in rfl (XX_intro (g_S_partOf (call := wp d) (cut := XX none (wp d) c_S_partOf false Q) (Q := Q) (a1 := a1) (a2 := a2) (a3 := a3) (σ := σ) (h)))
theorem g_S_write {call : Nat → List AV → Mem → (Int → Mem → Prop) → Prop} {cut : Nat → Lo → List AV → Mem → Prop} {Q : Int → Mem → Prop} {a1 : Int} {a2 : Int} {a3 : Int} {σ : Mem} (h :
  ((σ 7 10) < 12 →
    (0 ≤ (w32 ((w32 ((w32 ((σ 7 10) * 24)) + (w32 (a1 * 6)))) + a2)) ∧ (w32 ((w32 ((w32 ((σ 7 10) * 24)) + (w32 (a1 * 6)))) + a2)) < (288 : Int)) ∧ Q 0 (mset σ 14 (w32 ((w32 ((w32 ((σ 7 10) * 24)) + (w32 (a1 * 6)))) + a2)).toNat a3)) ∧
  (12 ≤ (σ 7 10) → Q 0 σ)) : seg none call c_S_write false Q cut 2000 true (toPc 0 c_S_write) [some (.inr (.inr 7)), some (.inl a1), some (.inl a2), some (.inl a3)] [] σ := h
theorem e_S_write {d : Nat} {Q : Int → Mem → Prop} {a1 : Int} {a2 : Int} {a3 : Int} {σ : Mem} (h :
  ((σ 7 10) < 12 →
    (0 ≤ (w32 ((w32 ((w32 ((σ 7 10) * 24)) + (w32 (a1 * 6)))) + a2)) ∧ (w32 ((w32 ((w32 ((σ 7 10) * 24)) + (w32 (a1 * 6)))) + a2)) < (288 : Int)) ∧ Q 0 (mset σ 14 (w32 ((w32 ((w32 ((σ 7 10) * 24)) + (w32 (a1 * 6)))) + a2)).toNat a3)) ∧
  (12 ≤ (σ 7 10) → Q 0 σ)) : wp (d + 1) m_S_write [.inr (.inr 7), .inl a1, .inl a2, .inl a3] σ Q := wp_in rfl (XX_intro (g_S_write (call := wp d) (cut := XX none (wp d) c_S_write false Q) (Q := Q) (a1 := a1) (a2 := a2) (a3 := a3) (σ := σ) (h)))
abbrev K_S_isWhole_2 (d : Nat) (Q : Int → Mem → Prop) (x1 : Int) (x2 : Int) (x3 : Int) (σ : Mem) : Prop := XX none (wp d) c_S_isWhole true Q 2 [some (.inr (.inr 7)), some (.inl x1), some (.inl x2), some (.inl x3), none] [] σ
abbrev K_S_isWhole_13 (d : Nat) (Q : Int → Mem → Prop) (x1 : Int) (x2 : Int) (x3 : Int) (x4 : Int) (σ : Mem) : Prop := XX none (wp d) c_S_isWhole true Q 13 [some (.inr (.inr 7)), some (.inl x1), some (.inl x2), some (.inl x3), some (.inl x4)] [] σ
theorem g_S_isWhole {call : Nat → List AV → Mem → (Int → Mem → Prop) → Prop} {cut : Nat → Lo → List AV → Mem → Prop} {Q : Int → Mem → Prop} {a1 : Int} {a2 : Int} {σ : Mem} (h :
  cut 2 [some (.inr (.inr 7)), some (.inl a1), some (.inl a2), some (.inl 0), none] [] σ) : seg none call c_S_isWhole true Q cut 2000 true (toPc 0 c_S_isWhole) [some (.inr (.inr 7)), some (.inl a1), some (.inl a2), none, none] [] σ := h
theorem e_S_isWhole {d : Nat} {Q : Int → Mem → Prop} {a1 : Int} {a2 : Int} {σ : Mem} (h :
  K_S_isWhole_2 d Q a1 a2 0 σ) : wp (d + 1) m_S_isWhole [.inr (.inr 7), .inl a1, .inl a2] σ Q := wp_in rfl (XX_intro (g_S_isWhole (call := wp d) (cut := XX none (wp d) c_S_isWhole true Q) (Q := Q) (a1 := a1) (a2 := a2) (σ := σ) (h)))
theorem g_S_isWhole_2 {call : Nat → List AV → Mem → (Int → Mem → Prop) → Prop} {cut : Nat → Lo → List AV → Mem → Prop} {Q : Int → Mem → Prop} {x1 : Int} {x2 : Int} {x3 : Int} {σ : Mem} (h :
  (x3 < (σ 7 1) →
    cut 13 [some (.inr (.inr 7)), some (.inl x1), some (.inl x2), some (.inl x3), some (.inl 0)] [] σ) ∧
  ((σ 7 1) ≤ x3 → isB 1 ∧ Q 1 σ)) : seg none call c_S_isWhole true Q cut 2000 true (toPc 2 c_S_isWhole) [some (.inr (.inr 7)), some (.inl x1), some (.inl x2), some (.inl x3), none] [] σ := h
theorem e_S_isWhole_2 {d : Nat} {Q : Int → Mem → Prop} {x1 : Int} {x2 : Int} {x3 : Int} {σ : Mem} (h :
  (x3 < (σ 7 1) → K_S_isWhole_13 d Q x1 x2 x3 0 σ) ∧
  ((σ 7 1) ≤ x3 → Q 1 σ)) : K_S_isWhole_2 d Q x1 x2 x3 σ := XX_intro (g_S_isWhole_2 (call := wp d) (cut := XX none (wp d) c_S_isWhole true Q) (Q := Q) (x1 := x1) (x2 := x2) (x3 := x3) (σ := σ) (⟨fun z1 => (h).1 z1, fun z1 => ⟨isB1, ((h).2 z1)⟩⟩))
theorem g_S_isWhole_13 {call : Nat → List AV → Mem → (Int → Mem → Prop) → Prop} {cut : Nat → Lo → List AV → Mem → Prop} {Q : Int → Mem → Prop} {x1 : Int} {x2 : Int} {x3 : Int} {x4 : Int} {σ : Mem} (h :
  (0 ≤ x1 ∧ x1 < (12 : Int)) ∧ (x4 < (σ 13 x1.toNat) →
    call m_S_partOf [.inr (.inr 7), .inl x1, .inl x3, .inl x4] σ (fun (r1 : Int) (s2 : Mem) =>
    (¬ (12 : Int) = 0) ∧ ((Int.tmod (w32 (r1 * x2)) 12) = 0 →
        cut 13 [some (.inr (.inr 7)), some (.inl x1), some (.inl x2), some (.inl x3), some (.inl (w32 (x4 + 1)))] [] s2) ∧
      (¬ (Int.tmod (w32 (r1 * x2)) 12) = 0 → isB 0 ∧ Q 0 s2))) ∧
  ((σ 13 x1.toNat) ≤ x4 →
    cut 2 [some (.inr (.inr 7)), some (.inl x1), some (.inl x2), some (.inl (w32 (x3 + 1))), none] [] σ)) : seg none call c_S_isWhole true Q cut 2000 true (toPc 13 c_S_isWhole) [some (.inr (.inr 7)), some (.inl x1), some (.inl x2), some (.inl x3), some (.inl x4)] [] σ := h
theorem e_S_isWhole_13 {d : Nat} {Q : Int → Mem → Prop} {x1 : Int} {x2 : Int} {x3 : Int} {x4 : Int} {σ : Mem} (h :
  (0 ≤ x1 ∧ x1 < (12 : Int)) ∧ (x4 < (σ 13 x1.toNat) →
    wp d m_S_partOf [.inr (.inr 7), .inl x1, .inl x3, .inl x4] σ (fun (r1 : Int) (s2 : Mem) =>
    ((Int.tmod (w32 (r1 * x2)) 12) = 0 → K_S_isWhole_13 d Q x1 x2 x3 (w32 (x4 + 1)) s2) ∧
      (¬ (Int.tmod (w32 (r1 * x2)) 12) = 0 → Q 0 s2))) ∧
  ((σ 13 x1.toNat) ≤ x4 → K_S_isWhole_2 d Q x1 x2 (w32 (x3 + 1)) σ)) : K_S_isWhole_13 d Q x1 x2 x3 x4 σ := XX_intro (g_S_isWhole_13 (call := wp d) (cut := XX none (wp d) c_S_isWhole true Q) (Q := Q) (x1 := x1) (x2 := x2) (x3 := x3) (x4 := x4) (σ := σ) (⟨(h).1, ⟨fun z3 => wp_conseq (fun _ _ z2 => ⟨(by decide), ⟨fun z1 => (z2).1 z1, fun z1 => ⟨isB0, ((z2).2 z1)⟩⟩⟩) ((((h).2).1 z3)), fun z3 => ((h).2).2 z3⟩⟩))
abbrev K_S_writeShare_3 (d : Nat) (Q : Int → Mem → Prop) (x1 : Int) (x2 : Int) (x3 : Int) (x4 : Int) (σ : Mem) : Prop := XX none (wp d) c_S_writeShare false Q 3 [some (.inr (.inr 7)), some (.inl x1), some (.inl x2), some (.inl x3), some (.inl x4), none] [] σ
abbrev K_S_writeShare_15 (d : Nat) (Q : Int → Mem → Prop) (x1 : Int) (x2 : Int) (x3 : Int) (x4 : Int) (x5 : Int) (σ : Mem) : Prop := XX none (wp d) c_S_writeShare false Q 15 [some (.inr (.inr 7)), some (.inl x1), some (.inl x2), some (.inl x3), some (.inl x4), some (.inl x5)] [] σ
theorem g_S_writeShare {call : Nat → List AV → Mem → (Int → Mem → Prop) → Prop} {cut : Nat → Lo → List AV → Mem → Prop} {Q : Int → Mem → Prop} {a1 : Int} {a2 : Int} {a3 : Int} {σ : Mem} (h :
  cut 3 [some (.inr (.inr 7)), some (.inl a1), some (.inl a2), some (.inl a3), some (.inl 0), none] [] σ) : seg none call c_S_writeShare false Q cut 2000 true (toPc 0 c_S_writeShare) [some (.inr (.inr 7)), some (.inl a1), some (.inl a2), some (.inl a3), none, none] [] σ := h
theorem e_S_writeShare {d : Nat} {Q : Int → Mem → Prop} {a1 : Int} {a2 : Int} {a3 : Int} {σ : Mem} (h :
  K_S_writeShare_3 d Q a1 a2 a3 0 σ) : wp (d + 1) m_S_writeShare [.inr (.inr 7), .inl a1, .inl a2, .inl a3] σ Q := wp_in rfl (XX_intro (g_S_writeShare (call := wp d) (cut := XX none (wp d) c_S_writeShare false Q) (Q := Q) (a1 := a1) (a2 := a2) (a3 := a3) (σ := σ) (h)))
theorem g_S_writeShare_3 {call : Nat → List AV → Mem → (Int → Mem → Prop) → Prop} {cut : Nat → Lo → List AV → Mem → Prop} {Q : Int → Mem → Prop} {x1 : Int} {x2 : Int} {x3 : Int} {x4 : Int} {σ : Mem} (h :
  (x4 < (σ 7 1) →
    cut 15 [some (.inr (.inr 7)), some (.inl x1), some (.inl x2), some (.inl x3), some (.inl x4), some (.inl 0)] [] σ) ∧
  ((σ 7 1) ≤ x4 → Q 0 σ)) : seg none call c_S_writeShare false Q cut 2000 true (toPc 3 c_S_writeShare) [some (.inr (.inr 7)), some (.inl x1), some (.inl x2), some (.inl x3), some (.inl x4), none] [] σ := h
theorem e_S_writeShare_3 {d : Nat} {Q : Int → Mem → Prop} {x1 : Int} {x2 : Int} {x3 : Int} {x4 : Int} {σ : Mem} (h :
  (x4 < (σ 7 1) → K_S_writeShare_15 d Q x1 x2 x3 x4 0 σ) ∧
  ((σ 7 1) ≤ x4 → Q 0 σ)) : K_S_writeShare_3 d Q x1 x2 x3 x4 σ := XX_intro (g_S_writeShare_3 (call := wp d) (cut := XX none (wp d) c_S_writeShare false Q) (Q := Q) (x1 := x1) (x2 := x2) (x3 := x3) (x4 := x4) (σ := σ) (h))
theorem g_S_writeShare_15 {call : Nat → List AV → Mem → (Int → Mem → Prop) → Prop} {cut : Nat → Lo → List AV → Mem → Prop} {Q : Int → Mem → Prop} {x1 : Int} {x2 : Int} {x3 : Int} {x4 : Int} {x5 : Int} {σ : Mem} (h :
  (0 ≤ x1 ∧ x1 < (12 : Int)) ∧ (x5 < (σ 13 x1.toNat) →
    call m_S_partOf [.inr (.inr 7), .inl x1, .inl x4, .inl x5] σ (fun (r1 : Int) (s2 : Mem) =>
    (¬ (12 : Int) = 0) ∧ call m_S_write [.inr (.inr 7), .inl x4, .inl (w32 (x3 + x5)), .inl (w32 (Int.tdiv (w32 (r1 * x2)) 12))] s2 (fun (r3 : Int) (s4 : Mem) =>
      cut 15 [some (.inr (.inr 7)), some (.inl x1), some (.inl x2), some (.inl x3), some (.inl x4), some (.inl (w32 (x5 + 1)))] [] s4))) ∧
  ((σ 13 x1.toNat) ≤ x5 →
    cut 3 [some (.inr (.inr 7)), some (.inl x1), some (.inl x2), some (.inl x3), some (.inl (w32 (x4 + 1))), none] [] σ)) : seg none call c_S_writeShare false Q cut 2000 true (toPc 15 c_S_writeShare) [some (.inr (.inr 7)), some (.inl x1), some (.inl x2), some (.inl x3), some (.inl x4), some (.inl x5)] [] σ := h
theorem e_S_writeShare_15 {d : Nat} {Q : Int → Mem → Prop} {x1 : Int} {x2 : Int} {x3 : Int} {x4 : Int} {x5 : Int} {σ : Mem} (h :
  (0 ≤ x1 ∧ x1 < (12 : Int)) ∧ (x5 < (σ 13 x1.toNat) →
    wp d m_S_partOf [.inr (.inr 7), .inl x1, .inl x4, .inl x5] σ (fun (r1 : Int) (s2 : Mem) =>
    wp d m_S_write [.inr (.inr 7), .inl x4, .inl (w32 (x3 + x5)), .inl (w32 (Int.tdiv (w32 (r1 * x2)) 12))] s2 (fun (r3 : Int) (s4 : Mem) => K_S_writeShare_15 d Q x1 x2 x3 x4 (w32 (x5 + 1)) s4))) ∧
  ((σ 13 x1.toNat) ≤ x5 → K_S_writeShare_3 d Q x1 x2 x3 (w32 (x4 + 1)) σ)) : K_S_writeShare_15 d Q x1 x2 x3 x4 x5 σ := XX_intro (g_S_writeShare_15 (call := wp d) (cut := XX none (wp d) c_S_writeShare false Q) (Q := Q) (x1 := x1) (x2 := x2) (x3 := x3) (x4 := x4) (x5 := x5) (σ := σ) (⟨(h).1, ⟨fun z2 => wp_conseq (fun _ _ z1 => ⟨(by decide), z1⟩) ((((h).2).1 z2)), fun z2 => ((h).2).2 z2⟩⟩))
theorem g_S_thoughtFits {call : Nat → List AV → Mem → (Int → Mem → Prop) → Prop} {cut : Nat → Lo → List AV → Mem → Prop} {Q : Int → Mem → Prop} {a1 : Int} {a2 : Int} {a3 : Int} {σ : Mem} (h :
  (1 < (σ 7 1) →
    (2 < (σ 7 1) →
      (3 < (σ 7 1) → isB 1 ∧ Q 1 σ) ∧
      ((σ 7 1) ≤ 3 →
        (a3 = 0 → isB 1 ∧ Q 1 σ) ∧
        (¬ a3 = 0 → isB 0 ∧ Q 0 σ))) ∧
    ((σ 7 1) ≤ 2 →
      (a2 = 0 →
        (3 < (σ 7 1) → isB 1 ∧ Q 1 σ) ∧
        ((σ 7 1) ≤ 3 →
          (a3 = 0 → isB 1 ∧ Q 1 σ) ∧
          (¬ a3 = 0 → isB 0 ∧ Q 0 σ))) ∧
      (¬ a2 = 0 → isB 0 ∧ Q 0 σ))) ∧
  ((σ 7 1) ≤ 1 →
    (a1 = 0 →
      (2 < (σ 7 1) →
        (3 < (σ 7 1) → isB 1 ∧ Q 1 σ) ∧
        ((σ 7 1) ≤ 3 →
          (a3 = 0 → isB 1 ∧ Q 1 σ) ∧
          (¬ a3 = 0 → isB 0 ∧ Q 0 σ))) ∧
      ((σ 7 1) ≤ 2 →
        (a2 = 0 →
          (3 < (σ 7 1) → isB 1 ∧ Q 1 σ) ∧
          ((σ 7 1) ≤ 3 →
            (a3 = 0 → isB 1 ∧ Q 1 σ) ∧
            (¬ a3 = 0 → isB 0 ∧ Q 0 σ))) ∧
        (¬ a2 = 0 → isB 0 ∧ Q 0 σ))) ∧
    (¬ a1 = 0 → isB 0 ∧ Q 0 σ))) : seg none call c_S_thoughtFits true Q cut 2000 true (toPc 0 c_S_thoughtFits) [some (.inr (.inr 7)), some (.inl a1), some (.inl a2), some (.inl a3)] [] σ := h
theorem e_S_thoughtFits {d : Nat} {Q : Int → Mem → Prop} {a1 : Int} {a2 : Int} {a3 : Int} {σ : Mem} (h :
  (1 < (σ 7 1) →
    (2 < (σ 7 1) →
      (3 < (σ 7 1) → Q 1 σ) ∧
      ((σ 7 1) ≤ 3 →
        (a3 = 0 → Q 1 σ) ∧
        (¬ a3 = 0 → Q 0 σ))) ∧
    ((σ 7 1) ≤ 2 →
      (a2 = 0 →
        (3 < (σ 7 1) → Q 1 σ) ∧
        ((σ 7 1) ≤ 3 →
          (a3 = 0 → Q 1 σ) ∧
          (¬ a3 = 0 → Q 0 σ))) ∧
      (¬ a2 = 0 → Q 0 σ))) ∧
  ((σ 7 1) ≤ 1 →
    (a1 = 0 →
      (2 < (σ 7 1) →
        (3 < (σ 7 1) → Q 1 σ) ∧
        ((σ 7 1) ≤ 3 →
          (a3 = 0 → Q 1 σ) ∧
          (¬ a3 = 0 → Q 0 σ))) ∧
      ((σ 7 1) ≤ 2 →
        (a2 = 0 →
          (3 < (σ 7 1) → Q 1 σ) ∧
          ((σ 7 1) ≤ 3 →
            (a3 = 0 → Q 1 σ) ∧
            (¬ a3 = 0 → Q 0 σ))) ∧
        (¬ a2 = 0 → Q 0 σ))) ∧
    (¬ a1 = 0 → Q 0 σ))) : wp (d + 1) m_S_thoughtFits [.inr (.inr 7), .inl a1, .inl a2, .inl a3] σ Q := wp_in rfl (XX_intro (g_S_thoughtFits (call := wp d) (cut := XX none (wp d) c_S_thoughtFits true Q) (Q := Q) (a1 := a1) (a2 := a2) (a3 := a3) (σ := σ) (⟨fun z14 => ⟨fun z6 => ⟨fun z2 => ⟨isB1, ((((((h).1 z14)).1 z6)).1 z2)⟩, fun z2 => ⟨fun z1 => ⟨isB1, ((((((((h).1 z14)).1 z6)).2 z2)).1 z1)⟩, fun z1 => ⟨isB0, ((((((((h).1 z14)).1 z6)).2 z2)).2 z1)⟩⟩⟩, fun z6 => ⟨fun z5 => ⟨fun z4 => ⟨isB1, ((((((((h).1 z14)).2 z6)).1 z5)).1 z4)⟩, fun z4 => ⟨fun z3 => ⟨isB1, ((((((((((h).1 z14)).2 z6)).1 z5)).2 z4)).1 z3)⟩, fun z3 => ⟨isB0, ((((((((((h).1 z14)).2 z6)).1 z5)).2 z4)).2 z3)⟩⟩⟩, fun z5 => ⟨isB0, ((((((h).1 z14)).2 z6)).2 z5)⟩⟩⟩, fun z14 => ⟨fun z13 => ⟨fun z12 => ⟨fun z8 => ⟨isB1, ((((((((h).2 z14)).1 z13)).1 z12)).1 z8)⟩, fun z8 => ⟨fun z7 => ⟨isB1, ((((((((((h).2 z14)).1 z13)).1 z12)).2 z8)).1 z7)⟩, fun z7 => ⟨isB0, ((((((((((h).2 z14)).1 z13)).1 z12)).2 z8)).2 z7)⟩⟩⟩, fun z12 => ⟨fun z11 => ⟨fun z10 => ⟨isB1, ((((((((((h).2 z14)).1 z13)).2 z12)).1 z11)).1 z10)⟩, fun z10 => ⟨fun z9 => ⟨isB1, ((((((((((((h).2 z14)).1 z13)).2 z12)).1 z11)).2 z10)).1 z9)⟩, fun z9 => ⟨isB0, ((((((((((((h).2 z14)).1 z13)).2 z12)).1 z11)).2 z10)).2 z9)⟩⟩⟩, fun z11 => ⟨isB0, ((((((((h).2 z14)).1 z13)).2 z12)).2 z11)⟩⟩⟩, fun z13 => ⟨isB0, ((((h).2 z14)).2 z13)⟩⟩⟩)))
theorem g_S_keepThought {call : Nat → List AV → Mem → (Int → Mem → Prop) → Prop} {cut : Nat → Lo → List AV → Mem → Prop} {Q : Int → Mem → Prop} {a1 : Int} {a2 : Int} {a3 : Int} {a4 : Int} {a5 : Int} {σ : Mem} (h :
  ((σ 7 16) < 4 →
    (0 ≤ (w32 ((σ 7 16) * 4)) ∧ (w32 ((σ 7 16) * 4)) < (16 : Int)) ∧ (0 ≤ (w32 ((w32 ((σ 7 16) * 4)) + 1)) ∧ (w32 ((w32 ((σ 7 16) * 4)) + 1)) < (16 : Int)) ∧ (0 ≤ (w32 ((w32 ((σ 7 16) * 4)) + 2)) ∧ (w32 ((w32 ((σ 7 16) * 4)) + 2)) < (16 : Int)) ∧ (0 ≤ (w32 ((w32 ((σ 7 16) * 4)) + 3)) ∧ (w32 ((w32 ((σ 7 16) * 4)) + 3)) < (16 : Int)) ∧ (0 ≤ ((mset (mset (mset (mset σ 17 (w32 ((σ 7 16) * 4)).toNat a1) 17 (w32 ((w32 ((σ 7 16) * 4)) + 1)).toNat a2) 17 (w32 ((w32 ((σ 7 16) * 4)) + 2)).toNat a3) 17 (w32 ((w32 ((σ 7 16) * 4)) + 3)).toNat a4) 7 16) ∧ ((mset (mset (mset (mset σ 17 (w32 ((σ 7 16) * 4)).toNat a1) 17 (w32 ((w32 ((σ 7 16) * 4)) + 1)).toNat a2) 17 (w32 ((w32 ((σ 7 16) * 4)) + 2)).toNat a3) 17 (w32 ((w32 ((σ 7 16) * 4)) + 3)).toNat a4) 7 16) < (4 : Int)) ∧ Q 0 (mset (mset (mset (mset (mset (mset σ 17 (w32 ((σ 7 16) * 4)).toNat a1) 17 (w32 ((w32 ((σ 7 16) * 4)) + 1)).toNat a2) 17 (w32 ((w32 ((σ 7 16) * 4)) + 2)).toNat a3) 17 (w32 ((w32 ((σ 7 16) * 4)) + 3)).toNat a4) 18 ((mset (mset (mset (mset σ 17 (w32 ((σ 7 16) * 4)).toNat a1) 17 (w32 ((w32 ((σ 7 16) * 4)) + 1)).toNat a2) 17 (w32 ((w32 ((σ 7 16) * 4)) + 2)).toNat a3) 17 (w32 ((w32 ((σ 7 16) * 4)) + 3)).toNat a4) 7 16).toNat a5) 7 16 (w32 (((mset (mset (mset (mset (mset σ 17 (w32 ((σ 7 16) * 4)).toNat a1) 17 (w32 ((w32 ((σ 7 16) * 4)) + 1)).toNat a2) 17 (w32 ((w32 ((σ 7 16) * 4)) + 2)).toNat a3) 17 (w32 ((w32 ((σ 7 16) * 4)) + 3)).toNat a4) 18 ((mset (mset (mset (mset σ 17 (w32 ((σ 7 16) * 4)).toNat a1) 17 (w32 ((w32 ((σ 7 16) * 4)) + 1)).toNat a2) 17 (w32 ((w32 ((σ 7 16) * 4)) + 2)).toNat a3) 17 (w32 ((w32 ((σ 7 16) * 4)) + 3)).toNat a4) 7 16).toNat a5) 7 16) + 1)))) ∧
  (4 ≤ (σ 7 16) → Q 0 σ)) : seg none call c_S_keepThought false Q cut 2000 true (toPc 0 c_S_keepThought) [some (.inr (.inr 7)), some (.inl a1), some (.inl a2), some (.inl a3), some (.inl a4), some (.inl a5), none] [] σ := h
theorem e_S_keepThought {d : Nat} {Q : Int → Mem → Prop} {a1 : Int} {a2 : Int} {a3 : Int} {a4 : Int} {a5 : Int} {σ : Mem} (h :
  ((σ 7 16) < 4 →
    (0 ≤ (w32 ((σ 7 16) * 4)) ∧ (w32 ((σ 7 16) * 4)) < (16 : Int)) ∧ (0 ≤ (w32 ((w32 ((σ 7 16) * 4)) + 1)) ∧ (w32 ((w32 ((σ 7 16) * 4)) + 1)) < (16 : Int)) ∧ (0 ≤ (w32 ((w32 ((σ 7 16) * 4)) + 2)) ∧ (w32 ((w32 ((σ 7 16) * 4)) + 2)) < (16 : Int)) ∧ (0 ≤ (w32 ((w32 ((σ 7 16) * 4)) + 3)) ∧ (w32 ((w32 ((σ 7 16) * 4)) + 3)) < (16 : Int)) ∧ (0 ≤ ((mset (mset (mset (mset σ 17 (w32 ((σ 7 16) * 4)).toNat a1) 17 (w32 ((w32 ((σ 7 16) * 4)) + 1)).toNat a2) 17 (w32 ((w32 ((σ 7 16) * 4)) + 2)).toNat a3) 17 (w32 ((w32 ((σ 7 16) * 4)) + 3)).toNat a4) 7 16) ∧ ((mset (mset (mset (mset σ 17 (w32 ((σ 7 16) * 4)).toNat a1) 17 (w32 ((w32 ((σ 7 16) * 4)) + 1)).toNat a2) 17 (w32 ((w32 ((σ 7 16) * 4)) + 2)).toNat a3) 17 (w32 ((w32 ((σ 7 16) * 4)) + 3)).toNat a4) 7 16) < (4 : Int)) ∧ Q 0 (mset (mset (mset (mset (mset (mset σ 17 (w32 ((σ 7 16) * 4)).toNat a1) 17 (w32 ((w32 ((σ 7 16) * 4)) + 1)).toNat a2) 17 (w32 ((w32 ((σ 7 16) * 4)) + 2)).toNat a3) 17 (w32 ((w32 ((σ 7 16) * 4)) + 3)).toNat a4) 18 ((mset (mset (mset (mset σ 17 (w32 ((σ 7 16) * 4)).toNat a1) 17 (w32 ((w32 ((σ 7 16) * 4)) + 1)).toNat a2) 17 (w32 ((w32 ((σ 7 16) * 4)) + 2)).toNat a3) 17 (w32 ((w32 ((σ 7 16) * 4)) + 3)).toNat a4) 7 16).toNat a5) 7 16 (w32 (((mset (mset (mset (mset (mset σ 17 (w32 ((σ 7 16) * 4)).toNat a1) 17 (w32 ((w32 ((σ 7 16) * 4)) + 1)).toNat a2) 17 (w32 ((w32 ((σ 7 16) * 4)) + 2)).toNat a3) 17 (w32 ((w32 ((σ 7 16) * 4)) + 3)).toNat a4) 18 ((mset (mset (mset (mset σ 17 (w32 ((σ 7 16) * 4)).toNat a1) 17 (w32 ((w32 ((σ 7 16) * 4)) + 1)).toNat a2) 17 (w32 ((w32 ((σ 7 16) * 4)) + 2)).toNat a3) 17 (w32 ((w32 ((σ 7 16) * 4)) + 3)).toNat a4) 7 16).toNat a5) 7 16) + 1)))) ∧
  (4 ≤ (σ 7 16) → Q 0 σ)) : wp (d + 1) m_S_keepThought [.inr (.inr 7), .inl a1, .inl a2, .inl a3, .inl a4, .inl a5] σ Q := wp_in rfl (XX_intro (g_S_keepThought (call := wp d) (cut := XX none (wp d) c_S_keepThought false Q) (Q := Q) (a1 := a1) (a2 := a2) (a3 := a3) (a4 := a4) (a5 := a5) (σ := σ) (h)))
abbrev K_S_thoughtTotal_5 (d : Nat) (Q : Int → Mem → Prop) (x1 : Int) (x2 : Int) (x4 : Int) (σ : Mem) : Prop := XX none (wp d) c_S_thoughtTotal false Q 5 [some (.inr (.inr 7)), some (.inl x1), some (.inr (.inl x2)), none, some (.inl x4)] [] σ
theorem g_S_thoughtTotal {call : Nat → List AV → Mem → (Int → Mem → Prop) → Prop} {cut : Nat → Lo → List AV → Mem → Prop} {Q : Int → Mem → Prop} {a1 : Int} {σ : Mem} (h :
  cut 5 [some (.inr (.inr 7)), some (.inl a1), some (.inr (.inl 0)), none, some (.inl 0)] [] σ) : seg none call c_S_thoughtTotal false Q cut 2000 true (toPc 0 c_S_thoughtTotal) [some (.inr (.inr 7)), some (.inl a1), none, none, none] [] σ := h
theorem e_S_thoughtTotal {d : Nat} {Q : Int → Mem → Prop} {a1 : Int} {σ : Mem} (h :
  K_S_thoughtTotal_5 d Q a1 0 0 σ) : wp (d + 1) m_S_thoughtTotal [.inr (.inr 7), .inl a1] σ Q := wp_in rfl (XX_intro (g_S_thoughtTotal (call := wp d) (cut := XX none (wp d) c_S_thoughtTotal false Q) (Q := Q) (a1 := a1) (σ := σ) (h)))
theorem g_S_thoughtTotal_5 {call : Nat → List AV → Mem → (Int → Mem → Prop) → Prop} {cut : Nat → Lo → List AV → Mem → Prop} {Q : Int → Mem → Prop} {x1 : Int} {x2 : Int} {x4 : Int} {σ : Mem} (h :
  (x4 < 4 →
    (0 ≤ (w32 ((w32 (x1 * 4)) + x4)) ∧ (w32 ((w32 (x1 * 4)) + x4)) < (16 : Int)) ∧ cut 5 [some (.inr (.inr 7)), some (.inl x1), some (.inr (.inl (w64 (x2 + (σ 17 (w32 ((w32 (x1 * 4)) + x4)).toNat))))), none, some (.inl (w32 (x4 + 1)))] [] σ) ∧
  (4 ≤ x4 → Q x2 σ)) : seg none call c_S_thoughtTotal false Q cut 2000 true (toPc 5 c_S_thoughtTotal) [some (.inr (.inr 7)), some (.inl x1), some (.inr (.inl x2)), none, some (.inl x4)] [] σ := h
theorem e_S_thoughtTotal_5 {d : Nat} {Q : Int → Mem → Prop} {x1 : Int} {x2 : Int} {x4 : Int} {σ : Mem} (h :
  (x4 < 4 →
    (0 ≤ (w32 ((w32 (x1 * 4)) + x4)) ∧ (w32 ((w32 (x1 * 4)) + x4)) < (16 : Int)) ∧ K_S_thoughtTotal_5 d Q x1 (w64 (x2 + (σ 17 (w32 ((w32 (x1 * 4)) + x4)).toNat))) (w32 (x4 + 1)) σ) ∧
  (4 ≤ x4 → Q x2 σ)) : K_S_thoughtTotal_5 d Q x1 x2 x4 σ := XX_intro (g_S_thoughtTotal_5 (call := wp d) (cut := XX none (wp d) c_S_thoughtTotal false Q) (Q := Q) (x1 := x1) (x2 := x2) (x4 := x4) (σ := σ) (h))
abbrev K_S_allShares_4 (d : Nat) (Q : Int → Mem → Prop) (x1 : Int) (x3 : Int) (σ : Mem) : Prop := XX none (wp d) c_S_allShares false Q 4 [some (.inr (.inr 7)), some (.inr (.inl x1)), none, some (.inl x3)] [] σ
theorem g_S_allShares {call : Nat → List AV → Mem → (Int → Mem → Prop) → Prop} {cut : Nat → Lo → List AV → Mem → Prop} {Q : Int → Mem → Prop}  {σ : Mem} (h :
  cut 4 [some (.inr (.inr 7)), some (.inr (.inl 0)), none, some (.inl 0)] [] σ) : seg none call c_S_allShares false Q cut 2000 true (toPc 0 c_S_allShares) [some (.inr (.inr 7)), none, none, none] [] σ := h
theorem e_S_allShares {d : Nat} {Q : Int → Mem → Prop}  {σ : Mem} (h :
  K_S_allShares_4 d Q 0 0 σ) : wp (d + 1) m_S_allShares [.inr (.inr 7)] σ Q := wp_in rfl (XX_intro (g_S_allShares (call := wp d) (cut := XX none (wp d) c_S_allShares false Q) (Q := Q)  (σ := σ) (h)))
theorem g_S_allShares_4 {call : Nat → List AV → Mem → (Int → Mem → Prop) → Prop} {cut : Nat → Lo → List AV → Mem → Prop} {Q : Int → Mem → Prop} {x1 : Int} {x3 : Int} {σ : Mem} (h :
  (x3 < (σ 7 16) →
    (0 ≤ x3 ∧ x3 < (4 : Int)) ∧ cut 4 [some (.inr (.inr 7)), some (.inr (.inl (w64 (x1 + (σ 18 x3.toNat))))), none, some (.inl (w32 (x3 + 1)))] [] σ) ∧
  ((σ 7 16) ≤ x3 → Q x1 σ)) : seg none call c_S_allShares false Q cut 2000 true (toPc 4 c_S_allShares) [some (.inr (.inr 7)), some (.inr (.inl x1)), none, some (.inl x3)] [] σ := h
theorem e_S_allShares_4 {d : Nat} {Q : Int → Mem → Prop} {x1 : Int} {x3 : Int} {σ : Mem} (h :
  (x3 < (σ 7 16) →
    (0 ≤ x3 ∧ x3 < (4 : Int)) ∧ K_S_allShares_4 d Q (w64 (x1 + (σ 18 x3.toNat))) (w32 (x3 + 1)) σ) ∧
  ((σ 7 16) ≤ x3 → Q x1 σ)) : K_S_allShares_4 d Q x1 x3 σ := XX_intro (g_S_allShares_4 (call := wp d) (cut := XX none (wp d) c_S_allShares false Q) (Q := Q) (x1 := x1) (x3 := x3) (σ := σ) (h))
abbrev K_S_firstOff_2 (d : Nat) (Q : Int → Mem → Prop) (x1 : Int) (σ : Mem) : Prop := XX none (wp d) c_S_firstOff false Q 2 [some (.inr (.inr 7)), some (.inl x1)] [] σ
theorem g_S_firstOff {call : Nat → List AV → Mem → (Int → Mem → Prop) → Prop} {cut : Nat → Lo → List AV → Mem → Prop} {Q : Int → Mem → Prop}  {σ : Mem} (h :
  cut 2 [some (.inr (.inr 7)), some (.inl 0)] [] σ) : seg none call c_S_firstOff false Q cut 2000 true (toPc 0 c_S_firstOff) [some (.inr (.inr 7)), none] [] σ := h
theorem e_S_firstOff {d : Nat} {Q : Int → Mem → Prop}  {σ : Mem} (h :
  K_S_firstOff_2 d Q 0 σ) : wp (d + 1) m_S_firstOff [.inr (.inr 7)] σ Q := wp_in rfl (XX_intro (g_S_firstOff (call := wp d) (cut := XX none (wp d) c_S_firstOff false Q) (Q := Q)  (σ := σ) (h)))
theorem g_S_firstOff_2 {call : Nat → List AV → Mem → (Int → Mem → Prop) → Prop} {cut : Nat → Lo → List AV → Mem → Prop} {Q : Int → Mem → Prop} {x1 : Int} {σ : Mem} (h :
  (x1 < (σ 7 1) →
    call m_S_comesBack [.inr (.inr 7), .inl x1] σ (fun (r1 : Int) (s2 : Mem) =>
    (r1 = 0 → Q x1 s2) ∧
      (¬ r1 = 0 → cut 2 [some (.inr (.inr 7)), some (.inl (w32 (x1 + 1)))] [] s2))) ∧
  ((σ 7 1) ≤ x1 → Q (-9) σ)) : seg none call c_S_firstOff false Q cut 2000 true (toPc 2 c_S_firstOff) [some (.inr (.inr 7)), some (.inl x1)] [] σ := h
theorem e_S_firstOff_2 {d : Nat} {Q : Int → Mem → Prop} {x1 : Int} {σ : Mem} (h :
  (x1 < (σ 7 1) →
    wp d m_S_comesBack [.inr (.inr 7), .inl x1] σ (fun (r1 : Int) (s2 : Mem) =>
    (r1 = 0 → Q x1 s2) ∧
      (¬ r1 = 0 → K_S_firstOff_2 d Q (w32 (x1 + 1)) s2))) ∧
  ((σ 7 1) ≤ x1 → Q (-9) σ)) : K_S_firstOff_2 d Q x1 σ := XX_intro (g_S_firstOff_2 (call := wp d) (cut := XX none (wp d) c_S_firstOff false Q) (Q := Q) (x1 := x1) (σ := σ) (h))
abbrev K_S_comesBack_18 (d : Nat) (Q : Int → Mem → Prop) (x1 : Int) (x2 : Int) (x4 : Int) (x6 : Int) (σ : Mem) : Prop := XX none (wp d) c_S_comesBack true Q 18 [some (.inr (.inr 7)), some (.inl x1), some (.inr (.inl x2)), none, some (.inr (.inl x4)), none, some (.inl x6), none, none, none] [] σ
abbrev K_S_comesBack_67 (d : Nat) (Q : Int → Mem → Prop) (x1 : Int) (x2 : Int) (x4 : Int) (x6 : Int) (x7 : Int) (x9 : Int) (σ : Mem) : Prop := XX none (wp d) c_S_comesBack true Q 67 [some (.inr (.inr 7)), some (.inl x1), some (.inr (.inl x2)), none, some (.inr (.inl x4)), none, some (.inl x6), some (.inr (.inl x7)), none, some (.inl x9)] [] σ
theorem g_S_comesBack {call : Nat → List AV → Mem → (Int → Mem → Prop) → Prop} {cut : Nat → Lo → List AV → Mem → Prop} {Q : Int → Mem → Prop} {a1 : Int} {σ : Mem} (h :
  (0 ≤ a1 ∧ a1 < (4 : Int)) ∧ call m_S_allShares [.inr (.inr 7)] σ (fun (r1 : Int) (s2 : Mem) =>
  cut 18 [some (.inr (.inr 7)), some (.inl a1), some (.inr (.inl (w64 ((σ 9 a1.toNat) * r1)))), none, some (.inr (.inl 0)), none, some (.inl 0), none, none, none] [] s2)) : seg none call c_S_comesBack true Q cut 2000 true (toPc 0 c_S_comesBack) [some (.inr (.inr 7)), some (.inl a1), none, none, none, none, none, none, none, none] [] σ := h
theorem e_S_comesBack {d : Nat} {Q : Int → Mem → Prop} {a1 : Int} {σ : Mem} (h :
  (0 ≤ a1 ∧ a1 < (4 : Int)) ∧ wp d m_S_allShares [.inr (.inr 7)] σ (fun (r1 : Int) (s2 : Mem) => K_S_comesBack_18 d Q a1 (w64 ((σ 9 a1.toNat) * r1)) 0 0 s2)) : wp (d + 1) m_S_comesBack [.inr (.inr 7), .inl a1] σ Q := wp_in rfl (XX_intro (g_S_comesBack (call := wp d) (cut := XX none (wp d) c_S_comesBack true Q) (Q := Q) (a1 := a1) (σ := σ) (h)))
theorem g_S_comesBack_18 {call : Nat → List AV → Mem → (Int → Mem → Prop) → Prop} {cut : Nat → Lo → List AV → Mem → Prop} {Q : Int → Mem → Prop} {x1 : Int} {x2 : Int} {x4 : Int} {x6 : Int} {σ : Mem} (h :
  (x6 < (σ 7 16) →
    call m_S_thoughtTotal [.inr (.inr 7), .inl x6] σ (fun (r1 : Int) (s2 : Mem) =>
    (0 ≤ x6 ∧ x6 < (4 : Int)) ∧ (0 ≤ (w32 ((w32 (x6 * 4)) + x1)) ∧ (w32 ((w32 (x6 * 4)) + x1)) < (16 : Int)) ∧ cut 67 [some (.inr (.inr 7)), some (.inl x1), some (.inr (.inl (w64 (x2 * r1)))), none, some (.inr (.inl x4)), none, some (.inl x6), some (.inr (.inl (w64 ((w64 ((s2 7 6) * (s2 18 x6.toNat))) * (s2 17 (w32 ((w32 (x6 * 4)) + x1)).toNat))))), none, some (.inl 0)] [] s2)) ∧
  ((σ 7 16) ≤ x6 →
    (x4 = x2 → isB 1 ∧ Q 1 σ) ∧
    (¬ x4 = x2 → isB 0 ∧ Q 0 σ))) : seg none call c_S_comesBack true Q cut 2000 true (toPc 18 c_S_comesBack) [some (.inr (.inr 7)), some (.inl x1), some (.inr (.inl x2)), none, some (.inr (.inl x4)), none, some (.inl x6), none, none, none] [] σ := h
theorem e_S_comesBack_18 {d : Nat} {Q : Int → Mem → Prop} {x1 : Int} {x2 : Int} {x4 : Int} {x6 : Int} {σ : Mem} (h :
  (x6 < (σ 7 16) →
    wp d m_S_thoughtTotal [.inr (.inr 7), .inl x6] σ (fun (r1 : Int) (s2 : Mem) =>
    (0 ≤ x6 ∧ x6 < (4 : Int)) ∧ (0 ≤ (w32 ((w32 (x6 * 4)) + x1)) ∧ (w32 ((w32 (x6 * 4)) + x1)) < (16 : Int)) ∧ K_S_comesBack_67 d Q x1 (w64 (x2 * r1)) x4 x6 (w64 ((w64 ((s2 7 6) * (s2 18 x6.toNat))) * (s2 17 (w32 ((w32 (x6 * 4)) + x1)).toNat))) 0 s2)) ∧
  ((σ 7 16) ≤ x6 →
    (x4 = x2 → Q 1 σ) ∧
    (¬ x4 = x2 → Q 0 σ))) : K_S_comesBack_18 d Q x1 x2 x4 x6 σ := XX_intro (g_S_comesBack_18 (call := wp d) (cut := XX none (wp d) c_S_comesBack true Q) (Q := Q) (x1 := x1) (x2 := x2) (x4 := x4) (x6 := x6) (σ := σ) (⟨fun z2 => (h).1 z2, fun z2 => ⟨fun z1 => ⟨isB1, ((((h).2 z2)).1 z1)⟩, fun z1 => ⟨isB0, ((((h).2 z2)).2 z1)⟩⟩⟩))
theorem g_S_comesBack_67 {call : Nat → List AV → Mem → (Int → Mem → Prop) → Prop} {cut : Nat → Lo → List AV → Mem → Prop} {Q : Int → Mem → Prop} {x1 : Int} {x2 : Int} {x4 : Int} {x6 : Int} {x7 : Int} {x9 : Int} {σ : Mem} (h :
  (x9 < (σ 7 16) →
    (x9 = x6 →
      cut 67 [some (.inr (.inr 7)), some (.inl x1), some (.inr (.inl x2)), none, some (.inr (.inl x4)), none, some (.inl x6), some (.inr (.inl x7)), none, some (.inl (w32 (x9 + 1)))] [] σ) ∧
    (¬ x9 = x6 →
      call m_S_thoughtTotal [.inr (.inr 7), .inl x9] σ (fun (r1 : Int) (s2 : Mem) =>
      cut 67 [some (.inr (.inr 7)), some (.inl x1), some (.inr (.inl x2)), none, some (.inr (.inl x4)), none, some (.inl x6), some (.inr (.inl (w64 (x7 * r1)))), none, some (.inl (w32 (x9 + 1)))] [] s2))) ∧
  ((σ 7 16) ≤ x9 →
    cut 18 [some (.inr (.inr 7)), some (.inl x1), some (.inr (.inl x2)), none, some (.inr (.inl (w64 (x4 + x7)))), none, some (.inl (w32 (x6 + 1))), none, none, none] [] σ)) : seg none call c_S_comesBack true Q cut 2000 true (toPc 67 c_S_comesBack) [some (.inr (.inr 7)), some (.inl x1), some (.inr (.inl x2)), none, some (.inr (.inl x4)), none, some (.inl x6), some (.inr (.inl x7)), none, some (.inl x9)] [] σ := h
theorem e_S_comesBack_67 {d : Nat} {Q : Int → Mem → Prop} {x1 : Int} {x2 : Int} {x4 : Int} {x6 : Int} {x7 : Int} {x9 : Int} {σ : Mem} (h :
  (x9 < (σ 7 16) →
    (x9 = x6 → K_S_comesBack_67 d Q x1 x2 x4 x6 x7 (w32 (x9 + 1)) σ) ∧
    (¬ x9 = x6 →
      wp d m_S_thoughtTotal [.inr (.inr 7), .inl x9] σ (fun (r1 : Int) (s2 : Mem) =>
      K_S_comesBack_67 d Q x1 x2 x4 x6 (w64 (x7 * r1)) (w32 (x9 + 1)) s2))) ∧
  ((σ 7 16) ≤ x9 → K_S_comesBack_18 d Q x1 x2 (w64 (x4 + x7)) (w32 (x6 + 1)) σ)) : K_S_comesBack_67 d Q x1 x2 x4 x6 x7 x9 σ := XX_intro (g_S_comesBack_67 (call := wp d) (cut := XX none (wp d) c_S_comesBack true Q) (Q := Q) (x1 := x1) (x2 := x2) (x4 := x4) (x6 := x6) (x7 := x7) (x9 := x9) (σ := σ) (h))
abbrev K_Z_settle_4 (d : Nat) (Q : Int → Mem → Prop) (x1 : Int) (x2 : Int) (x3 : Int) (σ : Mem) : Prop := XX none (wp d) c_Z_settle false Q 4 [some (.inr (.inr 47)), some (.inl x1), some (.inl x2), some (.inl x3), none] [] σ
theorem g_Z_settle {call : Nat → List AV → Mem → (Int → Mem → Prop) → Prop} {cut : Nat → Lo → List AV → Mem → Prop} {Q : Int → Mem → Prop} {a1 : Int} {σ : Mem} (h :
  cut 4 [some (.inr (.inr 47)), some (.inl a1), some (.inl 0), some (.inl 0), none] [] σ) : seg none call c_Z_settle false Q cut 2000 true (toPc 0 c_Z_settle) [some (.inr (.inr 47)), some (.inl a1), none, none, none] [] σ := h
theorem e_Z_settle {d : Nat} {Q : Int → Mem → Prop} {a1 : Int} {σ : Mem} (h :
  K_Z_settle_4 d Q a1 0 0 σ) : wp (d + 1) m_Z_settle [.inr (.inr 47), .inl a1] σ Q := wp_in rfl (XX_intro (g_Z_settle (call := wp d) (cut := XX none (wp d) c_Z_settle false Q) (Q := Q) (a1 := a1) (σ := σ) (h)))
theorem g_Z_settle_4 {call : Nat → List AV → Mem → (Int → Mem → Prop) → Prop} {cut : Nat → Lo → List AV → Mem → Prop} {Q : Int → Mem → Prop} {x1 : Int} {x2 : Int} {x3 : Int} {σ : Mem} (h :
  (6 < x3 → Q x2 σ) ∧
  (x3 ≤ 6 →
    call m_Z_silentBits [.inr (.inr 47), .inl x1, .inl x2] σ (fun (r1 : Int) (s2 : Mem) =>
    call m_Z_shownNow [.inr (.inr 47), .inl x1, .inl r1] s2 (fun (r3 : Int) (s4 : Mem) =>
      (r3 = 0 → Q x2 s4) ∧
        (¬ r3 = 0 →
          cut 4 [some (.inr (.inr 47)), some (.inl x1), some (.inl (orI x2 r3)), some (.inl (w32 (x3 + 1))), none] [] s4))))) : seg none call c_Z_settle false Q cut 2000 true (toPc 4 c_Z_settle) [some (.inr (.inr 47)), some (.inl x1), some (.inl x2), some (.inl x3), none] [] σ := h
theorem e_Z_settle_4 {d : Nat} {Q : Int → Mem → Prop} {x1 : Int} {x2 : Int} {x3 : Int} {σ : Mem} (h :
  (6 < x3 → Q x2 σ) ∧
  (x3 ≤ 6 →
    wp d m_Z_silentBits [.inr (.inr 47), .inl x1, .inl x2] σ (fun (r1 : Int) (s2 : Mem) =>
    wp d m_Z_shownNow [.inr (.inr 47), .inl x1, .inl r1] s2 (fun (r3 : Int) (s4 : Mem) =>
      (r3 = 0 → Q x2 s4) ∧
        (¬ r3 = 0 → K_Z_settle_4 d Q x1 (orI x2 r3) (w32 (x3 + 1)) s4))))) : K_Z_settle_4 d Q x1 x2 x3 σ := XX_intro (g_Z_settle_4 (call := wp d) (cut := XX none (wp d) c_Z_settle false Q) (Q := Q) (x1 := x1) (x2 := x2) (x3 := x3) (σ := σ) (h))
abbrev K_Z_silentBits_5 (d : Nat) (Q : Int → Mem → Prop) (x1 : Int) (x2 : Int) (x3 : Int) (x4 : Int) (σ : Mem) : Prop := XX none (wp d) c_Z_silentBits false Q 5 [some (.inr (.inr 47)), some (.inl x1), some (.inl x2), some (.inl x3), some (.inl x4)] [] σ
theorem g_Z_silentBits {call : Nat → List AV → Mem → (Int → Mem → Prop) → Prop} {cut : Nat → Lo → List AV → Mem → Prop} {Q : Int → Mem → Prop} {a1 : Int} {a2 : Int} {σ : Mem} (h :
  cut 5 [some (.inr (.inr 47)), some (.inl a1), some (.inl a2), some (.inl 0), some (.inl 0)] [] σ) : seg none call c_Z_silentBits false Q cut 2000 true (toPc 0 c_Z_silentBits) [some (.inr (.inr 47)), some (.inl a1), some (.inl a2), none, none] [] σ := h
theorem e_Z_silentBits {d : Nat} {Q : Int → Mem → Prop} {a1 : Int} {a2 : Int} {σ : Mem} (h :
  K_Z_silentBits_5 d Q a1 a2 0 0 σ) : wp (d + 1) m_Z_silentBits [.inr (.inr 47), .inl a1, .inl a2] σ Q := wp_in rfl (XX_intro (g_Z_silentBits (call := wp d) (cut := XX none (wp d) c_Z_silentBits false Q) (Q := Q) (a1 := a1) (a2 := a2) (σ := σ) (h)))
theorem g_Z_silentBits_5 {call : Nat → List AV → Mem → (Int → Mem → Prop) → Prop} {cut : Nat → Lo → List AV → Mem → Prop} {Q : Int → Mem → Prop} {x1 : Int} {x2 : Int} {x3 : Int} {x4 : Int} {σ : Mem} (h :
  (0 ≤ x1 ∧ x1 < (12 : Int)) ∧ (x4 < (σ 13 x1.toNat) →
    ((andI (shrI x2 x4) 1) = 0 →
      call m_B_seeOne [.inr (.inr 35), .inl x1, .inl x4] σ (fun (r1 : Int) (s2 : Mem) =>
      (r1 = 0 →
          cut 5 [some (.inr (.inr 47)), some (.inl x1), some (.inl x2), some (.inl x3), some (.inl (w32 (x4 + 1)))] [] s2) ∧
        (¬ r1 = 0 →
          cut 5 [some (.inr (.inr 47)), some (.inl x1), some (.inl x2), some (.inl (orI x3 (shlI 1 x4))), some (.inl (w32 (x4 + 1)))] [] s2))) ∧
    (¬ (andI (shrI x2 x4) 1) = 0 →
      cut 5 [some (.inr (.inr 47)), some (.inl x1), some (.inl x2), some (.inl x3), some (.inl (w32 (x4 + 1)))] [] σ)) ∧
  ((σ 13 x1.toNat) ≤ x4 → Q x3 σ)) : seg none call c_Z_silentBits false Q cut 2000 true (toPc 5 c_Z_silentBits) [some (.inr (.inr 47)), some (.inl x1), some (.inl x2), some (.inl x3), some (.inl x4)] [] σ := h
theorem e_Z_silentBits_5 {d : Nat} {Q : Int → Mem → Prop} {x1 : Int} {x2 : Int} {x3 : Int} {x4 : Int} {σ : Mem} (h :
  (0 ≤ x1 ∧ x1 < (12 : Int)) ∧ (x4 < (σ 13 x1.toNat) →
    ((andI (shrI x2 x4) 1) = 0 →
      wp d m_B_seeOne [.inr (.inr 35), .inl x1, .inl x4] σ (fun (r1 : Int) (s2 : Mem) =>
      (r1 = 0 → K_Z_silentBits_5 d Q x1 x2 x3 (w32 (x4 + 1)) s2) ∧
        (¬ r1 = 0 → K_Z_silentBits_5 d Q x1 x2 (orI x3 (shlI 1 x4)) (w32 (x4 + 1)) s2))) ∧
    (¬ (andI (shrI x2 x4) 1) = 0 → K_Z_silentBits_5 d Q x1 x2 x3 (w32 (x4 + 1)) σ)) ∧
  ((σ 13 x1.toNat) ≤ x4 → Q x3 σ)) : K_Z_silentBits_5 d Q x1 x2 x3 x4 σ := XX_intro (g_Z_silentBits_5 (call := wp d) (cut := XX none (wp d) c_Z_silentBits false Q) (Q := Q) (x1 := x1) (x2 := x2) (x3 := x3) (x4 := x4) (σ := σ) (h))
abbrev K_Z_shownNow_35 (d : Nat) (Q : Int → Mem → Prop) (x1 : Int) (x2 : Int) (x3 : Int) (x5 : Int) (x7 : Int) (x8 : Int) (σ : Mem) : Prop := XX none (wp d) c_Z_shownNow false Q 35 [some (.inr (.inr 47)), some (.inl x1), some (.inl x2), some (.inr (.inl x3)), none, some (.inr (.inl x5)), none, some (.inl x7), some (.inl x8)] [] σ
theorem g_Z_shownNow {call : Nat → List AV → Mem → (Int → Mem → Prop) → Prop} {cut : Nat → Lo → List AV → Mem → Prop} {Q : Int → Mem → Prop} {a1 : Int} {a2 : Int} {σ : Mem} (h :
  call m_B_seeMany [.inr (.inr 35), .inl a1, .inl a2] σ (fun (r1 : Int) (s2 : Mem) =>
  (r1 = 0 → Q 0 s2) ∧
    (¬ r1 = 0 →
      call m_Z_expected [.inr (.inr 47)] s2 (fun (r3 : Int) (s4 : Mem) =>
      call m_B_mass [.inr (.inr 35), .inl 1] s4 (fun (r5 : Int) (s6 : Mem) =>
        cut 35 [some (.inr (.inr 47)), some (.inl a1), some (.inl a2), some (.inr (.inl r3)), none, some (.inr (.inl r5)), none, some (.inl 0), some (.inl 0)] [] s6))))) : seg none call c_Z_shownNow false Q cut 2000 true (toPc 0 c_Z_shownNow) [some (.inr (.inr 47)), some (.inl a1), some (.inl a2), none, none, none, none, none, none] [] σ := h
theorem e_Z_shownNow {d : Nat} {Q : Int → Mem → Prop} {a1 : Int} {a2 : Int} {σ : Mem} (h :
  wp d m_B_seeMany [.inr (.inr 35), .inl a1, .inl a2] σ (fun (r1 : Int) (s2 : Mem) =>
  (r1 = 0 → Q 0 s2) ∧
    (¬ r1 = 0 →
      wp d m_Z_expected [.inr (.inr 47)] s2 (fun (r3 : Int) (s4 : Mem) =>
      wp d m_B_mass [.inr (.inr 35), .inl 1] s4 (fun (r5 : Int) (s6 : Mem) => K_Z_shownNow_35 d Q a1 a2 r3 r5 0 0 s6))))) : wp (d + 1) m_Z_shownNow [.inr (.inr 47), .inl a1, .inl a2] σ Q := wp_in rfl (XX_intro (g_Z_shownNow (call := wp d) (cut := XX none (wp d) c_Z_shownNow false Q) (Q := Q) (a1 := a1) (a2 := a2) (σ := σ) (h)))
theorem g_Z_shownNow_35 {call : Nat → List AV → Mem → (Int → Mem → Prop) → Prop} {cut : Nat → Lo → List AV → Mem → Prop} {Q : Int → Mem → Prop} {x1 : Int} {x2 : Int} {x3 : Int} {x5 : Int} {x7 : Int} {x8 : Int} {σ : Mem} (h :
  (0 ≤ x1 ∧ x1 < (12 : Int)) ∧ (x8 < (σ 13 x1.toNat) →
    ((andI (shrI x2 x8) 1) = 0 →
      cut 35 [some (.inr (.inr 47)), some (.inl x1), some (.inl x2), some (.inr (.inl x3)), none, some (.inr (.inl x5)), none, some (.inl x7), some (.inl (w32 (x8 + 1)))] [] σ) ∧
    (¬ (andI (shrI x2 x8) 1) = 0 →
      call m_B_seeOne [.inr (.inr 35), .inl x1, .inl x8] σ (fun (r1 : Int) (s2 : Mem) =>
      (r1 = 0 →
          cut 35 [some (.inr (.inr 47)), some (.inl x1), some (.inl x2), some (.inr (.inl x3)), none, some (.inr (.inl x5)), none, some (.inl x7), some (.inl (w32 (x8 + 1)))] [] s2) ∧
        (¬ r1 = 0 →
          call m_Z_expected [.inr (.inr 47)] s2 (fun (r3 : Int) (s4 : Mem) =>
          call m_B_mass [.inr (.inr 35), .inl 1] s4 (fun (r5 : Int) (s6 : Mem) =>
            ((w64 (x3 * r5)) < (w64 (r3 * x5)) →
                cut 35 [some (.inr (.inr 47)), some (.inl x1), some (.inl x2), some (.inr (.inl x3)), none, some (.inr (.inl x5)), none, some (.inl (orI x7 (shlI 1 x8))), some (.inl (w32 (x8 + 1)))] [] s6) ∧
              ((w64 (r3 * x5)) ≤ (w64 (x3 * r5)) →
                cut 35 [some (.inr (.inr 47)), some (.inl x1), some (.inl x2), some (.inr (.inl x3)), none, some (.inr (.inl x5)), none, some (.inl x7), some (.inl (w32 (x8 + 1)))] [] s6))))))) ∧
  ((σ 13 x1.toNat) ≤ x8 → Q x7 σ)) : seg none call c_Z_shownNow false Q cut 2000 true (toPc 35 c_Z_shownNow) [some (.inr (.inr 47)), some (.inl x1), some (.inl x2), some (.inr (.inl x3)), none, some (.inr (.inl x5)), none, some (.inl x7), some (.inl x8)] [] σ := h
theorem e_Z_shownNow_35 {d : Nat} {Q : Int → Mem → Prop} {x1 : Int} {x2 : Int} {x3 : Int} {x5 : Int} {x7 : Int} {x8 : Int} {σ : Mem} (h :
  (0 ≤ x1 ∧ x1 < (12 : Int)) ∧ (x8 < (σ 13 x1.toNat) →
    ((andI (shrI x2 x8) 1) = 0 → K_Z_shownNow_35 d Q x1 x2 x3 x5 x7 (w32 (x8 + 1)) σ) ∧
    (¬ (andI (shrI x2 x8) 1) = 0 →
      wp d m_B_seeOne [.inr (.inr 35), .inl x1, .inl x8] σ (fun (r1 : Int) (s2 : Mem) =>
      (r1 = 0 → K_Z_shownNow_35 d Q x1 x2 x3 x5 x7 (w32 (x8 + 1)) s2) ∧
        (¬ r1 = 0 →
          wp d m_Z_expected [.inr (.inr 47)] s2 (fun (r3 : Int) (s4 : Mem) =>
          wp d m_B_mass [.inr (.inr 35), .inl 1] s4 (fun (r5 : Int) (s6 : Mem) =>
            ((w64 (x3 * r5)) < (w64 (r3 * x5)) → K_Z_shownNow_35 d Q x1 x2 x3 x5 (orI x7 (shlI 1 x8)) (w32 (x8 + 1)) s6) ∧
              ((w64 (r3 * x5)) ≤ (w64 (x3 * r5)) → K_Z_shownNow_35 d Q x1 x2 x3 x5 x7 (w32 (x8 + 1)) s6))))))) ∧
  ((σ 13 x1.toNat) ≤ x8 → Q x7 σ)) : K_Z_shownNow_35 d Q x1 x2 x3 x5 x7 x8 σ := XX_intro (g_Z_shownNow_35 (call := wp d) (cut := XX none (wp d) c_Z_shownNow false Q) (Q := Q) (x1 := x1) (x2 := x2) (x3 := x3) (x5 := x5) (x7 := x7) (x8 := x8) (σ := σ) (h))
theorem g_Z_expected {call : Nat → List AV → Mem → (Int → Mem → Prop) → Prop} {cut : Nat → Lo → List AV → Mem → Prop} {Q : Int → Mem → Prop}  {σ : Mem} (h :
  call m_B_outcome [.inr (.inr 35), .inl 1, .inr (.inr 10), .inr (.inr 11)] σ (fun (r1 : Int) (s2 : Mem) => Q r1 s2)) : seg none call c_Z_expected false Q cut 2000 true (toPc 0 c_Z_expected) [some (.inr (.inr 47))] [] σ := h
theorem e_Z_expected {d : Nat} {Q : Int → Mem → Prop}  {σ : Mem} (h :
  wp d m_B_outcome [.inr (.inr 35), .inl 1, .inr (.inr 10), .inr (.inr 11)] σ (fun (r1 : Int) (s2 : Mem) => Q r1 s2)) : wp (d + 1) m_Z_expected [.inr (.inr 47)] σ Q := wp_in rfl (XX_intro (g_Z_expected (call := wp d) (cut := XX none (wp d) c_Z_expected false Q) (Q := Q)  (σ := σ) (h)))
abbrev K_Z_lostByJudge_13 (d : Nat) (Q : Int → Mem → Prop) (x1 : Int) (x3 : Int) (x4 : Int) (x6 : Int) (σ : Mem) : Prop := XX none (wp d) c_Z_lostByJudge false Q 13 [some (.inr (.inr 47)), some (.inl x1), none, some (.inl x3), some (.inr (.inl x4)), none, some (.inl x6)] [] σ
theorem g_Z_lostByJudge {call : Nat → List AV → Mem → (Int → Mem → Prop) → Prop} {cut : Nat → Lo → List AV → Mem → Prop} {Q : Int → Mem → Prop} {a1 : Int} {a2 : Int} {σ : Mem} (h :
  call m_Z_silentBits [.inr (.inr 47), .inl a1, .inl a2] σ (fun (r1 : Int) (s2 : Mem) =>
  cut 13 [some (.inr (.inr 47)), some (.inl a1), none, some (.inl r1), some (.inr (.inl 0)), none, some (.inl 0)] [] s2)) : seg none call c_Z_lostByJudge false Q cut 2000 true (toPc 0 c_Z_lostByJudge) [some (.inr (.inr 47)), some (.inl a1), some (.inl a2), none, none, none, none] [] σ := h
theorem e_Z_lostByJudge {d : Nat} {Q : Int → Mem → Prop} {a1 : Int} {a2 : Int} {σ : Mem} (h :
  wp d m_Z_silentBits [.inr (.inr 47), .inl a1, .inl a2] σ (fun (r1 : Int) (s2 : Mem) => K_Z_lostByJudge_13 d Q a1 r1 0 0 s2)) : wp (d + 1) m_Z_lostByJudge [.inr (.inr 47), .inl a1, .inl a2] σ Q := wp_in rfl (XX_intro (g_Z_lostByJudge (call := wp d) (cut := XX none (wp d) c_Z_lostByJudge false Q) (Q := Q) (a1 := a1) (a2 := a2) (σ := σ) (h)))
theorem g_Z_lostByJudge_13 {call : Nat → List AV → Mem → (Int → Mem → Prop) → Prop} {cut : Nat → Lo → List AV → Mem → Prop} {Q : Int → Mem → Prop} {x1 : Int} {x3 : Int} {x4 : Int} {x6 : Int} {σ : Mem} (h :
  (0 ≤ x1 ∧ x1 < (12 : Int)) ∧ (x6 < (σ 13 x1.toNat) →
    ((andI (shrI x3 x6) 1) = 0 →
      cut 13 [some (.inr (.inr 47)), some (.inl x1), none, some (.inl x3), some (.inr (.inl x4)), none, some (.inl (w32 (x6 + 1)))] [] σ) ∧
    (¬ (andI (shrI x3 x6) 1) = 0 →
      call m_B_seeOne [.inr (.inr 35), .inl x1, .inl x6] σ (fun (r5 : Int) (s6 : Mem) =>
      (r5 = 0 →
          cut 13 [some (.inr (.inr 47)), some (.inl x1), none, some (.inl x3), some (.inr (.inl x4)), none, some (.inl (w32 (x6 + 1)))] [] s6) ∧
        (¬ r5 = 0 →
          call m_B_outcome [.inr (.inr 35), .inl 1, .inr (.inr 10), .inr (.inr 10)] s6 (fun (r7 : Int) (s8 : Mem) =>
          cut 13 [some (.inr (.inr 47)), some (.inl x1), none, some (.inl x3), some (.inr (.inl (w64 (x4 + r7)))), none, some (.inl (w32 (x6 + 1)))] [] s8))))) ∧
  ((σ 13 x1.toNat) ≤ x6 →
    call m_B_seeMany [.inr (.inr 35), .inl x1, .inl x3] σ (fun (r1 : Int) (s2 : Mem) =>
    (r1 = 0 → Q 0 s2) ∧
      (¬ r1 = 0 →
        call m_B_outcome [.inr (.inr 35), .inl 1, .inr (.inr 10), .inr (.inr 10)] s2 (fun (r3 : Int) (s4 : Mem) => Q (w64 (x4 - r3)) s4))))) : seg none call c_Z_lostByJudge false Q cut 2000 true (toPc 13 c_Z_lostByJudge) [some (.inr (.inr 47)), some (.inl x1), none, some (.inl x3), some (.inr (.inl x4)), none, some (.inl x6)] [] σ := h
theorem e_Z_lostByJudge_13 {d : Nat} {Q : Int → Mem → Prop} {x1 : Int} {x3 : Int} {x4 : Int} {x6 : Int} {σ : Mem} (h :
  (0 ≤ x1 ∧ x1 < (12 : Int)) ∧ (x6 < (σ 13 x1.toNat) →
    ((andI (shrI x3 x6) 1) = 0 → K_Z_lostByJudge_13 d Q x1 x3 x4 (w32 (x6 + 1)) σ) ∧
    (¬ (andI (shrI x3 x6) 1) = 0 →
      wp d m_B_seeOne [.inr (.inr 35), .inl x1, .inl x6] σ (fun (r5 : Int) (s6 : Mem) =>
      (r5 = 0 → K_Z_lostByJudge_13 d Q x1 x3 x4 (w32 (x6 + 1)) s6) ∧
        (¬ r5 = 0 →
          wp d m_B_outcome [.inr (.inr 35), .inl 1, .inr (.inr 10), .inr (.inr 10)] s6 (fun (r7 : Int) (s8 : Mem) =>
          K_Z_lostByJudge_13 d Q x1 x3 (w64 (x4 + r7)) (w32 (x6 + 1)) s8))))) ∧
  ((σ 13 x1.toNat) ≤ x6 →
    wp d m_B_seeMany [.inr (.inr 35), .inl x1, .inl x3] σ (fun (r1 : Int) (s2 : Mem) =>
    (r1 = 0 → Q 0 s2) ∧
      (¬ r1 = 0 →
        wp d m_B_outcome [.inr (.inr 35), .inl 1, .inr (.inr 10), .inr (.inr 10)] s2 (fun (r3 : Int) (s4 : Mem) => Q (w64 (x4 - r3)) s4))))) : K_Z_lostByJudge_13 d Q x1 x3 x4 x6 σ := XX_intro (g_Z_lostByJudge_13 (call := wp d) (cut := XX none (wp d) c_Z_lostByJudge false Q) (Q := Q) (x1 := x1) (x3 := x3) (x4 := x4) (x6 := x6) (σ := σ) (h))
abbrev K_T_append_3 (d : Nat) (Q : Int → Mem → Prop) (x1 : Int) (x2 : Int) (x4 : Int) (σ : Mem) : Prop := XX none (wp d) c_T_append false Q 3 [some (.inr (.inr 1)), some (.inl x1), some (.inr (.inl x2)), none, some (.inl x4)] [] σ
theorem g_T_append {call : Nat → List AV → Mem → (Int → Mem → Prop) → Prop} {cut : Nat → Lo → List AV → Mem → Prop} {Q : Int → Mem → Prop} {a1 : Int} {a2 : Int} {σ : Mem} (h :
  cut 3 [some (.inr (.inr 1)), some (.inl a1), some (.inr (.inl a2)), none, some (.inl 0)] [] σ) : seg none call c_T_append false Q cut 2000 true (toPc 0 c_T_append) [some (.inr (.inr 1)), some (.inl a1), some (.inr (.inl a2)), none, none] [] σ := h
theorem e_T_append {d : Nat} {Q : Int → Mem → Prop} {a1 : Int} {a2 : Int} {σ : Mem} (h :
  K_T_append_3 d Q a1 a2 0 σ) : wp (d + 1) m_T_append [.inr (.inr 1), .inl a1, .inr (.inl a2)] σ Q := wp_in rfl (XX_intro (g_T_append (call := wp d) (cut := XX none (wp d) c_T_append false Q) (Q := Q) (a1 := a1) (a2 := a2) (σ := σ) (h)))
theorem g_T_append_3 {call : Nat → List AV → Mem → (Int → Mem → Prop) → Prop} {cut : Nat → Lo → List AV → Mem → Prop} {Q : Int → Mem → Prop} {x1 : Int} {x2 : Int} {x4 : Int} {σ : Mem} (h :
  (x4 < x1 →
    ((σ 1 1) < 90 →
      (0 ≤ (σ 1 1) ∧ (σ 1 1) < (90 : Int)) ∧ cut 3 [some (.inr (.inr 1)), some (.inl x1), some (.inr (.inl x2)), none, some (.inl (w32 (x4 + 1)))] [] (mset (mset σ 2 (σ 1 1).toNat (w32 (andL (shrL x2 (w32 (8 * x4))) 255))) 1 1 (w32 (((mset σ 2 (σ 1 1).toNat (w32 (andL (shrL x2 (w32 (8 * x4))) 255))) 1 1) + 1)))) ∧
    (90 ≤ (σ 1 1) → Q 0 σ)) ∧
  (x1 ≤ x4 → Q 0 σ)) : seg none call c_T_append false Q cut 2000 true (toPc 3 c_T_append) [some (.inr (.inr 1)), some (.inl x1), some (.inr (.inl x2)), none, some (.inl x4)] [] σ := h
theorem e_T_append_3 {d : Nat} {Q : Int → Mem → Prop} {x1 : Int} {x2 : Int} {x4 : Int} {σ : Mem} (h :
  (x4 < x1 →
    ((σ 1 1) < 90 →
      (0 ≤ (σ 1 1) ∧ (σ 1 1) < (90 : Int)) ∧ K_T_append_3 d Q x1 x2 (w32 (x4 + 1)) (mset (mset σ 2 (σ 1 1).toNat (w32 (andL (shrL x2 (w32 (8 * x4))) 255))) 1 1 (w32 (((mset σ 2 (σ 1 1).toNat (w32 (andL (shrL x2 (w32 (8 * x4))) 255))) 1 1) + 1)))) ∧
    (90 ≤ (σ 1 1) → Q 0 σ)) ∧
  (x1 ≤ x4 → Q 0 σ)) : K_T_append_3 d Q x1 x2 x4 σ := XX_intro (g_T_append_3 (call := wp d) (cut := XX none (wp d) c_T_append false Q) (Q := Q) (x1 := x1) (x2 := x2) (x4 := x4) (σ := σ) (h))
theorem g_T_parse {call : Nat → List AV → Mem → (Int → Mem → Prop) → Prop} {cut : Nat → Lo → List AV → Mem → Prop} {Q : Int → Mem → Prop}  {σ : Mem} (h :
  call m_T_parseTruths [.inr (.inr 1)] (mset (mset (mset σ 1 2 0) 1 4 0) 1 5 0) (fun (r1 : Int) (s2 : Mem) =>
  (r1 = 0 →
      ((0 : Int) = 0 → Q ((mset s2 1 1 0) 1 2) (mset s2 1 1 0)) ∧
      (¬ (0 : Int) = 0 → Q (-1) (mset s2 1 1 0))) ∧
    (¬ r1 = 0 →
      call m_T_parseActs [.inr (.inr 1)] s2 (fun (r3 : Int) (s4 : Mem) =>
      (r3 = 0 →
          ((0 : Int) = 0 → Q ((mset s4 1 1 0) 1 2) (mset s4 1 1 0)) ∧
          (¬ (0 : Int) = 0 → Q (-1) (mset s4 1 1 0))) ∧
        (¬ r3 = 0 →
          ((1 : Int) = 0 → Q ((mset s4 1 1 0) 1 2) (mset s4 1 1 0)) ∧
          (¬ (1 : Int) = 0 → Q (-1) (mset s4 1 1 0))))))) : seg none call c_T_parse false Q cut 2000 true (toPc 0 c_T_parse) [some (.inr (.inr 1)), none] [] σ := h
theorem e_T_parse {d : Nat} {Q : Int → Mem → Prop}  {σ : Mem} (h :
  wp d m_T_parseTruths [.inr (.inr 1)] (mset (mset (mset σ 1 2 0) 1 4 0) 1 5 0) (fun (r1 : Int) (s2 : Mem) =>
  (r1 = 0 → Q ((mset s2 1 1 0) 1 2) (mset s2 1 1 0)) ∧
    (¬ r1 = 0 →
      wp d m_T_parseActs [.inr (.inr 1)] s2 (fun (r3 : Int) (s4 : Mem) =>
      (r3 = 0 → Q ((mset s4 1 1 0) 1 2) (mset s4 1 1 0)) ∧
        (¬ r3 = 0 → Q (-1) (mset s4 1 1 0)))))) : wp (d + 1) m_T_parse [.inr (.inr 1)] σ Q := wp_in rfl (XX_intro (g_T_parse (call := wp d) (cut := XX none (wp d) c_T_parse false Q) (Q := Q)  (σ := σ) (wp_conseq (fun _ _ z7 => ⟨fun z6 => ⟨fun _ => ((z7).1 z6), fun z1 => absurd z1 (by decide)⟩, fun z6 => wp_conseq (fun _ _ z5 => ⟨fun z4 => ⟨fun _ => ((z5).1 z4), fun z2 => absurd z2 (by decide)⟩, fun z4 => ⟨fun z3 => absurd z3 (by decide), fun _ => ((z5).2 z4)⟩⟩) (((z7).2 z6))⟩) (h))))
abbrev K_T_parseTruths_2 (d : Nat) (Q : Int → Mem → Prop) (x1 : Int) (σ : Mem) : Prop := XX none (wp d) c_T_parseTruths true Q 2 [some (.inr (.inr 1)), some (.inl x1)] [] σ
theorem g_T_parseTruths {call : Nat → List AV → Mem → (Int → Mem → Prop) → Prop} {cut : Nat → Lo → List AV → Mem → Prop} {Q : Int → Mem → Prop}  {σ : Mem} (h :
  cut 2 [some (.inr (.inr 1)), some (.inl 0)] [] σ) : seg none call c_T_parseTruths true Q cut 2000 true (toPc 0 c_T_parseTruths) [some (.inr (.inr 1)), none] [] σ := h
theorem e_T_parseTruths {d : Nat} {Q : Int → Mem → Prop}  {σ : Mem} (h :
  K_T_parseTruths_2 d Q 0 σ) : wp (d + 1) m_T_parseTruths [.inr (.inr 1)] σ Q := wp_in rfl (XX_intro (g_T_parseTruths (call := wp d) (cut := XX none (wp d) c_T_parseTruths true Q) (Q := Q)  (σ := σ) (h)))
theorem g_T_parseTruths_2 {call : Nat → List AV → Mem → (Int → Mem → Prop) → Prop} {cut : Nat → Lo → List AV → Mem → Prop} {Q : Int → Mem → Prop} {x1 : Int} {σ : Mem} (h :
  (x1 < 4 →
    (x1 = 0 →
      call m_T_skip [.inr (.inr 1), .inl 116] σ (fun (r1 : Int) (s2 : Mem) =>
      (r1 = 0 → isB 0 ∧ Q 0 s2) ∧
        (¬ r1 = 0 →
          call m_T_parseDigits [.inr (.inr 1), .inl 1] s2 (fun (r3 : Int) (s4 : Mem) =>
          (r3 = 0 → isB 0 ∧ Q 0 s4) ∧
            (¬ r3 = 0 →
              call m_T_skip [.inr (.inr 1), .inl 59] s4 (fun (r5 : Int) (s6 : Mem) =>
              (r5 = 0 → isB 0 ∧ Q 0 s6) ∧
                (¬ r5 = 0 →
                  (0 ≤ x1 ∧ x1 < (4 : Int)) ∧ cut 2 [some (.inr (.inr 1)), some (.inl (w32 (x1 + 1)))] [] (mset (mset s6 3 x1.toNat (s6 1 3)) 1 4 (w32 (x1 + 1)))))))))) ∧
    (¬ x1 = 0 →
      call m_T_peek [.inr (.inr 1)] σ (fun (r7 : Int) (s8 : Mem) =>
      (r7 = 116 →
          call m_T_skip [.inr (.inr 1), .inl 116] s8 (fun (r9 : Int) (s10 : Mem) =>
          (r9 = 0 → isB 0 ∧ Q 0 s10) ∧
            (¬ r9 = 0 →
              call m_T_parseDigits [.inr (.inr 1), .inl 1] s10 (fun (r11 : Int) (s12 : Mem) =>
              (r11 = 0 → isB 0 ∧ Q 0 s12) ∧
                (¬ r11 = 0 →
                  call m_T_skip [.inr (.inr 1), .inl 59] s12 (fun (r13 : Int) (s14 : Mem) =>
                  (r13 = 0 → isB 0 ∧ Q 0 s14) ∧
                    (¬ r13 = 0 →
                      (0 ≤ x1 ∧ x1 < (4 : Int)) ∧ cut 2 [some (.inr (.inr 1)), some (.inl (w32 (x1 + 1)))] [] (mset (mset s14 3 x1.toNat (s14 1 3)) 1 4 (w32 (x1 + 1)))))))))) ∧
        (¬ r7 = 116 → isB 1 ∧ Q 1 s8)))) ∧
  (4 ≤ x1 → isB 1 ∧ Q 1 σ)) : seg none call c_T_parseTruths true Q cut 2000 true (toPc 2 c_T_parseTruths) [some (.inr (.inr 1)), some (.inl x1)] [] σ := h
theorem e_T_parseTruths_2 {d : Nat} {Q : Int → Mem → Prop} {x1 : Int} {σ : Mem} (h :
  (x1 < 4 →
    (x1 = 0 →
      wp d m_T_skip [.inr (.inr 1), .inl 116] σ (fun (r1 : Int) (s2 : Mem) =>
      (r1 = 0 → Q 0 s2) ∧
        (¬ r1 = 0 →
          wp d m_T_parseDigits [.inr (.inr 1), .inl 1] s2 (fun (r3 : Int) (s4 : Mem) =>
          (r3 = 0 → Q 0 s4) ∧
            (¬ r3 = 0 →
              wp d m_T_skip [.inr (.inr 1), .inl 59] s4 (fun (r5 : Int) (s6 : Mem) =>
              (r5 = 0 → Q 0 s6) ∧
                (¬ r5 = 0 →
                  (0 ≤ x1 ∧ x1 < (4 : Int)) ∧ K_T_parseTruths_2 d Q (w32 (x1 + 1)) (mset (mset s6 3 x1.toNat (s6 1 3)) 1 4 (w32 (x1 + 1)))))))))) ∧
    (¬ x1 = 0 →
      wp d m_T_peek [.inr (.inr 1)] σ (fun (r7 : Int) (s8 : Mem) =>
      (r7 = 116 →
          wp d m_T_skip [.inr (.inr 1), .inl 116] s8 (fun (r9 : Int) (s10 : Mem) =>
          (r9 = 0 → Q 0 s10) ∧
            (¬ r9 = 0 →
              wp d m_T_parseDigits [.inr (.inr 1), .inl 1] s10 (fun (r11 : Int) (s12 : Mem) =>
              (r11 = 0 → Q 0 s12) ∧
                (¬ r11 = 0 →
                  wp d m_T_skip [.inr (.inr 1), .inl 59] s12 (fun (r13 : Int) (s14 : Mem) =>
                  (r13 = 0 → Q 0 s14) ∧
                    (¬ r13 = 0 →
                      (0 ≤ x1 ∧ x1 < (4 : Int)) ∧ K_T_parseTruths_2 d Q (w32 (x1 + 1)) (mset (mset s14 3 x1.toNat (s14 1 3)) 1 4 (w32 (x1 + 1)))))))))) ∧
        (¬ r7 = 116 → Q 1 s8)))) ∧
  (4 ≤ x1 → Q 1 σ)) : K_T_parseTruths_2 d Q x1 σ := XX_intro (g_T_parseTruths_2 (call := wp d) (cut := XX none (wp d) c_T_parseTruths true Q) (Q := Q) (x1 := x1) (σ := σ) (⟨fun z16 => ⟨fun z15 => wp_conseq (fun _ _ z6 => ⟨fun z5 => ⟨isB0, ((z6).1 z5)⟩, fun z5 => wp_conseq (fun _ _ z4 => ⟨fun z3 => ⟨isB0, ((z4).1 z3)⟩, fun z3 => wp_conseq (fun _ _ z2 => ⟨fun z1 => ⟨isB0, ((z2).1 z1)⟩, fun z1 => (z2).2 z1⟩) (((z4).2 z3))⟩) (((z6).2 z5))⟩) (((((h).1 z16)).1 z15)), fun z15 => wp_conseq (fun _ _ z14 => ⟨fun z13 => wp_conseq (fun _ _ z12 => ⟨fun z11 => ⟨isB0, ((z12).1 z11)⟩, fun z11 => wp_conseq (fun _ _ z10 => ⟨fun z9 => ⟨isB0, ((z10).1 z9)⟩, fun z9 => wp_conseq (fun _ _ z8 => ⟨fun z7 => ⟨isB0, ((z8).1 z7)⟩, fun z7 => (z8).2 z7⟩) (((z10).2 z9))⟩) (((z12).2 z11))⟩) (((z14).1 z13)), fun z13 => ⟨isB1, ((z14).2 z13)⟩⟩) (((((h).1 z16)).2 z15))⟩, fun z16 => ⟨isB1, ((h).2 z16)⟩⟩))
abbrev K_T_parseActs_2 (d : Nat) (Q : Int → Mem → Prop) (x1 : Int) (σ : Mem) : Prop := XX none (wp d) c_T_parseActs true Q 2 [some (.inr (.inr 1)), some (.inl x1)] [] σ
theorem g_T_parseActs {call : Nat → List AV → Mem → (Int → Mem → Prop) → Prop} {cut : Nat → Lo → List AV → Mem → Prop} {Q : Int → Mem → Prop}  {σ : Mem} (h :
  cut 2 [some (.inr (.inr 1)), some (.inl 0)] [] σ) : seg none call c_T_parseActs true Q cut 2000 true (toPc 0 c_T_parseActs) [some (.inr (.inr 1)), none] [] σ := h
theorem e_T_parseActs {d : Nat} {Q : Int → Mem → Prop}  {σ : Mem} (h :
  K_T_parseActs_2 d Q 0 σ) : wp (d + 1) m_T_parseActs [.inr (.inr 1)] σ Q := wp_in rfl (XX_intro (g_T_parseActs (call := wp d) (cut := XX none (wp d) c_T_parseActs true Q) (Q := Q)  (σ := σ) (h)))
theorem g_T_parseActs_2 {call : Nat → List AV → Mem → (Int → Mem → Prop) → Prop} {cut : Nat → Lo → List AV → Mem → Prop} {Q : Int → Mem → Prop} {x1 : Int} {σ : Mem} (h :
  (x1 < 6 →
    (x1 = 0 →
      call m_T_skip [.inr (.inr 1), .inl 97] σ (fun (r1 : Int) (s2 : Mem) =>
      (r1 = 0 → isB 0 ∧ Q 0 s2) ∧
        (¬ r1 = 0 →
          call m_T_parsePairs [.inr (.inr 1), .inl (w32 (x1 * 4))] s2 (fun (r3 : Int) (s4 : Mem) =>
          (r3 = 0 → isB 0 ∧ Q 0 s4) ∧
            (¬ r3 = 0 →
              call m_T_skip [.inr (.inr 1), .inl 59] s4 (fun (r5 : Int) (s6 : Mem) =>
              (r5 = 0 → isB 0 ∧ Q 0 s6) ∧
                (¬ r5 = 0 →
                  cut 2 [some (.inr (.inr 1)), some (.inl (w32 (x1 + 1)))] [] (mset s6 1 5 (w32 (x1 + 1)))))))))) ∧
    (¬ x1 = 0 →
      ((σ 1 2) < (σ 1 1) →
        call m_T_skip [.inr (.inr 1), .inl 97] σ (fun (r7 : Int) (s8 : Mem) =>
        (r7 = 0 → isB 0 ∧ Q 0 s8) ∧
          (¬ r7 = 0 →
            call m_T_parsePairs [.inr (.inr 1), .inl (w32 (x1 * 4))] s8 (fun (r9 : Int) (s10 : Mem) =>
            (r9 = 0 → isB 0 ∧ Q 0 s10) ∧
              (¬ r9 = 0 →
                call m_T_skip [.inr (.inr 1), .inl 59] s10 (fun (r11 : Int) (s12 : Mem) =>
                (r11 = 0 → isB 0 ∧ Q 0 s12) ∧
                  (¬ r11 = 0 →
                    cut 2 [some (.inr (.inr 1)), some (.inl (w32 (x1 + 1)))] [] (mset s12 1 5 (w32 (x1 + 1)))))))))) ∧
      ((σ 1 1) ≤ (σ 1 2) →
        ((σ 1 2) = (σ 1 1) → isB 1 ∧ Q 1 σ) ∧
        (¬ (σ 1 2) = (σ 1 1) → isB 0 ∧ Q 0 σ)))) ∧
  (6 ≤ x1 →
    ((σ 1 2) = (σ 1 1) → isB 1 ∧ Q 1 σ) ∧
    (¬ (σ 1 2) = (σ 1 1) → isB 0 ∧ Q 0 σ))) : seg none call c_T_parseActs true Q cut 2000 true (toPc 2 c_T_parseActs) [some (.inr (.inr 1)), some (.inl x1)] [] σ := h
theorem e_T_parseActs_2 {d : Nat} {Q : Int → Mem → Prop} {x1 : Int} {σ : Mem} (h :
  (x1 < 6 →
    (x1 = 0 →
      wp d m_T_skip [.inr (.inr 1), .inl 97] σ (fun (r1 : Int) (s2 : Mem) =>
      (r1 = 0 → Q 0 s2) ∧
        (¬ r1 = 0 →
          wp d m_T_parsePairs [.inr (.inr 1), .inl (w32 (x1 * 4))] s2 (fun (r3 : Int) (s4 : Mem) =>
          (r3 = 0 → Q 0 s4) ∧
            (¬ r3 = 0 →
              wp d m_T_skip [.inr (.inr 1), .inl 59] s4 (fun (r5 : Int) (s6 : Mem) =>
              (r5 = 0 → Q 0 s6) ∧
                (¬ r5 = 0 → K_T_parseActs_2 d Q (w32 (x1 + 1)) (mset s6 1 5 (w32 (x1 + 1)))))))))) ∧
    (¬ x1 = 0 →
      ((σ 1 2) < (σ 1 1) →
        wp d m_T_skip [.inr (.inr 1), .inl 97] σ (fun (r7 : Int) (s8 : Mem) =>
        (r7 = 0 → Q 0 s8) ∧
          (¬ r7 = 0 →
            wp d m_T_parsePairs [.inr (.inr 1), .inl (w32 (x1 * 4))] s8 (fun (r9 : Int) (s10 : Mem) =>
            (r9 = 0 → Q 0 s10) ∧
              (¬ r9 = 0 →
                wp d m_T_skip [.inr (.inr 1), .inl 59] s10 (fun (r11 : Int) (s12 : Mem) =>
                (r11 = 0 → Q 0 s12) ∧
                  (¬ r11 = 0 → K_T_parseActs_2 d Q (w32 (x1 + 1)) (mset s12 1 5 (w32 (x1 + 1)))))))))) ∧
      ((σ 1 1) ≤ (σ 1 2) →
        ((σ 1 2) = (σ 1 1) → Q 1 σ) ∧
        (¬ (σ 1 2) = (σ 1 1) → Q 0 σ)))) ∧
  (6 ≤ x1 →
    ((σ 1 2) = (σ 1 1) → Q 1 σ) ∧
    (¬ (σ 1 2) = (σ 1 1) → Q 0 σ))) : K_T_parseActs_2 d Q x1 σ := XX_intro (g_T_parseActs_2 (call := wp d) (cut := XX none (wp d) c_T_parseActs true Q) (Q := Q) (x1 := x1) (σ := σ) (⟨fun z17 => ⟨fun z16 => wp_conseq (fun _ _ z7 => ⟨fun z6 => ⟨isB0, ((z7).1 z6)⟩, fun z6 => wp_conseq (fun _ _ z5 => ⟨fun z4 => ⟨isB0, ((z5).1 z4)⟩, fun z4 => wp_conseq (fun _ _ z3 => ⟨fun z2 => ⟨isB0, ((z3).1 z2)⟩, fun z2 => (z3).2 z2⟩) (((z5).2 z4))⟩) (((z7).2 z6))⟩) (((((h).1 z17)).1 z16)), fun z16 => ⟨fun z15 => wp_conseq (fun _ _ z14 => ⟨fun z13 => ⟨isB0, ((z14).1 z13)⟩, fun z13 => wp_conseq (fun _ _ z12 => ⟨fun z11 => ⟨isB0, ((z12).1 z11)⟩, fun z11 => wp_conseq (fun _ _ z10 => ⟨fun z9 => ⟨isB0, ((z10).1 z9)⟩, fun z9 => (z10).2 z9⟩) (((z12).2 z11))⟩) (((z14).2 z13))⟩) (((((((h).1 z17)).2 z16)).1 z15)), fun z15 => ⟨fun z8 => ⟨isB1, ((((((((h).1 z17)).2 z16)).2 z15)).1 z8)⟩, fun z8 => ⟨isB0, ((((((((h).1 z17)).2 z16)).2 z15)).2 z8)⟩⟩⟩⟩, fun z17 => ⟨fun z1 => ⟨isB1, ((((h).2 z17)).1 z1)⟩, fun z1 => ⟨isB0, ((((h).2 z17)).2 z1)⟩⟩⟩))
abbrev K_T_parsePairs_2 (d : Nat) (Q : Int → Mem → Prop) (x1 : Int) (x2 : Int) (σ : Mem) : Prop := XX none (wp d) c_T_parsePairs true Q 2 [some (.inr (.inr 1)), some (.inl x1), some (.inl x2)] [] σ
theorem g_T_parsePairs {call : Nat → List AV → Mem → (Int → Mem → Prop) → Prop} {cut : Nat → Lo → List AV → Mem → Prop} {Q : Int → Mem → Prop} {a1 : Int} {σ : Mem} (h :
  cut 2 [some (.inr (.inr 1)), some (.inl a1), some (.inl 0)] [] σ) : seg none call c_T_parsePairs true Q cut 2000 true (toPc 0 c_T_parsePairs) [some (.inr (.inr 1)), some (.inl a1), none] [] σ := h
theorem e_T_parsePairs {d : Nat} {Q : Int → Mem → Prop} {a1 : Int} {σ : Mem} (h :
  K_T_parsePairs_2 d Q a1 0 σ) : wp (d + 1) m_T_parsePairs [.inr (.inr 1), .inl a1] σ Q := wp_in rfl (XX_intro (g_T_parsePairs (call := wp d) (cut := XX none (wp d) c_T_parsePairs true Q) (Q := Q) (a1 := a1) (σ := σ) (h)))
theorem g_T_parsePairs_2 {call : Nat → List AV → Mem → (Int → Mem → Prop) → Prop} {cut : Nat → Lo → List AV → Mem → Prop} {Q : Int → Mem → Prop} {x1 : Int} {x2 : Int} {σ : Mem} (h :
  (x2 < (σ 1 4) →
    (0 < x2 →
      call m_T_skip [.inr (.inr 1), .inl 44] σ (fun (r7 : Int) (s8 : Mem) =>
      (r7 = 0 → isB 0 ∧ Q 0 s8) ∧
        (¬ r7 = 0 →
          call m_T_parseNumber [.inr (.inr 1)] s8 (fun (r9 : Int) (s10 : Mem) =>
          (r9 = 0 → isB 0 ∧ Q 0 s10) ∧
            (¬ r9 = 0 →
              (0 ≤ (w32 (x1 + x2)) ∧ (w32 (x1 + x2)) < (24 : Int)) ∧ call m_T_skip [.inr (.inr 1), .inl 47] (mset s10 4 (w32 (x1 + x2)).toNat (s10 1 3)) (fun (r11 : Int) (s12 : Mem) =>
              (r11 = 0 → isB 0 ∧ Q 0 s12) ∧
                (¬ r11 = 0 →
                  call m_T_parseNumber [.inr (.inr 1)] s12 (fun (r13 : Int) (s14 : Mem) =>
                  (r13 = 0 → isB 0 ∧ Q 0 s14) ∧
                    (¬ r13 = 0 →
                      (0 ≤ (w32 (x1 + x2)) ∧ (w32 (x1 + x2)) < (24 : Int)) ∧ cut 2 [some (.inr (.inr 1)), some (.inl x1), some (.inl (w32 (x2 + 1)))] [] (mset s14 5 (w32 (x1 + x2)).toNat (s14 1 3))))))))))) ∧
    (x2 ≤ 0 →
      call m_T_parseNumber [.inr (.inr 1)] σ (fun (r1 : Int) (s2 : Mem) =>
      (r1 = 0 → isB 0 ∧ Q 0 s2) ∧
        (¬ r1 = 0 →
          (0 ≤ (w32 (x1 + x2)) ∧ (w32 (x1 + x2)) < (24 : Int)) ∧ call m_T_skip [.inr (.inr 1), .inl 47] (mset s2 4 (w32 (x1 + x2)).toNat (s2 1 3)) (fun (r3 : Int) (s4 : Mem) =>
          (r3 = 0 → isB 0 ∧ Q 0 s4) ∧
            (¬ r3 = 0 →
              call m_T_parseNumber [.inr (.inr 1)] s4 (fun (r5 : Int) (s6 : Mem) =>
              (r5 = 0 → isB 0 ∧ Q 0 s6) ∧
                (¬ r5 = 0 →
                  (0 ≤ (w32 (x1 + x2)) ∧ (w32 (x1 + x2)) < (24 : Int)) ∧ cut 2 [some (.inr (.inr 1)), some (.inl x1), some (.inl (w32 (x2 + 1)))] [] (mset s6 5 (w32 (x1 + x2)).toNat (s6 1 3)))))))))) ∧
  ((σ 1 4) ≤ x2 → isB 1 ∧ Q 1 σ)) : seg none call c_T_parsePairs true Q cut 2000 true (toPc 2 c_T_parsePairs) [some (.inr (.inr 1)), some (.inl x1), some (.inl x2)] [] σ := h
theorem e_T_parsePairs_2 {d : Nat} {Q : Int → Mem → Prop} {x1 : Int} {x2 : Int} {σ : Mem} (h :
  (x2 < (σ 1 4) →
    (0 < x2 →
      wp d m_T_skip [.inr (.inr 1), .inl 44] σ (fun (r7 : Int) (s8 : Mem) =>
      (r7 = 0 → Q 0 s8) ∧
        (¬ r7 = 0 →
          wp d m_T_parseNumber [.inr (.inr 1)] s8 (fun (r9 : Int) (s10 : Mem) =>
          (r9 = 0 → Q 0 s10) ∧
            (¬ r9 = 0 →
              (0 ≤ (w32 (x1 + x2)) ∧ (w32 (x1 + x2)) < (24 : Int)) ∧ wp d m_T_skip [.inr (.inr 1), .inl 47] (mset s10 4 (w32 (x1 + x2)).toNat (s10 1 3)) (fun (r11 : Int) (s12 : Mem) =>
              (r11 = 0 → Q 0 s12) ∧
                (¬ r11 = 0 →
                  wp d m_T_parseNumber [.inr (.inr 1)] s12 (fun (r13 : Int) (s14 : Mem) =>
                  (r13 = 0 → Q 0 s14) ∧
                    (¬ r13 = 0 →
                      (0 ≤ (w32 (x1 + x2)) ∧ (w32 (x1 + x2)) < (24 : Int)) ∧ K_T_parsePairs_2 d Q x1 (w32 (x2 + 1)) (mset s14 5 (w32 (x1 + x2)).toNat (s14 1 3))))))))))) ∧
    (x2 ≤ 0 →
      wp d m_T_parseNumber [.inr (.inr 1)] σ (fun (r1 : Int) (s2 : Mem) =>
      (r1 = 0 → Q 0 s2) ∧
        (¬ r1 = 0 →
          (0 ≤ (w32 (x1 + x2)) ∧ (w32 (x1 + x2)) < (24 : Int)) ∧ wp d m_T_skip [.inr (.inr 1), .inl 47] (mset s2 4 (w32 (x1 + x2)).toNat (s2 1 3)) (fun (r3 : Int) (s4 : Mem) =>
          (r3 = 0 → Q 0 s4) ∧
            (¬ r3 = 0 →
              wp d m_T_parseNumber [.inr (.inr 1)] s4 (fun (r5 : Int) (s6 : Mem) =>
              (r5 = 0 → Q 0 s6) ∧
                (¬ r5 = 0 →
                  (0 ≤ (w32 (x1 + x2)) ∧ (w32 (x1 + x2)) < (24 : Int)) ∧ K_T_parsePairs_2 d Q x1 (w32 (x2 + 1)) (mset s6 5 (w32 (x1 + x2)).toNat (s6 1 3)))))))))) ∧
  ((σ 1 4) ≤ x2 → Q 1 σ)) : K_T_parsePairs_2 d Q x1 x2 σ := XX_intro (g_T_parsePairs_2 (call := wp d) (cut := XX none (wp d) c_T_parsePairs true Q) (Q := Q) (x1 := x1) (x2 := x2) (σ := σ) (⟨fun z16 => ⟨fun z15 => wp_conseq (fun _ _ z14 => ⟨fun z13 => ⟨isB0, ((z14).1 z13)⟩, fun z13 => wp_conseq (fun _ _ z12 => ⟨fun z11 => ⟨isB0, ((z12).1 z11)⟩, fun z11 => ⟨(((z12).2 z11)).1, wp_conseq (fun _ _ z10 => ⟨fun z9 => ⟨isB0, ((z10).1 z9)⟩, fun z9 => wp_conseq (fun _ _ z8 => ⟨fun z7 => ⟨isB0, ((z8).1 z7)⟩, fun z7 => (z8).2 z7⟩) (((z10).2 z9))⟩) ((((z12).2 z11)).2)⟩⟩) (((z14).2 z13))⟩) (((((h).1 z16)).1 z15)), fun z15 => wp_conseq (fun _ _ z6 => ⟨fun z5 => ⟨isB0, ((z6).1 z5)⟩, fun z5 => ⟨(((z6).2 z5)).1, wp_conseq (fun _ _ z4 => ⟨fun z3 => ⟨isB0, ((z4).1 z3)⟩, fun z3 => wp_conseq (fun _ _ z2 => ⟨fun z1 => ⟨isB0, ((z2).1 z1)⟩, fun z1 => (z2).2 z1⟩) (((z4).2 z3))⟩) ((((z6).2 z5)).2)⟩⟩) (((((h).1 z16)).2 z15))⟩, fun z16 => ⟨isB1, ((h).2 z16)⟩⟩))
theorem g_T_parseNumber {call : Nat → List AV → Mem → (Int → Mem → Prop) → Prop} {cut : Nat → Lo → List AV → Mem → Prop} {Q : Int → Mem → Prop}  {σ : Mem} (h :
  call m_T_peek [.inr (.inr 1)] σ (fun (r1 : Int) (s2 : Mem) =>
  (r1 = 45 →
      call m_T_parseDigits [.inr (.inr 1), .inl 1] (mset s2 1 2 (w32 ((s2 1 2) + 1))) (fun (r3 : Int) (s4 : Mem) => isB r3 ∧ Q r3 (mset s4 1 3 (w32 (-(s4 1 3)))))) ∧
    (¬ r1 = 45 →
      call m_T_parseDigits [.inr (.inr 1), .inl 0] s2 (fun (r5 : Int) (s6 : Mem) => isB r5 ∧ Q r5 s6)))) : seg none call c_T_parseNumber true Q cut 2000 true (toPc 0 c_T_parseNumber) [some (.inr (.inr 1)), none] [] σ := h
theorem e_T_parseNumber {d : Nat} {Q : Int → Mem → Prop}  {σ : Mem} (h :
  wp d m_T_peek [.inr (.inr 1)] σ (fun (r1 : Int) (s2 : Mem) =>
  (r1 = 45 →
      wp d m_T_parseDigits [.inr (.inr 1), .inl 1] (mset s2 1 2 (w32 ((s2 1 2) + 1))) (fun (r3 : Int) (s4 : Mem) => isB r3 ∧ Q r3 (mset s4 1 3 (w32 (-(s4 1 3)))))) ∧
    (¬ r1 = 45 →
      wp d m_T_parseDigits [.inr (.inr 1), .inl 0] s2 (fun (r5 : Int) (s6 : Mem) => isB r5 ∧ Q r5 s6)))) : wp (d + 1) m_T_parseNumber [.inr (.inr 1)] σ Q := wp_in rfl (XX_intro (g_T_parseNumber (call := wp d) (cut := XX none (wp d) c_T_parseNumber true Q) (Q := Q)  (σ := σ) (h)))
theorem g_T_parseDigits {call : Nat → List AV → Mem → (Int → Mem → Prop) → Prop} {cut : Nat → Lo → List AV → Mem → Prop} {Q : Int → Mem → Prop} {a1 : Int} {σ : Mem} (h :
  call m_T_peek [.inr (.inr 1)] σ (fun (r1 : Int) (s2 : Mem) =>
  ((w32 (r1 - 48)) < a1 → isB 0 ∧ Q 0 s2) ∧
    (a1 ≤ (w32 (r1 - 48)) →
      (9 < (w32 (r1 - 48)) → isB 0 ∧ Q 0 s2) ∧
      ((w32 (r1 - 48)) ≤ 9 →
        call m_T_peek [.inr (.inr 1)] (mset (mset s2 1 2 (w32 ((s2 1 2) + 1))) 1 3 (w32 (r1 - 48))) (fun (r3 : Int) (s4 : Mem) =>
        (0 < (w32 (r1 - 48)) →
            ((w32 (r3 - 48)) < 0 → isB 1 ∧ Q 1 s4) ∧
            (0 ≤ (w32 (r3 - 48)) →
              (9 < (w32 (r3 - 48)) → isB 1 ∧ Q 1 s4) ∧
              ((w32 (r3 - 48)) ≤ 9 →
                isB 1 ∧ Q 1 (mset (mset s4 1 2 (w32 ((s4 1 2) + 1))) 1 3 (w32 ((w32 (10 * (w32 (r1 - 48)))) + (w32 (r3 - 48)))))))) ∧
          ((w32 (r1 - 48)) ≤ 0 → isB 1 ∧ Q 1 s4)))))) : seg none call c_T_parseDigits true Q cut 2000 true (toPc 0 c_T_parseDigits) [some (.inr (.inr 1)), some (.inl a1), none, none] [] σ := h
theorem e_T_parseDigits {d : Nat} {Q : Int → Mem → Prop} {a1 : Int} {σ : Mem} (h :
  wp d m_T_peek [.inr (.inr 1)] σ (fun (r1 : Int) (s2 : Mem) =>
  ((w32 (r1 - 48)) < a1 → Q 0 s2) ∧
    (a1 ≤ (w32 (r1 - 48)) →
      (9 < (w32 (r1 - 48)) → Q 0 s2) ∧
      ((w32 (r1 - 48)) ≤ 9 →
        wp d m_T_peek [.inr (.inr 1)] (mset (mset s2 1 2 (w32 ((s2 1 2) + 1))) 1 3 (w32 (r1 - 48))) (fun (r3 : Int) (s4 : Mem) =>
        (0 < (w32 (r1 - 48)) →
            ((w32 (r3 - 48)) < 0 → Q 1 s4) ∧
            (0 ≤ (w32 (r3 - 48)) →
              (9 < (w32 (r3 - 48)) → Q 1 s4) ∧
              ((w32 (r3 - 48)) ≤ 9 →
                Q 1 (mset (mset s4 1 2 (w32 ((s4 1 2) + 1))) 1 3 (w32 ((w32 (10 * (w32 (r1 - 48)))) + (w32 (r3 - 48)))))))) ∧
          ((w32 (r1 - 48)) ≤ 0 → Q 1 s4)))))) : wp (d + 1) m_T_parseDigits [.inr (.inr 1), .inl a1] σ Q := wp_in rfl (XX_intro (g_T_parseDigits (call := wp d) (cut := XX none (wp d) c_T_parseDigits true Q) (Q := Q) (a1 := a1) (σ := σ) (wp_conseq (fun _ _ z7 => ⟨fun z6 => ⟨isB0, ((z7).1 z6)⟩, fun z6 => ⟨fun z5 => ⟨isB0, ((((z7).2 z6)).1 z5)⟩, fun z5 => wp_conseq (fun _ _ z4 => ⟨fun z3 => ⟨fun z2 => ⟨isB1, ((((z4).1 z3)).1 z2)⟩, fun z2 => ⟨fun z1 => ⟨isB1, ((((((z4).1 z3)).2 z2)).1 z1)⟩, fun z1 => ⟨isB1, ((((((z4).1 z3)).2 z2)).2 z1)⟩⟩⟩, fun z3 => ⟨isB1, ((z4).2 z3)⟩⟩) (((((z7).2 z6)).2 z5))⟩⟩) (h))))
theorem g_T_skip {call : Nat → List AV → Mem → (Int → Mem → Prop) → Prop} {cut : Nat → Lo → List AV → Mem → Prop} {Q : Int → Mem → Prop} {a1 : Int} {σ : Mem} (h :
  call m_T_peek [.inr (.inr 1)] σ (fun (r1 : Int) (s2 : Mem) =>
  (r1 = a1 → isB 1 ∧ Q 1 (mset s2 1 2 (w32 ((s2 1 2) + 1)))) ∧
    (¬ r1 = a1 → isB 0 ∧ Q 0 s2))) : seg none call c_T_skip true Q cut 2000 true (toPc 0 c_T_skip) [some (.inr (.inr 1)), some (.inl a1)] [] σ := h
theorem e_T_skip {d : Nat} {Q : Int → Mem → Prop} {a1 : Int} {σ : Mem} (h :
  wp d m_T_peek [.inr (.inr 1)] σ (fun (r1 : Int) (s2 : Mem) =>
  (r1 = a1 → Q 1 (mset s2 1 2 (w32 ((s2 1 2) + 1)))) ∧
    (¬ r1 = a1 → Q 0 s2))) : wp (d + 1) m_T_skip [.inr (.inr 1), .inl a1] σ Q := wp_in rfl (XX_intro (g_T_skip (call := wp d) (cut := XX none (wp d) c_T_skip true Q) (Q := Q) (a1 := a1) (σ := σ) (wp_conseq (fun _ _ z2 => ⟨fun z1 => ⟨isB1, ((z2).1 z1)⟩, fun z1 => ⟨isB0, ((z2).2 z1)⟩⟩) (h))))
theorem g_T_peek {call : Nat → List AV → Mem → (Int → Mem → Prop) → Prop} {cut : Nat → Lo → List AV → Mem → Prop} {Q : Int → Mem → Prop}  {σ : Mem} (h :
  ((σ 1 2) < 0 → Q (-1) σ) ∧
  (0 ≤ (σ 1 2) →
    ((σ 1 2) < (σ 1 1) → (0 ≤ (σ 1 2) ∧ (σ 1 2) < (90 : Int)) ∧ Q (σ 2 (σ 1 2).toNat) σ) ∧
    ((σ 1 1) ≤ (σ 1 2) → Q (-1) σ))) : seg none call c_T_peek false Q cut 2000 true (toPc 0 c_T_peek) [some (.inr (.inr 1))] [] σ := h
theorem e_T_peek {d : Nat} {Q : Int → Mem → Prop}  {σ : Mem} (h :
  ((σ 1 2) < 0 → Q (-1) σ) ∧
  (0 ≤ (σ 1 2) →
    ((σ 1 2) < (σ 1 1) → (0 ≤ (σ 1 2) ∧ (σ 1 2) < (90 : Int)) ∧ Q (σ 2 (σ 1 2).toNat) σ) ∧
    ((σ 1 1) ≤ (σ 1 2) → Q (-1) σ))) : wp (d + 1) m_T_peek [.inr (.inr 1)] σ Q := wp_in rfl (XX_intro (g_T_peek (call := wp d) (cut := XX none (wp d) c_T_peek false Q) (Q := Q)  (σ := σ) (h)))
theorem g_X_feed {call : Nat → List AV → Mem → (Int → Mem → Prop) → Prop} {cut : Nat → Lo → List AV → Mem → Prop} {Q : Int → Mem → Prop} {a1 : Int} {a2 : Int} {σ : Mem} (h :
  (a1 < 1 → call m_X_refuse [.inr (.inr 0), .inl 4] σ (fun (r7 : Int) (s8 : Mem) => Q r7 s8)) ∧
  (1 ≤ a1 →
    (8 < a1 → call m_X_refuse [.inr (.inr 0), .inl 6] σ (fun (r1 : Int) (s2 : Mem) => Q r1 s2)) ∧
    (a1 ≤ 8 →
      (90 < (w32 ((σ 1 1) + a1)) → call m_X_refuse [.inr (.inr 0), .inl 6] σ (fun (r5 : Int) (s6 : Mem) => Q r5 s6)) ∧
      ((w32 ((σ 1 1) + a1)) ≤ 90 →
        call m_T_append [.inr (.inr 1), .inl a1, .inr (.inl a2)] σ (fun (r3 : Int) (s4 : Mem) => Q (s4 1 1) s4))))) : seg none call c_X_feed false Q cut 2000 true (toPc 0 c_X_feed) [some (.inr (.inr 0)), some (.inl a1), some (.inr (.inl a2)), none] [] σ := h
theorem e_X_feed {d : Nat} {Q : Int → Mem → Prop} {a1 : Int} {a2 : Int} {σ : Mem} (h :
  (a1 < 1 → wp d m_X_refuse [.inr (.inr 0), .inl 4] σ (fun (r7 : Int) (s8 : Mem) => Q r7 s8)) ∧
  (1 ≤ a1 →
    (8 < a1 → wp d m_X_refuse [.inr (.inr 0), .inl 6] σ (fun (r1 : Int) (s2 : Mem) => Q r1 s2)) ∧
    (a1 ≤ 8 →
      (90 < (w32 ((σ 1 1) + a1)) → wp d m_X_refuse [.inr (.inr 0), .inl 6] σ (fun (r5 : Int) (s6 : Mem) => Q r5 s6)) ∧
      ((w32 ((σ 1 1) + a1)) ≤ 90 →
        wp d m_T_append [.inr (.inr 1), .inl a1, .inr (.inl a2)] σ (fun (r3 : Int) (s4 : Mem) => Q (s4 1 1) s4))))) : wp (d + 1) m_X_feed [.inr (.inr 0), .inl a1, .inr (.inl a2)] σ Q := wp_in rfl (XX_intro (g_X_feed (call := wp d) (cut := XX none (wp d) c_X_feed false Q) (Q := Q) (a1 := a1) (a2 := a2) (σ := σ) (h)))
theorem g_X_read {call : Nat → List AV → Mem → (Int → Mem → Prop) → Prop} {cut : Nat → Lo → List AV → Mem → Prop} {Q : Int → Mem → Prop}  {σ : Mem} (h :
  call m_T_parse [.inr (.inr 1)] σ (fun (r1 : Int) (s2 : Mem) =>
  (r1 < 0 →
      call m_S_begin [.inr (.inr 7), .inr (.inr 1)] s2 (fun (r3 : Int) (s4 : Mem) =>
      Q (w32 ((w32 (10 * ((mset (mset s4 31 0 0) 0 2 0) 7 1))) + ((mset (mset s4 31 0 0) 0 2 0) 7 2))) (mset (mset s4 31 0 0) 0 2 0))) ∧
    (0 ≤ r1 → Q (w32 ((-20) - r1)) s2))) : seg none call c_X_read false Q cut 2000 true (toPc 0 c_X_read) [some (.inr (.inr 0)), none] [] σ := h
theorem e_X_read {d : Nat} {Q : Int → Mem → Prop}  {σ : Mem} (h :
  wp d m_T_parse [.inr (.inr 1)] σ (fun (r1 : Int) (s2 : Mem) =>
  (r1 < 0 →
      wp d m_S_begin [.inr (.inr 7), .inr (.inr 1)] s2 (fun (r3 : Int) (s4 : Mem) =>
      Q (w32 ((w32 (10 * ((mset (mset s4 31 0 0) 0 2 0) 7 1))) + ((mset (mset s4 31 0 0) 0 2 0) 7 2))) (mset (mset s4 31 0 0) 0 2 0))) ∧
    (0 ≤ r1 → Q (w32 ((-20) - r1)) s2))) : wp (d + 1) m_X_read [.inr (.inr 0)] σ Q := wp_in rfl (XX_intro (g_X_read (call := wp d) (cut := XX none (wp d) c_X_read false Q) (Q := Q)  (σ := σ) (h)))
theorem g_X_weight {call : Nat → List AV → Mem → (Int → Mem → Prop) → Prop} {cut : Nat → Lo → List AV → Mem → Prop} {Q : Int → Mem → Prop} {a1 : Int} {σ : Mem} (h :
  ((σ 7 0) = 0 → call m_X_refuse [.inr (.inr 0), .inl 3] σ (fun (r5 : Int) (s6 : Mem) => Q r5 s6)) ∧
  (¬ (σ 7 0) = 0 →
    call m_S_hasTruth [.inr (.inr 7), .inl a1] σ (fun (r1 : Int) (s2 : Mem) =>
    (r1 = 0 →
        call m_X_refuse [.inr (.inr 0), .inl 1] s2 (fun (r3 : Int) (s4 : Mem) => Q r3 s4)) ∧
      (¬ r1 = 0 → (0 ≤ a1 ∧ a1 < (4 : Int)) ∧ Q (s2 8 a1.toNat) s2)))) : seg none call c_X_weight false Q cut 2000 true (toPc 0 c_X_weight) [some (.inr (.inr 0)), some (.inl a1)] [] σ := h
theorem e_X_weight {d : Nat} {Q : Int → Mem → Prop} {a1 : Int} {σ : Mem} (h :
  ((σ 7 0) = 0 → wp d m_X_refuse [.inr (.inr 0), .inl 3] σ (fun (r5 : Int) (s6 : Mem) => Q r5 s6)) ∧
  (¬ (σ 7 0) = 0 →
    wp d m_S_hasTruth [.inr (.inr 7), .inl a1] σ (fun (r1 : Int) (s2 : Mem) =>
    (r1 = 0 →
        wp d m_X_refuse [.inr (.inr 0), .inl 1] s2 (fun (r3 : Int) (s4 : Mem) => Q r3 s4)) ∧
      (¬ r1 = 0 → (0 ≤ a1 ∧ a1 < (4 : Int)) ∧ Q (s2 8 a1.toNat) s2)))) : wp (d + 1) m_X_weight [.inr (.inr 0), .inl a1] σ Q := wp_in rfl (XX_intro (g_X_weight (call := wp d) (cut := XX none (wp d) c_X_weight false Q) (Q := Q) (a1 := a1) (σ := σ) (h)))
theorem g_X_gets {call : Nat → List AV → Mem → (Int → Mem → Prop) → Prop} {cut : Nat → Lo → List AV → Mem → Prop} {Q : Int → Mem → Prop} {a1 : Int} {a2 : Int} {a3 : Int} {σ : Mem} (h :
  (a3 < 0 →
    call m_X_refuse [.inr (.inr 0), .inl 2] σ (fun (r1 : Int) (s2 : Mem) => Q (w32 (r1 - 1000)) s2)) ∧
  (0 ≤ a3 →
    (2 < a3 →
      call m_X_refuse [.inr (.inr 0), .inl 2] σ (fun (r7 : Int) (s8 : Mem) => Q (w32 (r7 - 1000)) s8)) ∧
    (a3 ≤ 2 →
      call m_S_lacksAct [.inr (.inr 7), .inl a1, .inl a2] σ (fun (r3 : Int) (s4 : Mem) =>
      (r3 = 0 →
          (a3 = 0 →
            (0 ≤ (w32 ((w32 (a1 * 4)) + a2)) ∧ (w32 ((w32 (a1 * 4)) + a2)) < (24 : Int)) ∧ Q (s4 10 (w32 ((w32 (a1 * 4)) + a2)).toNat) s4) ∧
          (¬ a3 = 0 →
            (a3 = 1 →
              (0 ≤ (w32 ((w32 (a1 * 4)) + a2)) ∧ (w32 ((w32 (a1 * 4)) + a2)) < (24 : Int)) ∧ Q (s4 11 (w32 ((w32 (a1 * 4)) + a2)).toNat) s4) ∧
            (¬ a3 = 1 →
              (0 ≤ (w32 ((w32 (a1 * 4)) + a2)) ∧ (w32 ((w32 (a1 * 4)) + a2)) < (24 : Int)) ∧ Q (s4 12 (w32 ((w32 (a1 * 4)) + a2)).toNat) s4))) ∧
        (¬ r3 = 0 →
          call m_X_refuse [.inr (.inr 0), .inl r3] s4 (fun (r5 : Int) (s6 : Mem) => Q (w32 (r5 - 1000)) s6)))))) : seg none call c_X_gets false Q cut 2000 true (toPc 0 c_X_gets) [some (.inr (.inr 0)), some (.inl a1), some (.inl a2), some (.inl a3), none, none] [] σ := h
theorem e_X_gets {d : Nat} {Q : Int → Mem → Prop} {a1 : Int} {a2 : Int} {a3 : Int} {σ : Mem} (h :
  (a3 < 0 →
    wp d m_X_refuse [.inr (.inr 0), .inl 2] σ (fun (r1 : Int) (s2 : Mem) => Q (w32 (r1 - 1000)) s2)) ∧
  (0 ≤ a3 →
    (2 < a3 →
      wp d m_X_refuse [.inr (.inr 0), .inl 2] σ (fun (r7 : Int) (s8 : Mem) => Q (w32 (r7 - 1000)) s8)) ∧
    (a3 ≤ 2 →
      wp d m_S_lacksAct [.inr (.inr 7), .inl a1, .inl a2] σ (fun (r3 : Int) (s4 : Mem) =>
      (r3 = 0 →
          (a3 = 0 →
            (0 ≤ (w32 ((w32 (a1 * 4)) + a2)) ∧ (w32 ((w32 (a1 * 4)) + a2)) < (24 : Int)) ∧ Q (s4 10 (w32 ((w32 (a1 * 4)) + a2)).toNat) s4) ∧
          (¬ a3 = 0 →
            (a3 = 1 →
              (0 ≤ (w32 ((w32 (a1 * 4)) + a2)) ∧ (w32 ((w32 (a1 * 4)) + a2)) < (24 : Int)) ∧ Q (s4 11 (w32 ((w32 (a1 * 4)) + a2)).toNat) s4) ∧
            (¬ a3 = 1 →
              (0 ≤ (w32 ((w32 (a1 * 4)) + a2)) ∧ (w32 ((w32 (a1 * 4)) + a2)) < (24 : Int)) ∧ Q (s4 12 (w32 ((w32 (a1 * 4)) + a2)).toNat) s4))) ∧
        (¬ r3 = 0 →
          wp d m_X_refuse [.inr (.inr 0), .inl r3] s4 (fun (r5 : Int) (s6 : Mem) => Q (w32 (r5 - 1000)) s6)))))) : wp (d + 1) m_X_gets [.inr (.inr 0), .inl a1, .inl a2, .inl a3] σ Q := wp_in rfl (XX_intro (g_X_gets (call := wp d) (cut := XX none (wp d) c_X_gets false Q) (Q := Q) (a1 := a1) (a2 := a2) (a3 := a3) (σ := σ) (h)))
theorem g_X_second {call : Nat → List AV → Mem → (Int → Mem → Prop) → Prop} {cut : Nat → Lo → List AV → Mem → Prop} {Q : Int → Mem → Prop} {a1 : Int} {a2 : Int} {a3 : Int} {σ : Mem} (h :
  call m_S_lacksAct [.inr (.inr 7), .inl a1, .inl a2] σ (fun (r1 : Int) (s2 : Mem) =>
  (r1 = 0 →
      (a3 < (-99) →
        call m_X_refuse [.inr (.inr 0), .inl 4] s2 (fun (r7 : Int) (s8 : Mem) => Q r7 s8)) ∧
      ((-99) ≤ a3 →
        (99 < a3 →
          call m_X_refuse [.inr (.inr 0), .inl 6] s2 (fun (r5 : Int) (s6 : Mem) => Q r5 s6)) ∧
        (a3 ≤ 99 →
          (0 ≤ (w32 ((w32 (a1 * 4)) + a2)) ∧ (w32 ((w32 (a1 * 4)) + a2)) < (24 : Int)) ∧ call m_P_keep [.inr (.inr 31), .inl 2, .inl (w32 ((w32 (a1 * 4)) + a2)), .inl (s2 12 (w32 ((w32 (a1 * 4)) + a2)).toNat)] s2 (fun (r3 : Int) (s4 : Mem) =>
          (0 ≤ (w32 ((w32 (a1 * 4)) + a2)) ∧ (w32 ((w32 (a1 * 4)) + a2)) < (24 : Int)) ∧ Q 1 (mset s4 12 (w32 ((w32 (a1 * 4)) + a2)).toNat a3))))) ∧
    (¬ r1 = 0 →
      call m_X_refuse [.inr (.inr 0), .inl r1] s2 (fun (r9 : Int) (s10 : Mem) => Q r9 s10)))) : seg none call c_X_second false Q cut 2000 true (toPc 0 c_X_second) [some (.inr (.inr 0)), some (.inl a1), some (.inl a2), some (.inl a3), none, none] [] σ := h
theorem e_X_second {d : Nat} {Q : Int → Mem → Prop} {a1 : Int} {a2 : Int} {a3 : Int} {σ : Mem} (h :
  wp d m_S_lacksAct [.inr (.inr 7), .inl a1, .inl a2] σ (fun (r1 : Int) (s2 : Mem) =>
  (r1 = 0 →
      (a3 < (-99) →
        wp d m_X_refuse [.inr (.inr 0), .inl 4] s2 (fun (r7 : Int) (s8 : Mem) => Q r7 s8)) ∧
      ((-99) ≤ a3 →
        (99 < a3 →
          wp d m_X_refuse [.inr (.inr 0), .inl 6] s2 (fun (r5 : Int) (s6 : Mem) => Q r5 s6)) ∧
        (a3 ≤ 99 →
          (0 ≤ (w32 ((w32 (a1 * 4)) + a2)) ∧ (w32 ((w32 (a1 * 4)) + a2)) < (24 : Int)) ∧ wp d m_P_keep [.inr (.inr 31), .inl 2, .inl (w32 ((w32 (a1 * 4)) + a2)), .inl (s2 12 (w32 ((w32 (a1 * 4)) + a2)).toNat)] s2 (fun (r3 : Int) (s4 : Mem) =>
          (0 ≤ (w32 ((w32 (a1 * 4)) + a2)) ∧ (w32 ((w32 (a1 * 4)) + a2)) < (24 : Int)) ∧ Q 1 (mset s4 12 (w32 ((w32 (a1 * 4)) + a2)).toNat a3))))) ∧
    (¬ r1 = 0 →
      wp d m_X_refuse [.inr (.inr 0), .inl r1] s2 (fun (r9 : Int) (s10 : Mem) => Q r9 s10)))) : wp (d + 1) m_X_second [.inr (.inr 0), .inl a1, .inl a2, .inl a3] σ Q := wp_in rfl (XX_intro (g_X_second (call := wp d) (cut := XX none (wp d) c_X_second false Q) (Q := Q) (a1 := a1) (a2 := a2) (a3 := a3) (σ := σ) (h)))
theorem g_X_ties {call : Nat → List AV → Mem → (Int → Mem → Prop) → Prop} {cut : Nat → Lo → List AV → Mem → Prop} {Q : Int → Mem → Prop} {a1 : Int} {σ : Mem} (h :
  ((σ 7 0) = 0 → call m_X_refuse [.inr (.inr 0), .inl 3] σ (fun (r7 : Int) (s8 : Mem) => Q r7 s8)) ∧
  (¬ (σ 7 0) = 0 →
    (a1 < 0 → call m_X_refuse [.inr (.inr 0), .inl 2] σ (fun (r1 : Int) (s2 : Mem) => Q r1 s2)) ∧
    (0 ≤ a1 →
      (1 < a1 → call m_X_refuse [.inr (.inr 0), .inl 2] σ (fun (r5 : Int) (s6 : Mem) => Q r5 s6)) ∧
      (a1 ≤ 1 →
        call m_P_keep [.inr (.inr 31), .inl 3, .inl 0, .inl (σ 7 3)] σ (fun (r3 : Int) (s4 : Mem) => Q (σ 7 3) (mset s4 7 3 a1)))))) : seg none call c_X_ties false Q cut 2000 true (toPc 0 c_X_ties) [some (.inr (.inr 0)), some (.inl a1), none] [] σ := h
theorem e_X_ties {d : Nat} {Q : Int → Mem → Prop} {a1 : Int} {σ : Mem} (h :
  ((σ 7 0) = 0 → wp d m_X_refuse [.inr (.inr 0), .inl 3] σ (fun (r7 : Int) (s8 : Mem) => Q r7 s8)) ∧
  (¬ (σ 7 0) = 0 →
    (a1 < 0 → wp d m_X_refuse [.inr (.inr 0), .inl 2] σ (fun (r1 : Int) (s2 : Mem) => Q r1 s2)) ∧
    (0 ≤ a1 →
      (1 < a1 → wp d m_X_refuse [.inr (.inr 0), .inl 2] σ (fun (r5 : Int) (s6 : Mem) => Q r5 s6)) ∧
      (a1 ≤ 1 →
        wp d m_P_keep [.inr (.inr 31), .inl 3, .inl 0, .inl (σ 7 3)] σ (fun (r3 : Int) (s4 : Mem) => Q (σ 7 3) (mset s4 7 3 a1)))))) : wp (d + 1) m_X_ties [.inr (.inr 0), .inl a1] σ Q := wp_in rfl (XX_intro (g_X_ties (call := wp d) (cut := XX none (wp d) c_X_ties false Q) (Q := Q) (a1 := a1) (σ := σ) (h)))
theorem g_X_done {call : Nat → List AV → Mem → (Int → Mem → Prop) → Prop} {cut : Nat → Lo → List AV → Mem → Prop} {Q : Int → Mem → Prop} {a1 : Int} {a2 : Int} {a3 : Int} {a4 : Int} {σ : Mem} (h :
  ((σ 7 0) = 0 →
    call m_X_refuse [.inr (.inr 0), .inl 3] σ (fun (r17 : Int) (s18 : Mem) => Q r17 s18)) ∧
  (¬ (σ 7 0) = 0 →
    call m_B_lay [.inr (.inr 35), .inr (.inl a1), .inr (.inl a2), .inr (.inl a3), .inr (.inl a4)] σ (fun (r1 : Int) (s2 : Mem) =>
    call m_B_any [.inr (.inr 35), .inl 0] s2 (fun (r3 : Int) (s4 : Mem) =>
      (r3 = 0 →
          call m_X_refuse [.inr (.inr 0), .inl 3] s4 (fun (r15 : Int) (s16 : Mem) => Q r15 s16)) ∧
        (¬ r3 = 0 →
          call m_B_least [.inr (.inr 35)] s4 (fun (r5 : Int) (s6 : Mem) =>
          (r5 < 0 →
              call m_X_refuse [.inr (.inr 0), .inl 4] s6 (fun (r13 : Int) (s14 : Mem) => Q r13 s14)) ∧
            (0 ≤ r5 →
              call m_B_greatest [.inr (.inr 35)] s6 (fun (r7 : Int) (s8 : Mem) =>
              (9999 < r7 →
                  call m_X_refuse [.inr (.inr 0), .inl 6] s8 (fun (r11 : Int) (s12 : Mem) => Q r11 s12)) ∧
                (r7 ≤ 9999 →
                  call m_B_choose [.inr (.inr 35), .inl 0, .inr (.inr 10)] s8 (fun (r9 : Int) (s10 : Mem) => Q r9 s10)))))))))) : seg none call c_X_done false Q cut 2000 true (toPc 0 c_X_done) [some (.inr (.inr 0)), some (.inl a1), some (.inl a2), some (.inl a3), some (.inl a4)] [] σ := h
theorem e_X_done {d : Nat} {Q : Int → Mem → Prop} {a1 : Int} {a2 : Int} {a3 : Int} {a4 : Int} {σ : Mem} (h :
  ((σ 7 0) = 0 →
    wp d m_X_refuse [.inr (.inr 0), .inl 3] σ (fun (r17 : Int) (s18 : Mem) => Q r17 s18)) ∧
  (¬ (σ 7 0) = 0 →
    wp d m_B_lay [.inr (.inr 35), .inr (.inl a1), .inr (.inl a2), .inr (.inl a3), .inr (.inl a4)] σ (fun (r1 : Int) (s2 : Mem) =>
    wp d m_B_any [.inr (.inr 35), .inl 0] s2 (fun (r3 : Int) (s4 : Mem) =>
      (r3 = 0 →
          wp d m_X_refuse [.inr (.inr 0), .inl 3] s4 (fun (r15 : Int) (s16 : Mem) => Q r15 s16)) ∧
        (¬ r3 = 0 →
          wp d m_B_least [.inr (.inr 35)] s4 (fun (r5 : Int) (s6 : Mem) =>
          (r5 < 0 →
              wp d m_X_refuse [.inr (.inr 0), .inl 4] s6 (fun (r13 : Int) (s14 : Mem) => Q r13 s14)) ∧
            (0 ≤ r5 →
              wp d m_B_greatest [.inr (.inr 35)] s6 (fun (r7 : Int) (s8 : Mem) =>
              (9999 < r7 →
                  wp d m_X_refuse [.inr (.inr 0), .inl 6] s8 (fun (r11 : Int) (s12 : Mem) => Q r11 s12)) ∧
                (r7 ≤ 9999 →
                  wp d m_B_choose [.inr (.inr 35), .inl 0, .inr (.inr 10)] s8 (fun (r9 : Int) (s10 : Mem) => Q r9 s10)))))))))) : wp (d + 1) m_X_done [.inr (.inr 0), .inl a1, .inl a2, .inl a3, .inl a4] σ Q := wp_in rfl (XX_intro (g_X_done (call := wp d) (cut := XX none (wp d) c_X_done false Q) (Q := Q) (a1 := a1) (a2 := a2) (a3 := a3) (a4 := a4) (σ := σ) (h)))
theorem g_X_put {call : Nat → List AV → Mem → (Int → Mem → Prop) → Prop} {cut : Nat → Lo → List AV → Mem → Prop} {Q : Int → Mem → Prop} {a1 : Int} {σ : Mem} (h :
  (a1 < 0 → call m_X_refuse [.inr (.inr 0), .inl 4] σ (fun (r5 : Int) (s6 : Mem) => Q r5 s6)) ∧
  (0 ≤ a1 →
    (60 < a1 → call m_X_refuse [.inr (.inr 0), .inl 6] σ (fun (r1 : Int) (s2 : Mem) => Q r1 s2)) ∧
    (a1 ≤ 60 →
      ((σ 0 2) < 24 →
        (0 ≤ (σ 0 2) ∧ (σ 0 2) < (24 : Int)) ∧ Q ((mset (mset σ 6 (σ 0 2).toNat a1) 0 2 (w32 (((mset σ 6 (σ 0 2).toNat a1) 0 2) + 1))) 0 2) (mset (mset σ 6 (σ 0 2).toNat a1) 0 2 (w32 (((mset σ 6 (σ 0 2).toNat a1) 0 2) + 1)))) ∧
      (24 ≤ (σ 0 2) → call m_X_refuse [.inr (.inr 0), .inl 6] σ (fun (r3 : Int) (s4 : Mem) => Q r3 s4))))) : seg none call c_X_put false Q cut 2000 true (toPc 0 c_X_put) [some (.inr (.inr 0)), some (.inl a1)] [] σ := h
theorem e_X_put {d : Nat} {Q : Int → Mem → Prop} {a1 : Int} {σ : Mem} (h :
  (a1 < 0 → wp d m_X_refuse [.inr (.inr 0), .inl 4] σ (fun (r5 : Int) (s6 : Mem) => Q r5 s6)) ∧
  (0 ≤ a1 →
    (60 < a1 → wp d m_X_refuse [.inr (.inr 0), .inl 6] σ (fun (r1 : Int) (s2 : Mem) => Q r1 s2)) ∧
    (a1 ≤ 60 →
      ((σ 0 2) < 24 →
        (0 ≤ (σ 0 2) ∧ (σ 0 2) < (24 : Int)) ∧ Q ((mset (mset σ 6 (σ 0 2).toNat a1) 0 2 (w32 (((mset σ 6 (σ 0 2).toNat a1) 0 2) + 1))) 0 2) (mset (mset σ 6 (σ 0 2).toNat a1) 0 2 (w32 (((mset σ 6 (σ 0 2).toNat a1) 0 2) + 1)))) ∧
      (24 ≤ (σ 0 2) → wp d m_X_refuse [.inr (.inr 0), .inl 6] σ (fun (r3 : Int) (s4 : Mem) => Q r3 s4))))) : wp (d + 1) m_X_put [.inr (.inr 0), .inl a1] σ Q := wp_in rfl (XX_intro (g_X_put (call := wp d) (cut := XX none (wp d) c_X_put false Q) (Q := Q) (a1 := a1) (σ := σ) (h)))
abbrev K_X_look_68 (d : Nat) (Q : Int → Mem → Prop) (x1 : Int) (x2 : Int) (σ : Mem) : Prop := XX none (wp d) c_X_look false Q 68 [some (.inr (.inr 0)), some (.inl x1), some (.inl x2), none] [] σ
abbrev K_X_look_81 (d : Nat) (Q : Int → Mem → Prop) (x1 : Int) (x2 : Int) (x3 : Int) (σ : Mem) : Prop := XX none (wp d) c_X_look false Q 81 [some (.inr (.inr 0)), some (.inl x1), some (.inl x2), some (.inl x3)] [] σ
theorem g_X_look {call : Nat → List AV → Mem → (Int → Mem → Prop) → Prop} {cut : Nat → Lo → List AV → Mem → Prop} {Q : Int → Mem → Prop} {a1 : Int} {σ : Mem} (h :
  ((σ 7 0) = 0 →
    call m_X_refuse [.inr (.inr 0), .inl 3] σ (fun (r11 : Int) (s12 : Mem) => Q r11 s12)) ∧
  (¬ (σ 7 0) = 0 →
    (a1 < 1 →
      call m_X_refuse [.inr (.inr 0), .inl 4] σ (fun (r9 : Int) (s10 : Mem) => Q r9 s10)) ∧
    (1 ≤ a1 →
      (6 < a1 → call m_X_refuse [.inr (.inr 0), .inl 6] σ (fun (r1 : Int) (s2 : Mem) => Q r1 s2)) ∧
      (a1 ≤ 6 →
        ((σ 7 10) < 12 →
          call m_X_rowFits [.inr (.inr 0), .inl a1] σ (fun (r3 : Int) (s4 : Mem) =>
          (r3 = 0 →
              call m_X_refuse [.inr (.inr 0), .inl 3] s4 (fun (r5 : Int) (s6 : Mem) => Q r5 s6)) ∧
            (¬ r3 = 0 → cut 68 [some (.inr (.inr 0)), some (.inl a1), some (.inl 0), none] [] s4))) ∧
        (12 ≤ (σ 7 10) → call m_X_refuse [.inr (.inr 0), .inl 6] σ (fun (r7 : Int) (s8 : Mem) => Q r7 s8)))))) : seg none call c_X_look false Q cut 2000 true (toPc 0 c_X_look) [some (.inr (.inr 0)), some (.inl a1), none, none] [] σ := h
theorem e_X_look {d : Nat} {Q : Int → Mem → Prop} {a1 : Int} {σ : Mem} (h :
  ((σ 7 0) = 0 →
    wp d m_X_refuse [.inr (.inr 0), .inl 3] σ (fun (r11 : Int) (s12 : Mem) => Q r11 s12)) ∧
  (¬ (σ 7 0) = 0 →
    (a1 < 1 →
      wp d m_X_refuse [.inr (.inr 0), .inl 4] σ (fun (r9 : Int) (s10 : Mem) => Q r9 s10)) ∧
    (1 ≤ a1 →
      (6 < a1 → wp d m_X_refuse [.inr (.inr 0), .inl 6] σ (fun (r1 : Int) (s2 : Mem) => Q r1 s2)) ∧
      (a1 ≤ 6 →
        ((σ 7 10) < 12 →
          wp d m_X_rowFits [.inr (.inr 0), .inl a1] σ (fun (r3 : Int) (s4 : Mem) =>
          (r3 = 0 →
              wp d m_X_refuse [.inr (.inr 0), .inl 3] s4 (fun (r5 : Int) (s6 : Mem) => Q r5 s6)) ∧
            (¬ r3 = 0 → K_X_look_68 d Q a1 0 s4))) ∧
        (12 ≤ (σ 7 10) → wp d m_X_refuse [.inr (.inr 0), .inl 6] σ (fun (r7 : Int) (s8 : Mem) => Q r7 s8)))))) : wp (d + 1) m_X_look [.inr (.inr 0), .inl a1] σ Q := wp_in rfl (XX_intro (g_X_look (call := wp d) (cut := XX none (wp d) c_X_look false Q) (Q := Q) (a1 := a1) (σ := σ) (h)))
theorem g_X_look_68 {call : Nat → List AV → Mem → (Int → Mem → Prop) → Prop} {cut : Nat → Lo → List AV → Mem → Prop} {Q : Int → Mem → Prop} {x1 : Int} {x2 : Int} {σ : Mem} (h :
  (x2 < (σ 7 1) →
    cut 81 [some (.inr (.inr 0)), some (.inl x1), some (.inl x2), some (.inl 0)] [] σ) ∧
  ((σ 7 1) ≤ x2 →
    call m_X_keepLook [.inr (.inr 0), .inl x1] (mset σ 0 2 0) (fun (r1 : Int) (s2 : Mem) => Q r1 s2))) : seg none call c_X_look false Q cut 2000 true (toPc 68 c_X_look) [some (.inr (.inr 0)), some (.inl x1), some (.inl x2), none] [] σ := h
theorem e_X_look_68 {d : Nat} {Q : Int → Mem → Prop} {x1 : Int} {x2 : Int} {σ : Mem} (h :
  (x2 < (σ 7 1) → K_X_look_81 d Q x1 x2 0 σ) ∧
  ((σ 7 1) ≤ x2 →
    wp d m_X_keepLook [.inr (.inr 0), .inl x1] (mset σ 0 2 0) (fun (r1 : Int) (s2 : Mem) => Q r1 s2))) : K_X_look_68 d Q x1 x2 σ := XX_intro (g_X_look_68 (call := wp d) (cut := XX none (wp d) c_X_look false Q) (Q := Q) (x1 := x1) (x2 := x2) (σ := σ) (h))
theorem g_X_look_81 {call : Nat → List AV → Mem → (Int → Mem → Prop) → Prop} {cut : Nat → Lo → List AV → Mem → Prop} {Q : Int → Mem → Prop} {x1 : Int} {x2 : Int} {x3 : Int} {σ : Mem} (h :
  (x3 < x1 →
    (0 ≤ (w32 ((w32 (x2 * x1)) + x3)) ∧ (w32 ((w32 (x2 * x1)) + x3)) < (24 : Int)) ∧ call m_S_write [.inr (.inr 7), .inl x2, .inl x3, .inl (σ 6 (w32 ((w32 (x2 * x1)) + x3)).toNat)] σ (fun (r1 : Int) (s2 : Mem) =>
    cut 81 [some (.inr (.inr 0)), some (.inl x1), some (.inl x2), some (.inl (w32 (x3 + 1)))] [] s2)) ∧
  (x1 ≤ x3 →
    cut 68 [some (.inr (.inr 0)), some (.inl x1), some (.inl (w32 (x2 + 1))), none] [] σ)) : seg none call c_X_look false Q cut 2000 true (toPc 81 c_X_look) [some (.inr (.inr 0)), some (.inl x1), some (.inl x2), some (.inl x3)] [] σ := h
theorem e_X_look_81 {d : Nat} {Q : Int → Mem → Prop} {x1 : Int} {x2 : Int} {x3 : Int} {σ : Mem} (h :
  (x3 < x1 →
    (0 ≤ (w32 ((w32 (x2 * x1)) + x3)) ∧ (w32 ((w32 (x2 * x1)) + x3)) < (24 : Int)) ∧ wp d m_S_write [.inr (.inr 7), .inl x2, .inl x3, .inl (σ 6 (w32 ((w32 (x2 * x1)) + x3)).toNat)] σ (fun (r1 : Int) (s2 : Mem) => K_X_look_81 d Q x1 x2 (w32 (x3 + 1)) s2)) ∧
  (x1 ≤ x3 → K_X_look_68 d Q x1 (w32 (x2 + 1)) σ)) : K_X_look_81 d Q x1 x2 x3 σ := XX_intro (g_X_look_81 (call := wp d) (cut := XX none (wp d) c_X_look false Q) (Q := Q) (x1 := x1) (x2 := x2) (x3 := x3) (σ := σ) (h))
abbrev K_X_plain_68 (d : Nat) (Q : Int → Mem → Prop) (x1 : Int) (x2 : Int) (x3 : Int) (σ : Mem) : Prop := XX none (wp d) c_X_plain false Q 68 [some (.inr (.inr 0)), some (.inl x1), some (.inl x2), some (.inl x3), none] [] σ
abbrev K_X_plain_82 (d : Nat) (Q : Int → Mem → Prop) (x1 : Int) (x2 : Int) (x3 : Int) (x4 : Int) (σ : Mem) : Prop := XX none (wp d) c_X_plain false Q 82 [some (.inr (.inr 0)), some (.inl x1), some (.inl x2), some (.inl x3), some (.inl x4)] [] σ
theorem g_X_plain {call : Nat → List AV → Mem → (Int → Mem → Prop) → Prop} {cut : Nat → Lo → List AV → Mem → Prop} {Q : Int → Mem → Prop} {a1 : Int} {σ : Mem} (h :
  (a1 < 0 → call m_X_refuse [.inr (.inr 0), .inl 2] σ (fun (r1 : Int) (s2 : Mem) => Q r1 s2)) ∧
  (0 ≤ a1 →
    (1 < a1 → call m_X_refuse [.inr (.inr 0), .inl 2] σ (fun (r7 : Int) (s8 : Mem) => Q r7 s8)) ∧
    (a1 ≤ 1 →
      ((σ 7 0) = 0 → call m_X_refuse [.inr (.inr 0), .inl 3] σ (fun (r5 : Int) (s6 : Mem) => Q r5 s6)) ∧
      (¬ (σ 7 0) = 0 →
        ((σ 7 10) < 12 →
          (a1 = 0 →
            cut 68 [some (.inr (.inr 0)), some (.inl a1), some (.inl 1), some (.inl 0), none] [] σ) ∧
          (¬ a1 = 0 →
            cut 68 [some (.inr (.inr 0)), some (.inl a1), some (.inl (σ 7 1)), some (.inl 0), none] [] σ)) ∧
        (12 ≤ (σ 7 10) → call m_X_refuse [.inr (.inr 0), .inl 6] σ (fun (r3 : Int) (s4 : Mem) => Q r3 s4)))))) : seg none call c_X_plain false Q cut 2000 true (toPc 0 c_X_plain) [some (.inr (.inr 0)), some (.inl a1), none, none, none] [] σ := h
theorem e_X_plain {d : Nat} {Q : Int → Mem → Prop} {a1 : Int} {σ : Mem} (h :
  (a1 < 0 → wp d m_X_refuse [.inr (.inr 0), .inl 2] σ (fun (r1 : Int) (s2 : Mem) => Q r1 s2)) ∧
  (0 ≤ a1 →
    (1 < a1 → wp d m_X_refuse [.inr (.inr 0), .inl 2] σ (fun (r7 : Int) (s8 : Mem) => Q r7 s8)) ∧
    (a1 ≤ 1 →
      ((σ 7 0) = 0 → wp d m_X_refuse [.inr (.inr 0), .inl 3] σ (fun (r5 : Int) (s6 : Mem) => Q r5 s6)) ∧
      (¬ (σ 7 0) = 0 →
        ((σ 7 10) < 12 →
          (a1 = 0 → K_X_plain_68 d Q a1 1 0 σ) ∧
          (¬ a1 = 0 → K_X_plain_68 d Q a1 (σ 7 1) 0 σ)) ∧
        (12 ≤ (σ 7 10) → wp d m_X_refuse [.inr (.inr 0), .inl 6] σ (fun (r3 : Int) (s4 : Mem) => Q r3 s4)))))) : wp (d + 1) m_X_plain [.inr (.inr 0), .inl a1] σ Q := wp_in rfl (XX_intro (g_X_plain (call := wp d) (cut := XX none (wp d) c_X_plain false Q) (Q := Q) (a1 := a1) (σ := σ) (h)))
theorem g_X_plain_68 {call : Nat → List AV → Mem → (Int → Mem → Prop) → Prop} {cut : Nat → Lo → List AV → Mem → Prop} {Q : Int → Mem → Prop} {x1 : Int} {x2 : Int} {x3 : Int} {σ : Mem} (h :
  (x3 < (σ 7 1) →
    cut 82 [some (.inr (.inr 0)), some (.inl x1), some (.inl x2), some (.inl x3), some (.inl 0)] [] σ) ∧
  ((σ 7 1) ≤ x3 →
    call m_X_keepLook [.inr (.inr 0), .inl x2] σ (fun (r1 : Int) (s2 : Mem) => Q r1 s2))) : seg none call c_X_plain false Q cut 2000 true (toPc 68 c_X_plain) [some (.inr (.inr 0)), some (.inl x1), some (.inl x2), some (.inl x3), none] [] σ := h
theorem e_X_plain_68 {d : Nat} {Q : Int → Mem → Prop} {x1 : Int} {x2 : Int} {x3 : Int} {σ : Mem} (h :
  (x3 < (σ 7 1) → K_X_plain_82 d Q x1 x2 x3 0 σ) ∧
  ((σ 7 1) ≤ x3 →
    wp d m_X_keepLook [.inr (.inr 0), .inl x2] σ (fun (r1 : Int) (s2 : Mem) => Q r1 s2))) : K_X_plain_68 d Q x1 x2 x3 σ := XX_intro (g_X_plain_68 (call := wp d) (cut := XX none (wp d) c_X_plain false Q) (Q := Q) (x1 := x1) (x2 := x2) (x3 := x3) (σ := σ) (h))
theorem g_X_plain_82 {call : Nat → List AV → Mem → (Int → Mem → Prop) → Prop} {cut : Nat → Lo → List AV → Mem → Prop} {Q : Int → Mem → Prop} {x1 : Int} {x2 : Int} {x3 : Int} {x4 : Int} {σ : Mem} (h :
  (x4 < x2 →
    (x1 = 0 →
      call m_S_write [.inr (.inr 7), .inl x3, .inl x4, .inl 60] σ (fun (r1 : Int) (s2 : Mem) =>
      cut 82 [some (.inr (.inr 0)), some (.inl x1), some (.inl x2), some (.inl x3), some (.inl (w32 (x4 + 1)))] [] s2)) ∧
    (¬ x1 = 0 →
      (x4 = x3 →
        call m_S_write [.inr (.inr 7), .inl x3, .inl x4, .inl 60] σ (fun (r5 : Int) (s6 : Mem) =>
        cut 82 [some (.inr (.inr 0)), some (.inl x1), some (.inl x2), some (.inl x3), some (.inl (w32 (x4 + 1)))] [] s6)) ∧
      (¬ x4 = x3 →
        call m_S_write [.inr (.inr 7), .inl x3, .inl x4, .inl 0] σ (fun (r3 : Int) (s4 : Mem) =>
        cut 82 [some (.inr (.inr 0)), some (.inl x1), some (.inl x2), some (.inl x3), some (.inl (w32 (x4 + 1)))] [] s4)))) ∧
  (x2 ≤ x4 →
    cut 68 [some (.inr (.inr 0)), some (.inl x1), some (.inl x2), some (.inl (w32 (x3 + 1))), none] [] σ)) : seg none call c_X_plain false Q cut 2000 true (toPc 82 c_X_plain) [some (.inr (.inr 0)), some (.inl x1), some (.inl x2), some (.inl x3), some (.inl x4)] [] σ := h
theorem e_X_plain_82 {d : Nat} {Q : Int → Mem → Prop} {x1 : Int} {x2 : Int} {x3 : Int} {x4 : Int} {σ : Mem} (h :
  (x4 < x2 →
    (x1 = 0 →
      wp d m_S_write [.inr (.inr 7), .inl x3, .inl x4, .inl 60] σ (fun (r1 : Int) (s2 : Mem) => K_X_plain_82 d Q x1 x2 x3 (w32 (x4 + 1)) s2)) ∧
    (¬ x1 = 0 →
      (x4 = x3 →
        wp d m_S_write [.inr (.inr 7), .inl x3, .inl x4, .inl 60] σ (fun (r5 : Int) (s6 : Mem) => K_X_plain_82 d Q x1 x2 x3 (w32 (x4 + 1)) s6)) ∧
      (¬ x4 = x3 →
        wp d m_S_write [.inr (.inr 7), .inl x3, .inl x4, .inl 0] σ (fun (r3 : Int) (s4 : Mem) => K_X_plain_82 d Q x1 x2 x3 (w32 (x4 + 1)) s4)))) ∧
  (x2 ≤ x4 → K_X_plain_68 d Q x1 x2 (w32 (x3 + 1)) σ)) : K_X_plain_82 d Q x1 x2 x3 x4 σ := XX_intro (g_X_plain_82 (call := wp d) (cut := XX none (wp d) c_X_plain false Q) (Q := Q) (x1 := x1) (x2 := x2) (x3 := x3) (x4 := x4) (σ := σ) (h))
abbrev K_X_bar_61 (d : Nat) (Q : Int → Mem → Prop) (x1 : Int) (x2 : Int) (σ : Mem) : Prop := XX none (wp d) c_X_bar false Q 61 [some (.inr (.inr 0)), some (.inl x1), some (.inl x2)] [] σ
theorem g_X_bar {call : Nat → List AV → Mem → (Int → Mem → Prop) → Prop} {cut : Nat → Lo → List AV → Mem → Prop} {Q : Int → Mem → Prop} {a1 : Int} {σ : Mem} (h :
  ((σ 7 0) = 0 → call m_X_refuse [.inr (.inr 0), .inl 3] σ (fun (r7 : Int) (s8 : Mem) => Q r7 s8)) ∧
  (¬ (σ 7 0) = 0 →
    (a1 < 1 → call m_X_refuse [.inr (.inr 0), .inl 4] σ (fun (r5 : Int) (s6 : Mem) => Q r5 s6)) ∧
    (1 ≤ a1 →
      ((w32 ((σ 7 1) - 1)) < a1 → call m_X_refuse [.inr (.inr 0), .inl 6] σ (fun (r1 : Int) (s2 : Mem) => Q r1 s2)) ∧
      (a1 ≤ (w32 ((σ 7 1) - 1)) →
        ((σ 7 10) < 12 → cut 61 [some (.inr (.inr 0)), some (.inl a1), some (.inl 0)] [] σ) ∧
        (12 ≤ (σ 7 10) → call m_X_refuse [.inr (.inr 0), .inl 6] σ (fun (r3 : Int) (s4 : Mem) => Q r3 s4)))))) : seg none call c_X_bar false Q cut 2000 true (toPc 0 c_X_bar) [some (.inr (.inr 0)), some (.inl a1), none] [] σ := h
theorem e_X_bar {d : Nat} {Q : Int → Mem → Prop} {a1 : Int} {σ : Mem} (h :
  ((σ 7 0) = 0 → wp d m_X_refuse [.inr (.inr 0), .inl 3] σ (fun (r7 : Int) (s8 : Mem) => Q r7 s8)) ∧
  (¬ (σ 7 0) = 0 →
    (a1 < 1 → wp d m_X_refuse [.inr (.inr 0), .inl 4] σ (fun (r5 : Int) (s6 : Mem) => Q r5 s6)) ∧
    (1 ≤ a1 →
      ((w32 ((σ 7 1) - 1)) < a1 → wp d m_X_refuse [.inr (.inr 0), .inl 6] σ (fun (r1 : Int) (s2 : Mem) => Q r1 s2)) ∧
      (a1 ≤ (w32 ((σ 7 1) - 1)) →
        ((σ 7 10) < 12 → K_X_bar_61 d Q a1 0 σ) ∧
        (12 ≤ (σ 7 10) → wp d m_X_refuse [.inr (.inr 0), .inl 6] σ (fun (r3 : Int) (s4 : Mem) => Q r3 s4)))))) : wp (d + 1) m_X_bar [.inr (.inr 0), .inl a1] σ Q := wp_in rfl (XX_intro (g_X_bar (call := wp d) (cut := XX none (wp d) c_X_bar false Q) (Q := Q) (a1 := a1) (σ := σ) (h)))
theorem g_X_bar_61 {call : Nat → List AV → Mem → (Int → Mem → Prop) → Prop} {cut : Nat → Lo → List AV → Mem → Prop} {Q : Int → Mem → Prop} {x1 : Int} {x2 : Int} {σ : Mem} (h :
  (x2 < (σ 7 1) →
    (x2 < x1 →
      call m_S_write [.inr (.inr 7), .inl x2, .inl 0, .inl 60] σ (fun (r9 : Int) (s10 : Mem) =>
      (x2 < x1 →
          call m_S_write [.inr (.inr 7), .inl x2, .inl 1, .inl 0] s10 (fun (r13 : Int) (s14 : Mem) =>
          cut 61 [some (.inr (.inr 0)), some (.inl x1), some (.inl (w32 (x2 + 1)))] [] s14)) ∧
        (x1 ≤ x2 →
          call m_S_write [.inr (.inr 7), .inl x2, .inl 1, .inl 60] s10 (fun (r11 : Int) (s12 : Mem) =>
          cut 61 [some (.inr (.inr 0)), some (.inl x1), some (.inl (w32 (x2 + 1)))] [] s12)))) ∧
    (x1 ≤ x2 →
      call m_S_write [.inr (.inr 7), .inl x2, .inl 0, .inl 0] σ (fun (r3 : Int) (s4 : Mem) =>
      (x2 < x1 →
          call m_S_write [.inr (.inr 7), .inl x2, .inl 1, .inl 0] s4 (fun (r7 : Int) (s8 : Mem) =>
          cut 61 [some (.inr (.inr 0)), some (.inl x1), some (.inl (w32 (x2 + 1)))] [] s8)) ∧
        (x1 ≤ x2 →
          call m_S_write [.inr (.inr 7), .inl x2, .inl 1, .inl 60] s4 (fun (r5 : Int) (s6 : Mem) =>
          cut 61 [some (.inr (.inr 0)), some (.inl x1), some (.inl (w32 (x2 + 1)))] [] s6))))) ∧
  ((σ 7 1) ≤ x2 →
    call m_X_keepLook [.inr (.inr 0), .inl 2] σ (fun (r1 : Int) (s2 : Mem) => Q r1 s2))) : seg none call c_X_bar false Q cut 2000 true (toPc 61 c_X_bar) [some (.inr (.inr 0)), some (.inl x1), some (.inl x2)] [] σ := h
theorem e_X_bar_61 {d : Nat} {Q : Int → Mem → Prop} {x1 : Int} {x2 : Int} {σ : Mem} (h :
  (x2 < (σ 7 1) →
    (x2 < x1 →
      wp d m_S_write [.inr (.inr 7), .inl x2, .inl 0, .inl 60] σ (fun (r9 : Int) (s10 : Mem) =>
      (x2 < x1 →
          wp d m_S_write [.inr (.inr 7), .inl x2, .inl 1, .inl 0] s10 (fun (r13 : Int) (s14 : Mem) => K_X_bar_61 d Q x1 (w32 (x2 + 1)) s14)) ∧
        (x1 ≤ x2 →
          wp d m_S_write [.inr (.inr 7), .inl x2, .inl 1, .inl 60] s10 (fun (r11 : Int) (s12 : Mem) => K_X_bar_61 d Q x1 (w32 (x2 + 1)) s12)))) ∧
    (x1 ≤ x2 →
      wp d m_S_write [.inr (.inr 7), .inl x2, .inl 0, .inl 0] σ (fun (r3 : Int) (s4 : Mem) =>
      (x2 < x1 →
          wp d m_S_write [.inr (.inr 7), .inl x2, .inl 1, .inl 0] s4 (fun (r7 : Int) (s8 : Mem) => K_X_bar_61 d Q x1 (w32 (x2 + 1)) s8)) ∧
        (x1 ≤ x2 →
          wp d m_S_write [.inr (.inr 7), .inl x2, .inl 1, .inl 60] s4 (fun (r5 : Int) (s6 : Mem) => K_X_bar_61 d Q x1 (w32 (x2 + 1)) s6))))) ∧
  ((σ 7 1) ≤ x2 →
    wp d m_X_keepLook [.inr (.inr 0), .inl 2] σ (fun (r1 : Int) (s2 : Mem) => Q r1 s2))) : K_X_bar_61 d Q x1 x2 σ := XX_intro (g_X_bar_61 (call := wp d) (cut := XX none (wp d) c_X_bar false Q) (Q := Q) (x1 := x1) (x2 := x2) (σ := σ) (h))
theorem g_X_mix {call : Nat → List AV → Mem → (Int → Mem → Prop) → Prop} {cut : Nat → Lo → List AV → Mem → Prop} {Q : Int → Mem → Prop} {a1 : Int} {a2 : Int} {a3 : Int} {σ : Mem} (h :
  ((σ 7 0) = 0 →
    call m_X_refuse [.inr (.inr 0), .inl 3] σ (fun (r31 : Int) (s32 : Mem) => Q r31 s32)) ∧
  (¬ (σ 7 0) = 0 →
    call m_S_hasLook [.inr (.inr 7), .inl a1] σ (fun (r1 : Int) (s2 : Mem) =>
    (r1 = 0 →
        call m_X_refuse [.inr (.inr 0), .inl 1] s2 (fun (r3 : Int) (s4 : Mem) => Q r3 s4)) ∧
      (¬ r1 = 0 →
        call m_S_hasLook [.inr (.inr 7), .inl a2] s2 (fun (r5 : Int) (s6 : Mem) =>
        (r5 = 0 →
            call m_X_refuse [.inr (.inr 0), .inl 1] s6 (fun (r29 : Int) (s30 : Mem) => Q r29 s30)) ∧
          (¬ r5 = 0 →
            (a3 < 1 →
              call m_X_refuse [.inr (.inr 0), .inl 4] s6 (fun (r27 : Int) (s28 : Mem) => Q r27 s28)) ∧
            (1 ≤ a3 →
              (0 ≤ a1 ∧ a1 < (12 : Int)) ∧ (0 ≤ a2 ∧ a2 < (12 : Int)) ∧ (11 < a3 →
                call m_X_refuse [.inr (.inr 0), .inl 6] s6 (fun (r7 : Int) (s8 : Mem) => Q r7 s8)) ∧
              (a3 ≤ 11 →
                (6 < (w32 ((s6 13 a1.toNat) + (s6 13 a2.toNat))) →
                  call m_X_refuse [.inr (.inr 0), .inl 6] s6 (fun (r9 : Int) (s10 : Mem) => Q r9 s10)) ∧
                ((w32 ((s6 13 a1.toNat) + (s6 13 a2.toNat))) ≤ 6 →
                  ((s6 7 10) < 12 →
                    call m_S_isWhole [.inr (.inr 7), .inl a1, .inl a3] s6 (fun (r11 : Int) (s12 : Mem) =>
                    (r11 = 0 →
                        call m_X_refuse [.inr (.inr 0), .inl 3] s12 (fun (r13 : Int) (s14 : Mem) => Q r13 s14)) ∧
                      (¬ r11 = 0 →
                        call m_S_isWhole [.inr (.inr 7), .inl a2, .inl (w32 (12 - a3))] s12 (fun (r15 : Int) (s16 : Mem) =>
                        (r15 = 0 →
                            call m_X_refuse [.inr (.inr 0), .inl 3] s16 (fun (r23 : Int) (s24 : Mem) => Q r23 s24)) ∧
                          (¬ r15 = 0 →
                            call m_S_writeShare [.inr (.inr 7), .inl a1, .inl a3, .inl 0] s16 (fun (r17 : Int) (s18 : Mem) =>
                            (0 ≤ a1 ∧ a1 < (12 : Int)) ∧ call m_S_writeShare [.inr (.inr 7), .inl a2, .inl (w32 (12 - a3)), .inl (s18 13 a1.toNat)] s18 (fun (r19 : Int) (s20 : Mem) =>
                              call m_X_keepLook [.inr (.inr 0), .inl (w32 ((s6 13 a1.toNat) + (s6 13 a2.toNat)))] s20 (fun (r21 : Int) (s22 : Mem) => Q r21 s22)))))))) ∧
                  (12 ≤ (s6 7 10) →
                    call m_X_refuse [.inr (.inr 0), .inl 6] s6 (fun (r25 : Int) (s26 : Mem) => Q r25 s26))))))))))) : seg none call c_X_mix false Q cut 2000 true (toPc 0 c_X_mix) [some (.inr (.inr 0)), some (.inl a1), some (.inl a2), some (.inl a3), none] [] σ := h
theorem e_X_mix {d : Nat} {Q : Int → Mem → Prop} {a1 : Int} {a2 : Int} {a3 : Int} {σ : Mem} (h :
  ((σ 7 0) = 0 →
    wp d m_X_refuse [.inr (.inr 0), .inl 3] σ (fun (r31 : Int) (s32 : Mem) => Q r31 s32)) ∧
  (¬ (σ 7 0) = 0 →
    wp d m_S_hasLook [.inr (.inr 7), .inl a1] σ (fun (r1 : Int) (s2 : Mem) =>
    (r1 = 0 →
        wp d m_X_refuse [.inr (.inr 0), .inl 1] s2 (fun (r3 : Int) (s4 : Mem) => Q r3 s4)) ∧
      (¬ r1 = 0 →
        wp d m_S_hasLook [.inr (.inr 7), .inl a2] s2 (fun (r5 : Int) (s6 : Mem) =>
        (r5 = 0 →
            wp d m_X_refuse [.inr (.inr 0), .inl 1] s6 (fun (r29 : Int) (s30 : Mem) => Q r29 s30)) ∧
          (¬ r5 = 0 →
            (a3 < 1 →
              wp d m_X_refuse [.inr (.inr 0), .inl 4] s6 (fun (r27 : Int) (s28 : Mem) => Q r27 s28)) ∧
            (1 ≤ a3 →
              (0 ≤ a1 ∧ a1 < (12 : Int)) ∧ (0 ≤ a2 ∧ a2 < (12 : Int)) ∧ (11 < a3 →
                wp d m_X_refuse [.inr (.inr 0), .inl 6] s6 (fun (r7 : Int) (s8 : Mem) => Q r7 s8)) ∧
              (a3 ≤ 11 →
                (6 < (w32 ((s6 13 a1.toNat) + (s6 13 a2.toNat))) →
                  wp d m_X_refuse [.inr (.inr 0), .inl 6] s6 (fun (r9 : Int) (s10 : Mem) => Q r9 s10)) ∧
                ((w32 ((s6 13 a1.toNat) + (s6 13 a2.toNat))) ≤ 6 →
                  ((s6 7 10) < 12 →
                    wp d m_S_isWhole [.inr (.inr 7), .inl a1, .inl a3] s6 (fun (r11 : Int) (s12 : Mem) =>
                    (r11 = 0 →
                        wp d m_X_refuse [.inr (.inr 0), .inl 3] s12 (fun (r13 : Int) (s14 : Mem) => Q r13 s14)) ∧
                      (¬ r11 = 0 →
                        wp d m_S_isWhole [.inr (.inr 7), .inl a2, .inl (w32 (12 - a3))] s12 (fun (r15 : Int) (s16 : Mem) =>
                        (r15 = 0 →
                            wp d m_X_refuse [.inr (.inr 0), .inl 3] s16 (fun (r23 : Int) (s24 : Mem) => Q r23 s24)) ∧
                          (¬ r15 = 0 →
                            wp d m_S_writeShare [.inr (.inr 7), .inl a1, .inl a3, .inl 0] s16 (fun (r17 : Int) (s18 : Mem) =>
                            (0 ≤ a1 ∧ a1 < (12 : Int)) ∧ wp d m_S_writeShare [.inr (.inr 7), .inl a2, .inl (w32 (12 - a3)), .inl (s18 13 a1.toNat)] s18 (fun (r19 : Int) (s20 : Mem) =>
                              wp d m_X_keepLook [.inr (.inr 0), .inl (w32 ((s6 13 a1.toNat) + (s6 13 a2.toNat)))] s20 (fun (r21 : Int) (s22 : Mem) => Q r21 s22)))))))) ∧
                  (12 ≤ (s6 7 10) →
                    wp d m_X_refuse [.inr (.inr 0), .inl 6] s6 (fun (r25 : Int) (s26 : Mem) => Q r25 s26))))))))))) : wp (d + 1) m_X_mix [.inr (.inr 0), .inl a1, .inl a2, .inl a3] σ Q := wp_in rfl (XX_intro (g_X_mix (call := wp d) (cut := XX none (wp d) c_X_mix false Q) (Q := Q) (a1 := a1) (a2 := a2) (a3 := a3) (σ := σ) (h)))
abbrev K_X_meld_100 (d : Nat) (Q : Int → Mem → Prop) (x1 : Int) (x4 : Int) (x5 : Int) (x6 : Int) (x7 : Int) (σ : Mem) : Prop := XX none (wp d) c_X_meld false Q 100 [some (.inr (.inr 0)), some (.inl x1), none, none, some (.inl x4), some (.inl x5), some (.inl x6), some (.inl x7), none, none] [] σ
abbrev K_X_meld_115 (d : Nat) (Q : Int → Mem → Prop) (x1 : Int) (x4 : Int) (x5 : Int) (x6 : Int) (x7 : Int) (x8 : Int) (σ : Mem) : Prop := XX none (wp d) c_X_meld false Q 115 [some (.inr (.inr 0)), some (.inl x1), none, none, some (.inl x4), some (.inl x5), some (.inl x6), some (.inl x7), some (.inl x8), none] [] σ
theorem g_X_meld {call : Nat → List AV → Mem → (Int → Mem → Prop) → Prop} {cut : Nat → Lo → List AV → Mem → Prop} {Q : Int → Mem → Prop} {a1 : Int} {a2 : Int} {a3 : Int} {σ : Mem} (h :
  ((σ 7 0) = 0 →
    call m_X_refuse [.inr (.inr 0), .inl 3] σ (fun (r13 : Int) (s14 : Mem) => Q r13 s14)) ∧
  (¬ (σ 7 0) = 0 →
    call m_S_hasSign [.inr (.inr 7), .inl a1, .inl a2] σ (fun (r1 : Int) (s2 : Mem) =>
    (r1 = 0 →
        call m_X_refuse [.inr (.inr 0), .inl 1] s2 (fun (r3 : Int) (s4 : Mem) => Q r3 s4)) ∧
      (¬ r1 = 0 →
        call m_S_hasSign [.inr (.inr 7), .inl a1, .inl a3] s2 (fun (r5 : Int) (s6 : Mem) =>
        (r5 = 0 →
            call m_X_refuse [.inr (.inr 0), .inl 1] s6 (fun (r7 : Int) (s8 : Mem) => Q r7 s8)) ∧
          (¬ r5 = 0 →
            (a2 = a3 →
              call m_X_refuse [.inr (.inr 0), .inl 1] s6 (fun (r11 : Int) (s12 : Mem) => Q r11 s12)) ∧
            (¬ a2 = a3 →
              ((s6 7 10) < 12 →
                (0 ≤ a1 ∧ a1 < (12 : Int)) ∧ cut 100 [some (.inr (.inr 0)), some (.inl a1), none, none, some (.inl (min a2 a3)), some (.inl (max a2 a3)), some (.inl (w32 ((s6 13 a1.toNat) - 1))), some (.inl 0), none, none] [] s6) ∧
              (12 ≤ (s6 7 10) →
                call m_X_refuse [.inr (.inr 0), .inl 6] s6 (fun (r9 : Int) (s10 : Mem) => Q r9 s10))))))))) : seg none call c_X_meld false Q cut 2000 true (toPc 0 c_X_meld) [some (.inr (.inr 0)), some (.inl a1), some (.inl a2), some (.inl a3), none, none, none, none, none, none] [] σ := h
theorem e_X_meld {d : Nat} {Q : Int → Mem → Prop} {a1 : Int} {a2 : Int} {a3 : Int} {σ : Mem} (h :
  ((σ 7 0) = 0 →
    wp d m_X_refuse [.inr (.inr 0), .inl 3] σ (fun (r13 : Int) (s14 : Mem) => Q r13 s14)) ∧
  (¬ (σ 7 0) = 0 →
    wp d m_S_hasSign [.inr (.inr 7), .inl a1, .inl a2] σ (fun (r1 : Int) (s2 : Mem) =>
    (r1 = 0 →
        wp d m_X_refuse [.inr (.inr 0), .inl 1] s2 (fun (r3 : Int) (s4 : Mem) => Q r3 s4)) ∧
      (¬ r1 = 0 →
        wp d m_S_hasSign [.inr (.inr 7), .inl a1, .inl a3] s2 (fun (r5 : Int) (s6 : Mem) =>
        (r5 = 0 →
            wp d m_X_refuse [.inr (.inr 0), .inl 1] s6 (fun (r7 : Int) (s8 : Mem) => Q r7 s8)) ∧
          (¬ r5 = 0 →
            (a2 = a3 →
              wp d m_X_refuse [.inr (.inr 0), .inl 1] s6 (fun (r11 : Int) (s12 : Mem) => Q r11 s12)) ∧
            (¬ a2 = a3 →
              ((s6 7 10) < 12 →
                (0 ≤ a1 ∧ a1 < (12 : Int)) ∧ K_X_meld_100 d Q a1 (min a2 a3) (max a2 a3) (w32 ((s6 13 a1.toNat) - 1)) 0 s6) ∧
              (12 ≤ (s6 7 10) →
                wp d m_X_refuse [.inr (.inr 0), .inl 6] s6 (fun (r9 : Int) (s10 : Mem) => Q r9 s10))))))))) : wp (d + 1) m_X_meld [.inr (.inr 0), .inl a1, .inl a2, .inl a3] σ Q := wp_in rfl (XX_intro (g_X_meld (call := wp d) (cut := XX none (wp d) c_X_meld false Q) (Q := Q) (a1 := a1) (a2 := a2) (a3 := a3) (σ := σ) (h)))
theorem g_X_meld_100 {call : Nat → List AV → Mem → (Int → Mem → Prop) → Prop} {cut : Nat → Lo → List AV → Mem → Prop} {Q : Int → Mem → Prop} {x1 : Int} {x4 : Int} {x5 : Int} {x6 : Int} {x7 : Int} {σ : Mem} (h :
  (x7 < (σ 7 1) →
    cut 115 [some (.inr (.inr 0)), some (.inl x1), none, none, some (.inl x4), some (.inl x5), some (.inl x6), some (.inl x7), some (.inl 0), none] [] σ) ∧
  ((σ 7 1) ≤ x7 →
    call m_X_keepLook [.inr (.inr 0), .inl x6] σ (fun (r1 : Int) (s2 : Mem) => Q r1 s2))) : seg none call c_X_meld false Q cut 2000 true (toPc 100 c_X_meld) [some (.inr (.inr 0)), some (.inl x1), none, none, some (.inl x4), some (.inl x5), some (.inl x6), some (.inl x7), none, none] [] σ := h
theorem e_X_meld_100 {d : Nat} {Q : Int → Mem → Prop} {x1 : Int} {x4 : Int} {x5 : Int} {x6 : Int} {x7 : Int} {σ : Mem} (h :
  (x7 < (σ 7 1) → K_X_meld_115 d Q x1 x4 x5 x6 x7 0 σ) ∧
  ((σ 7 1) ≤ x7 →
    wp d m_X_keepLook [.inr (.inr 0), .inl x6] σ (fun (r1 : Int) (s2 : Mem) => Q r1 s2))) : K_X_meld_100 d Q x1 x4 x5 x6 x7 σ := XX_intro (g_X_meld_100 (call := wp d) (cut := XX none (wp d) c_X_meld false Q) (Q := Q) (x1 := x1) (x4 := x4) (x5 := x5) (x6 := x6) (x7 := x7) (σ := σ) (h))
theorem g_X_meld_115 {call : Nat → List AV → Mem → (Int → Mem → Prop) → Prop} {cut : Nat → Lo → List AV → Mem → Prop} {Q : Int → Mem → Prop} {x1 : Int} {x4 : Int} {x5 : Int} {x6 : Int} {x7 : Int} {x8 : Int} {σ : Mem} (h :
  (x8 < x6 →
    (x8 < x5 →
      call m_S_partOf [.inr (.inr 7), .inl x1, .inl x7, .inl x8] σ (fun (r9 : Int) (s10 : Mem) =>
      (x8 = x4 →
          call m_S_partOf [.inr (.inr 7), .inl x1, .inl x7, .inl x5] s10 (fun (r13 : Int) (s14 : Mem) =>
          call m_S_write [.inr (.inr 7), .inl x7, .inl x8, .inl (w32 (r9 + r13))] s14 (fun (r15 : Int) (s16 : Mem) =>
            cut 115 [some (.inr (.inr 0)), some (.inl x1), none, none, some (.inl x4), some (.inl x5), some (.inl x6), some (.inl x7), some (.inl (w32 (x8 + 1))), none] [] s16))) ∧
        (¬ x8 = x4 →
          call m_S_write [.inr (.inr 7), .inl x7, .inl x8, .inl r9] s10 (fun (r11 : Int) (s12 : Mem) =>
          cut 115 [some (.inr (.inr 0)), some (.inl x1), none, none, some (.inl x4), some (.inl x5), some (.inl x6), some (.inl x7), some (.inl (w32 (x8 + 1))), none] [] s12)))) ∧
    (x5 ≤ x8 →
      call m_S_partOf [.inr (.inr 7), .inl x1, .inl x7, .inl (w32 (x8 + 1))] σ (fun (r1 : Int) (s2 : Mem) =>
      (x8 = x4 →
          call m_S_partOf [.inr (.inr 7), .inl x1, .inl x7, .inl x5] s2 (fun (r5 : Int) (s6 : Mem) =>
          call m_S_write [.inr (.inr 7), .inl x7, .inl x8, .inl (w32 (r1 + r5))] s6 (fun (r7 : Int) (s8 : Mem) =>
            cut 115 [some (.inr (.inr 0)), some (.inl x1), none, none, some (.inl x4), some (.inl x5), some (.inl x6), some (.inl x7), some (.inl (w32 (x8 + 1))), none] [] s8))) ∧
        (¬ x8 = x4 →
          call m_S_write [.inr (.inr 7), .inl x7, .inl x8, .inl r1] s2 (fun (r3 : Int) (s4 : Mem) =>
          cut 115 [some (.inr (.inr 0)), some (.inl x1), none, none, some (.inl x4), some (.inl x5), some (.inl x6), some (.inl x7), some (.inl (w32 (x8 + 1))), none] [] s4))))) ∧
  (x6 ≤ x8 →
    cut 100 [some (.inr (.inr 0)), some (.inl x1), none, none, some (.inl x4), some (.inl x5), some (.inl x6), some (.inl (w32 (x7 + 1))), none, none] [] σ)) : seg none call c_X_meld false Q cut 2000 true (toPc 115 c_X_meld) [some (.inr (.inr 0)), some (.inl x1), none, none, some (.inl x4), some (.inl x5), some (.inl x6), some (.inl x7), some (.inl x8), none] [] σ := h
theorem e_X_meld_115 {d : Nat} {Q : Int → Mem → Prop} {x1 : Int} {x4 : Int} {x5 : Int} {x6 : Int} {x7 : Int} {x8 : Int} {σ : Mem} (h :
  (x8 < x6 →
    (x8 < x5 →
      wp d m_S_partOf [.inr (.inr 7), .inl x1, .inl x7, .inl x8] σ (fun (r9 : Int) (s10 : Mem) =>
      (x8 = x4 →
          wp d m_S_partOf [.inr (.inr 7), .inl x1, .inl x7, .inl x5] s10 (fun (r13 : Int) (s14 : Mem) =>
          wp d m_S_write [.inr (.inr 7), .inl x7, .inl x8, .inl (w32 (r9 + r13))] s14 (fun (r15 : Int) (s16 : Mem) => K_X_meld_115 d Q x1 x4 x5 x6 x7 (w32 (x8 + 1)) s16))) ∧
        (¬ x8 = x4 →
          wp d m_S_write [.inr (.inr 7), .inl x7, .inl x8, .inl r9] s10 (fun (r11 : Int) (s12 : Mem) => K_X_meld_115 d Q x1 x4 x5 x6 x7 (w32 (x8 + 1)) s12)))) ∧
    (x5 ≤ x8 →
      wp d m_S_partOf [.inr (.inr 7), .inl x1, .inl x7, .inl (w32 (x8 + 1))] σ (fun (r1 : Int) (s2 : Mem) =>
      (x8 = x4 →
          wp d m_S_partOf [.inr (.inr 7), .inl x1, .inl x7, .inl x5] s2 (fun (r5 : Int) (s6 : Mem) =>
          wp d m_S_write [.inr (.inr 7), .inl x7, .inl x8, .inl (w32 (r1 + r5))] s6 (fun (r7 : Int) (s8 : Mem) => K_X_meld_115 d Q x1 x4 x5 x6 x7 (w32 (x8 + 1)) s8))) ∧
        (¬ x8 = x4 →
          wp d m_S_write [.inr (.inr 7), .inl x7, .inl x8, .inl r1] s2 (fun (r3 : Int) (s4 : Mem) => K_X_meld_115 d Q x1 x4 x5 x6 x7 (w32 (x8 + 1)) s4))))) ∧
  (x6 ≤ x8 → K_X_meld_100 d Q x1 x4 x5 x6 (w32 (x7 + 1)) σ)) : K_X_meld_115 d Q x1 x4 x5 x6 x7 x8 σ := XX_intro (g_X_meld_115 (call := wp d) (cut := XX none (wp d) c_X_meld false Q) (Q := Q) (x1 := x1) (x4 := x4) (x5 := x5) (x6 := x6) (x7 := x7) (x8 := x8) (σ := σ) (h))
theorem g_X_signs {call : Nat → List AV → Mem → (Int → Mem → Prop) → Prop} {cut : Nat → Lo → List AV → Mem → Prop} {Q : Int → Mem → Prop} {a1 : Int} {σ : Mem} (h :
  call m_S_lacksLook [.inr (.inr 7), .inl a1] σ (fun (r1 : Int) (s2 : Mem) =>
  (r1 = 0 → (0 ≤ a1 ∧ a1 < (12 : Int)) ∧ Q (s2 13 a1.toNat) s2) ∧
    (¬ r1 = 0 →
      call m_X_refuse [.inr (.inr 0), .inl r1] s2 (fun (r3 : Int) (s4 : Mem) => Q r3 s4)))) : seg none call c_X_signs false Q cut 2000 true (toPc 0 c_X_signs) [some (.inr (.inr 0)), some (.inl a1), none] [] σ := h
theorem e_X_signs {d : Nat} {Q : Int → Mem → Prop} {a1 : Int} {σ : Mem} (h :
  wp d m_S_lacksLook [.inr (.inr 7), .inl a1] σ (fun (r1 : Int) (s2 : Mem) =>
  (r1 = 0 → (0 ≤ a1 ∧ a1 < (12 : Int)) ∧ Q (s2 13 a1.toNat) s2) ∧
    (¬ r1 = 0 →
      wp d m_X_refuse [.inr (.inr 0), .inl r1] s2 (fun (r3 : Int) (s4 : Mem) => Q r3 s4)))) : wp (d + 1) m_X_signs [.inr (.inr 0), .inl a1] σ Q := wp_in rfl (XX_intro (g_X_signs (call := wp d) (cut := XX none (wp d) c_X_signs false Q) (Q := Q) (a1 := a1) (σ := σ) (h)))
theorem g_X_parts {call : Nat → List AV → Mem → (Int → Mem → Prop) → Prop} {cut : Nat → Lo → List AV → Mem → Prop} {Q : Int → Mem → Prop} {a1 : Int} {a2 : Int} {a3 : Int} {σ : Mem} (h :
  call m_S_lacksSign [.inr (.inr 7), .inl a1, .inl a3, .inl a2] σ (fun (r1 : Int) (s2 : Mem) =>
  (r1 = 0 →
      call m_S_partOf [.inr (.inr 7), .inl a1, .inl a2, .inl a3] s2 (fun (r3 : Int) (s4 : Mem) => Q r3 s4)) ∧
    (¬ r1 = 0 →
      call m_X_refuse [.inr (.inr 0), .inl r1] s2 (fun (r5 : Int) (s6 : Mem) => Q r5 s6)))) : seg none call c_X_parts false Q cut 2000 true (toPc 0 c_X_parts) [some (.inr (.inr 0)), some (.inl a1), some (.inl a2), some (.inl a3), none] [] σ := h
theorem e_X_parts {d : Nat} {Q : Int → Mem → Prop} {a1 : Int} {a2 : Int} {a3 : Int} {σ : Mem} (h :
  wp d m_S_lacksSign [.inr (.inr 7), .inl a1, .inl a3, .inl a2] σ (fun (r1 : Int) (s2 : Mem) =>
  (r1 = 0 →
      wp d m_S_partOf [.inr (.inr 7), .inl a1, .inl a2, .inl a3] s2 (fun (r3 : Int) (s4 : Mem) => Q r3 s4)) ∧
    (¬ r1 = 0 →
      wp d m_X_refuse [.inr (.inr 0), .inl r1] s2 (fun (r5 : Int) (s6 : Mem) => Q r5 s6)))) : wp (d + 1) m_X_parts [.inr (.inr 0), .inl a1, .inl a2, .inl a3] σ Q := wp_in rfl (XX_intro (g_X_parts (call := wp d) (cut := XX none (wp d) c_X_parts false Q) (Q := Q) (a1 := a1) (a2 := a2) (a3 := a3) (σ := σ) (h)))
theorem g_X_leaves {call : Nat → List AV → Mem → (Int → Mem → Prop) → Prop} {cut : Nat → Lo → List AV → Mem → Prop} {Q : Int → Mem → Prop} {a1 : Int} {a2 : Int} {a3 : Int} {σ : Mem} (h :
  call m_S_lacksSign [.inr (.inr 7), .inl a1, .inl a2, .inl a3] σ (fun (r1 : Int) (s2 : Mem) =>
  (r1 = 0 →
      call m_B_seeOne [.inr (.inr 35), .inl a1, .inl a2] s2 (fun (r3 : Int) (s4 : Mem) =>
      (r3 = 0 → Q (-9) s4) ∧
        (¬ r3 = 0 →
          call m_B_leastTerm [.inr (.inr 35), .inl 1, .inl a3] s4 (fun (r5 : Int) (s6 : Mem) => Q (w32 r5) s6)))) ∧
    (¬ r1 = 0 →
      call m_X_refuse [.inr (.inr 0), .inl r1] s2 (fun (r7 : Int) (s8 : Mem) => Q r7 s8)))) : seg none call c_X_leaves false Q cut 2000 true (toPc 0 c_X_leaves) [some (.inr (.inr 0)), some (.inl a1), some (.inl a2), some (.inl a3), none] [] σ := h
theorem e_X_leaves {d : Nat} {Q : Int → Mem → Prop} {a1 : Int} {a2 : Int} {a3 : Int} {σ : Mem} (h :
  wp d m_S_lacksSign [.inr (.inr 7), .inl a1, .inl a2, .inl a3] σ (fun (r1 : Int) (s2 : Mem) =>
  (r1 = 0 →
      wp d m_B_seeOne [.inr (.inr 35), .inl a1, .inl a2] s2 (fun (r3 : Int) (s4 : Mem) =>
      (r3 = 0 → Q (-9) s4) ∧
        (¬ r3 = 0 →
          wp d m_B_leastTerm [.inr (.inr 35), .inl 1, .inl a3] s4 (fun (r5 : Int) (s6 : Mem) => Q (w32 r5) s6)))) ∧
    (¬ r1 = 0 →
      wp d m_X_refuse [.inr (.inr 0), .inl r1] s2 (fun (r7 : Int) (s8 : Mem) => Q r7 s8)))) : wp (d + 1) m_X_leaves [.inr (.inr 0), .inl a1, .inl a2, .inl a3] σ Q := wp_in rfl (XX_intro (g_X_leaves (call := wp d) (cut := XX none (wp d) c_X_leaves false Q) (Q := Q) (a1 := a1) (a2 := a2) (a3 := a3) (σ := σ) (h)))
theorem g_X_does {call : Nat → List AV → Mem → (Int → Mem → Prop) → Prop} {cut : Nat → Lo → List AV → Mem → Prop} {Q : Int → Mem → Prop} {a1 : Int} {a2 : Int} {σ : Mem} (h :
  call m_S_lacksSign [.inr (.inr 7), .inl a1, .inl a2, .inl 0] σ (fun (r1 : Int) (s2 : Mem) =>
  (r1 = 0 →
      call m_B_seeOne [.inr (.inr 35), .inl a1, .inl a2] s2 (fun (r3 : Int) (s4 : Mem) =>
      (r3 = 0 → Q (-9) s4) ∧
        (¬ r3 = 0 →
          call m_B_choose [.inr (.inr 35), .inl 1, .inr (.inr 10)] s4 (fun (r5 : Int) (s6 : Mem) => Q r5 s6)))) ∧
    (¬ r1 = 0 →
      call m_X_refuse [.inr (.inr 0), .inl r1] s2 (fun (r7 : Int) (s8 : Mem) => Q r7 s8)))) : seg none call c_X_does false Q cut 2000 true (toPc 0 c_X_does) [some (.inr (.inr 0)), some (.inl a1), some (.inl a2), none] [] σ := h
theorem e_X_does {d : Nat} {Q : Int → Mem → Prop} {a1 : Int} {a2 : Int} {σ : Mem} (h :
  wp d m_S_lacksSign [.inr (.inr 7), .inl a1, .inl a2, .inl 0] σ (fun (r1 : Int) (s2 : Mem) =>
  (r1 = 0 →
      wp d m_B_seeOne [.inr (.inr 35), .inl a1, .inl a2] s2 (fun (r3 : Int) (s4 : Mem) =>
      (r3 = 0 → Q (-9) s4) ∧
        (¬ r3 = 0 →
          wp d m_B_choose [.inr (.inr 35), .inl 1, .inr (.inr 10)] s4 (fun (r5 : Int) (s6 : Mem) => Q r5 s6)))) ∧
    (¬ r1 = 0 →
      wp d m_X_refuse [.inr (.inr 0), .inl r1] s2 (fun (r7 : Int) (s8 : Mem) => Q r7 s8)))) : wp (d + 1) m_X_does [.inr (.inr 0), .inl a1, .inl a2] σ Q := wp_in rfl (XX_intro (g_X_does (call := wp d) (cut := XX none (wp d) c_X_does false Q) (Q := Q) (a1 := a1) (a2 := a2) (σ := σ) (h)))
theorem g_X_worth {call : Nat → List AV → Mem → (Int → Mem → Prop) → Prop} {cut : Nat → Lo → List AV → Mem → Prop} {Q : Int → Mem → Prop} {a1 : Int} {a2 : Int} {a3 : Int} {σ : Mem} (h :
  call m_X_isPart [.inl a3] σ (fun (r1 : Int) (s2 : Mem) =>
  (r1 = 0 →
      ((2 : Int) = 0 →
        call m_B_attendOnly [.inr (.inr 35), .inl a1] s2 (fun (r3 : Int) (s4 : Mem) =>
        call m_S_pay [.inr (.inr 7), .inl a2] s4 (fun (r5 : Int) (s6 : Mem) =>
          call m_B_brings [.inr (.inr 35), .inr (.inr 10), .inr (.inr r5.toNat)] s6 (fun (r7 : Int) (s8 : Mem) =>
            call m_B_unit [.inr (.inr 35)] s8 (fun (r9 : Int) (s10 : Mem) =>
              call m_X_tell [.inr (.inl r7), .inr (.inl r9), .inl a3] s10 (fun (r11 : Int) (s12 : Mem) => Q r11 s12)))))) ∧
      (¬ (2 : Int) = 0 →
        call m_X_refuseFar [.inr (.inr 0), .inl 2] s2 (fun (r13 : Int) (s14 : Mem) => Q r13 s14))) ∧
    (¬ r1 = 0 →
      call m_S_lacksLook [.inr (.inr 7), .inl a1] s2 (fun (r15 : Int) (s16 : Mem) =>
      (r15 = 0 →
          call m_B_attendOnly [.inr (.inr 35), .inl a1] s16 (fun (r17 : Int) (s18 : Mem) =>
          call m_S_pay [.inr (.inr 7), .inl a2] s18 (fun (r19 : Int) (s20 : Mem) =>
            call m_B_brings [.inr (.inr 35), .inr (.inr 10), .inr (.inr r19.toNat)] s20 (fun (r21 : Int) (s22 : Mem) =>
              call m_B_unit [.inr (.inr 35)] s22 (fun (r23 : Int) (s24 : Mem) =>
                call m_X_tell [.inr (.inl r21), .inr (.inl r23), .inl a3] s24 (fun (r25 : Int) (s26 : Mem) => Q r25 s26)))))) ∧
        (¬ r15 = 0 →
          call m_X_refuseFar [.inr (.inr 0), .inl r15] s16 (fun (r27 : Int) (s28 : Mem) => Q r27 s28)))))) : seg none call c_X_worth false Q cut 2000 true (toPc 0 c_X_worth) [some (.inr (.inr 0)), some (.inl a1), some (.inl a2), some (.inl a3), none] [] σ := h
theorem e_X_worth {d : Nat} {Q : Int → Mem → Prop} {a1 : Int} {a2 : Int} {a3 : Int} {σ : Mem} (h :
  wp d m_X_isPart [.inl a3] σ (fun (r1 : Int) (s2 : Mem) =>
  (r1 = 0 →
      wp d m_X_refuseFar [.inr (.inr 0), .inl 2] s2 (fun (r13 : Int) (s14 : Mem) => Q r13 s14)) ∧
    (¬ r1 = 0 →
      wp d m_S_lacksLook [.inr (.inr 7), .inl a1] s2 (fun (r15 : Int) (s16 : Mem) =>
      (r15 = 0 →
          wp d m_B_attendOnly [.inr (.inr 35), .inl a1] s16 (fun (r17 : Int) (s18 : Mem) =>
          wp d m_S_pay [.inr (.inr 7), .inl a2] s18 (fun (r19 : Int) (s20 : Mem) =>
            wp d m_B_brings [.inr (.inr 35), .inr (.inr 10), .inr (.inr r19.toNat)] s20 (fun (r21 : Int) (s22 : Mem) =>
              wp d m_B_unit [.inr (.inr 35)] s22 (fun (r23 : Int) (s24 : Mem) =>
                wp d m_X_tell [.inr (.inl r21), .inr (.inl r23), .inl a3] s24 (fun (r25 : Int) (s26 : Mem) => Q r25 s26)))))) ∧
        (¬ r15 = 0 →
          wp d m_X_refuseFar [.inr (.inr 0), .inl r15] s16 (fun (r27 : Int) (s28 : Mem) => Q r27 s28)))))) : wp (d + 1) m_X_worth [.inr (.inr 0), .inl a1, .inl a2, .inl a3] σ Q := wp_in rfl (XX_intro (g_X_worth (call := wp d) (cut := XX none (wp d) c_X_worth false Q) (Q := Q) (a1 := a1) (a2 := a2) (a3 := a3) (σ := σ) (wp_conseq (fun _ _ z3 => ⟨fun z2 => ⟨fun z1 => absurd z1 (by decide), fun _ => ((z3).1 z2)⟩, fun z2 => (z3).2 z2⟩) (h))))
theorem g_X_harm {call : Nat → List AV → Mem → (Int → Mem → Prop) → Prop} {cut : Nat → Lo → List AV → Mem → Prop} {Q : Int → Mem → Prop} {a1 : Int} {a2 : Int} {σ : Mem} (h :
  call m_X_isPart [.inl a2] σ (fun (r1 : Int) (s2 : Mem) =>
  (r1 = 0 →
      ((2 : Int) = 0 →
        call m_B_attendNone [.inr (.inr 35)] s2 (fun (r3 : Int) (s4 : Mem) =>
        call m_B_brings [.inr (.inr 35), .inr (.inr 10), .inr (.inr 10)] s4 (fun (r5 : Int) (s6 : Mem) =>
          call m_B_attendOnly [.inr (.inr 35), .inl a1] s6 (fun (r7 : Int) (s8 : Mem) =>
            call m_B_brings [.inr (.inr 35), .inr (.inr 10), .inr (.inr 10)] s8 (fun (r9 : Int) (s10 : Mem) =>
              call m_B_unit [.inr (.inr 35)] s10 (fun (r11 : Int) (s12 : Mem) =>
                call m_X_tell [.inr (.inl (w64 (r5 - r9))), .inr (.inl r11), .inl a2] s12 (fun (r13 : Int) (s14 : Mem) => Q r13 s14))))))) ∧
      (¬ (2 : Int) = 0 →
        call m_X_refuseFar [.inr (.inr 0), .inl 2] s2 (fun (r15 : Int) (s16 : Mem) => Q r15 s16))) ∧
    (¬ r1 = 0 →
      call m_S_lacksLook [.inr (.inr 7), .inl a1] s2 (fun (r17 : Int) (s18 : Mem) =>
      (r17 = 0 →
          call m_B_attendNone [.inr (.inr 35)] s18 (fun (r19 : Int) (s20 : Mem) =>
          call m_B_brings [.inr (.inr 35), .inr (.inr 10), .inr (.inr 10)] s20 (fun (r21 : Int) (s22 : Mem) =>
            call m_B_attendOnly [.inr (.inr 35), .inl a1] s22 (fun (r23 : Int) (s24 : Mem) =>
              call m_B_brings [.inr (.inr 35), .inr (.inr 10), .inr (.inr 10)] s24 (fun (r25 : Int) (s26 : Mem) =>
                call m_B_unit [.inr (.inr 35)] s26 (fun (r27 : Int) (s28 : Mem) =>
                  call m_X_tell [.inr (.inl (w64 (r21 - r25))), .inr (.inl r27), .inl a2] s28 (fun (r29 : Int) (s30 : Mem) => Q r29 s30))))))) ∧
        (¬ r17 = 0 →
          call m_X_refuseFar [.inr (.inr 0), .inl r17] s18 (fun (r31 : Int) (s32 : Mem) => Q r31 s32)))))) : seg none call c_X_harm false Q cut 2000 true (toPc 0 c_X_harm) [some (.inr (.inr 0)), some (.inl a1), some (.inl a2), none, none, none] [] σ := h
theorem e_X_harm {d : Nat} {Q : Int → Mem → Prop} {a1 : Int} {a2 : Int} {σ : Mem} (h :
  wp d m_X_isPart [.inl a2] σ (fun (r1 : Int) (s2 : Mem) =>
  (r1 = 0 →
      wp d m_X_refuseFar [.inr (.inr 0), .inl 2] s2 (fun (r15 : Int) (s16 : Mem) => Q r15 s16)) ∧
    (¬ r1 = 0 →
      wp d m_S_lacksLook [.inr (.inr 7), .inl a1] s2 (fun (r17 : Int) (s18 : Mem) =>
      (r17 = 0 →
          wp d m_B_attendNone [.inr (.inr 35)] s18 (fun (r19 : Int) (s20 : Mem) =>
          wp d m_B_brings [.inr (.inr 35), .inr (.inr 10), .inr (.inr 10)] s20 (fun (r21 : Int) (s22 : Mem) =>
            wp d m_B_attendOnly [.inr (.inr 35), .inl a1] s22 (fun (r23 : Int) (s24 : Mem) =>
              wp d m_B_brings [.inr (.inr 35), .inr (.inr 10), .inr (.inr 10)] s24 (fun (r25 : Int) (s26 : Mem) =>
                wp d m_B_unit [.inr (.inr 35)] s26 (fun (r27 : Int) (s28 : Mem) =>
                  wp d m_X_tell [.inr (.inl (w64 (r21 - r25))), .inr (.inl r27), .inl a2] s28 (fun (r29 : Int) (s30 : Mem) => Q r29 s30))))))) ∧
        (¬ r17 = 0 →
          wp d m_X_refuseFar [.inr (.inr 0), .inl r17] s18 (fun (r31 : Int) (s32 : Mem) => Q r31 s32)))))) : wp (d + 1) m_X_harm [.inr (.inr 0), .inl a1, .inl a2] σ Q := wp_in rfl (XX_intro (g_X_harm (call := wp d) (cut := XX none (wp d) c_X_harm false Q) (Q := Q) (a1 := a1) (a2 := a2) (σ := σ) (wp_conseq (fun _ _ z3 => ⟨fun z2 => ⟨fun z1 => absurd z1 (by decide), fun _ => ((z3).1 z2)⟩, fun z2 => (z3).2 z2⟩) (h))))
abbrev K_X_think_37 (d : Nat) (Q : Int → Mem → Prop) (x1 : Int) (x2 : Int) (x3 : Int) (x4 : Int) (x5 : Int) (σ : Mem) : Prop := XX none (wp d) c_X_think false Q 37 [some (.inr (.inr 0)), some (.inl x1), some (.inl x2), some (.inl x3), some (.inl x4), some (.inl x5), none] [] σ
abbrev K_X_think_38 (d : Nat) (Q : Int → Mem → Prop) (x1 : Int) (x2 : Int) (x3 : Int) (x4 : Int) (x5 : Int) (y0 : Int) (σ : Mem) : Prop := XX none (wp d) c_X_think false Q 38 [some (.inr (.inr 0)), some (.inl x1), some (.inl x2), some (.inl x3), some (.inl x4), some (.inl x5), none] [.inl y0] σ
abbrev K_X_think_68 (d : Nat) (Q : Int → Mem → Prop)  (σ : Mem) : Prop := XX none (wp d) c_X_think false Q 68 [some (.inr (.inr 0)), none, none, none, none, none, none] [] σ
abbrev K_X_think_100 (d : Nat) (Q : Int → Mem → Prop)  (σ : Mem) : Prop := XX none (wp d) c_X_think false Q 100 [some (.inr (.inr 0)), none, none, none, none, none, none] [] σ
abbrev K_X_think_132 (d : Nat) (Q : Int → Mem → Prop)  (σ : Mem) : Prop := XX none (wp d) c_X_think false Q 132 [some (.inr (.inr 0)), none, none, none, none, none, none] [] σ
theorem g_X_think {call : Nat → List AV → Mem → (Int → Mem → Prop) → Prop} {cut : Nat → Lo → List AV → Mem → Prop} {Q : Int → Mem → Prop} {a1 : Int} {a2 : Int} {a3 : Int} {a4 : Int} {a5 : Int} {σ : Mem} (h :
  ((σ 7 0) = 0 → call m_X_refuse [.inr (.inr 0), .inl 3] σ (fun (r1 : Int) (s2 : Mem) => Q r1 s2)) ∧
  (¬ (σ 7 0) = 0 →
    (a1 = 0 →
      (a2 = 0 →
        (a3 = 0 →
          (a4 = 0 →
            cut 38 [some (.inr (.inr 0)), some (.inl a1), some (.inl a2), some (.inl a3), some (.inl a4), some (.inl a5), none] [.inl 1] σ) ∧
          (¬ a4 = 0 →
            cut 37 [some (.inr (.inr 0)), some (.inl a1), some (.inl a2), some (.inl a3), some (.inl a4), some (.inl a5), none] [] σ)) ∧
        (¬ a3 = 0 →
          cut 37 [some (.inr (.inr 0)), some (.inl a1), some (.inl a2), some (.inl a3), some (.inl a4), some (.inl a5), none] [] σ)) ∧
      (¬ a2 = 0 →
        cut 37 [some (.inr (.inr 0)), some (.inl a1), some (.inl a2), some (.inl a3), some (.inl a4), some (.inl a5), none] [] σ)) ∧
    (¬ a1 = 0 →
      cut 37 [some (.inr (.inr 0)), some (.inl a1), some (.inl a2), some (.inl a3), some (.inl a4), some (.inl a5), none] [] σ))) : seg none call c_X_think false Q cut 2000 true (toPc 0 c_X_think) [some (.inr (.inr 0)), some (.inl a1), some (.inl a2), some (.inl a3), some (.inl a4), some (.inl a5), none] [] σ := h
theorem e_X_think {d : Nat} {Q : Int → Mem → Prop} {a1 : Int} {a2 : Int} {a3 : Int} {a4 : Int} {a5 : Int} {σ : Mem} (h :
  ((σ 7 0) = 0 → wp d m_X_refuse [.inr (.inr 0), .inl 3] σ (fun (r1 : Int) (s2 : Mem) => Q r1 s2)) ∧
  (¬ (σ 7 0) = 0 →
    (a1 = 0 →
      (a2 = 0 →
        (a3 = 0 →
          (a4 = 0 → K_X_think_38 d Q a1 a2 a3 a4 a5 1 σ) ∧
          (¬ a4 = 0 → K_X_think_37 d Q a1 a2 a3 a4 a5 σ)) ∧
        (¬ a3 = 0 → K_X_think_37 d Q a1 a2 a3 a4 a5 σ)) ∧
      (¬ a2 = 0 → K_X_think_37 d Q a1 a2 a3 a4 a5 σ)) ∧
    (¬ a1 = 0 → K_X_think_37 d Q a1 a2 a3 a4 a5 σ))) : wp (d + 1) m_X_think [.inr (.inr 0), .inl a1, .inl a2, .inl a3, .inl a4, .inl a5] σ Q := wp_in rfl (XX_intro (g_X_think (call := wp d) (cut := XX none (wp d) c_X_think false Q) (Q := Q) (a1 := a1) (a2 := a2) (a3 := a3) (a4 := a4) (a5 := a5) (σ := σ) (h)))
theorem g_X_think_37 {call : Nat → List AV → Mem → (Int → Mem → Prop) → Prop} {cut : Nat → Lo → List AV → Mem → Prop} {Q : Int → Mem → Prop} {x1 : Int} {x2 : Int} {x3 : Int} {x4 : Int} {x5 : Int} {σ : Mem} (h :
  cut 38 [some (.inr (.inr 0)), some (.inl x1), some (.inl x2), some (.inl x3), some (.inl x4), some (.inl x5), none] [.inl 0] σ) : seg none call c_X_think false Q cut 2000 true (toPc 37 c_X_think) [some (.inr (.inr 0)), some (.inl x1), some (.inl x2), some (.inl x3), some (.inl x4), some (.inl x5), none] [] σ := h
theorem e_X_think_37 {d : Nat} {Q : Int → Mem → Prop} {x1 : Int} {x2 : Int} {x3 : Int} {x4 : Int} {x5 : Int} {σ : Mem} (h :
  K_X_think_38 d Q x1 x2 x3 x4 x5 0 σ) : K_X_think_37 d Q x1 x2 x3 x4 x5 σ := XX_intro (g_X_think_37 (call := wp d) (cut := XX none (wp d) c_X_think false Q) (Q := Q) (x1 := x1) (x2 := x2) (x3 := x3) (x4 := x4) (x5 := x5) (σ := σ) (h))
theorem g_X_think_38 {call : Nat → List AV → Mem → (Int → Mem → Prop) → Prop} {cut : Nat → Lo → List AV → Mem → Prop} {Q : Int → Mem → Prop} {x1 : Int} {x2 : Int} {x3 : Int} {x4 : Int} {x5 : Int} {y0 : Int} {σ : Mem} (h :
  (y0 = 0 →
    (x5 < 1 → cut 68 [some (.inr (.inr 0)), none, none, none, none, none, none] [] σ) ∧
    (1 ≤ x5 →
      ((min (min x1 x2) (min x3 x4)) < 0 → cut 68 [some (.inr (.inr 0)), none, none, none, none, none, none] [] σ) ∧
      (0 ≤ (min (min x1 x2) (min x3 x4)) →
        (99 < x5 → cut 100 [some (.inr (.inr 0)), none, none, none, none, none, none] [] σ) ∧
        (x5 ≤ 99 →
          (99 < (max (max x1 x2) (max x3 x4)) → cut 100 [some (.inr (.inr 0)), none, none, none, none, none, none] [] σ) ∧
          ((max (max x1 x2) (max x3 x4)) ≤ 99 →
            call m_S_thoughtFits [.inr (.inr 7), .inl x2, .inl x3, .inl x4] σ (fun (r1 : Int) (s2 : Mem) =>
            (r1 = 0 → cut 132 [some (.inr (.inr 0)), none, none, none, none, none, none] [] s2) ∧
              (¬ r1 = 0 →
                ((s2 7 16) < 4 →
                  call m_S_keepThought [.inr (.inr 7), .inl x1, .inl x2, .inl x3, .inl x4, .inl x5] s2 (fun (r3 : Int) (s4 : Mem) => Q (s4 7 16) s4)) ∧
                (4 ≤ (s2 7 16) → cut 132 [some (.inr (.inr 0)), none, none, none, none, none, none] [] s2)))))))) ∧
  (¬ y0 = 0 → cut 68 [some (.inr (.inr 0)), none, none, none, none, none, none] [] σ)) : seg none call c_X_think false Q cut 2000 true (toPc 38 c_X_think) [some (.inr (.inr 0)), some (.inl x1), some (.inl x2), some (.inl x3), some (.inl x4), some (.inl x5), none] [.inl y0] σ := h
theorem e_X_think_38 {d : Nat} {Q : Int → Mem → Prop} {x1 : Int} {x2 : Int} {x3 : Int} {x4 : Int} {x5 : Int} {y0 : Int} {σ : Mem} (h :
  (y0 = 0 →
    (x5 < 1 → K_X_think_68 d Q  σ) ∧
    (1 ≤ x5 →
      ((min (min x1 x2) (min x3 x4)) < 0 → K_X_think_68 d Q  σ) ∧
      (0 ≤ (min (min x1 x2) (min x3 x4)) →
        (99 < x5 → K_X_think_100 d Q  σ) ∧
        (x5 ≤ 99 →
          (99 < (max (max x1 x2) (max x3 x4)) → K_X_think_100 d Q  σ) ∧
          ((max (max x1 x2) (max x3 x4)) ≤ 99 →
            wp d m_S_thoughtFits [.inr (.inr 7), .inl x2, .inl x3, .inl x4] σ (fun (r1 : Int) (s2 : Mem) =>
            (r1 = 0 → K_X_think_132 d Q  s2) ∧
              (¬ r1 = 0 →
                ((s2 7 16) < 4 →
                  wp d m_S_keepThought [.inr (.inr 7), .inl x1, .inl x2, .inl x3, .inl x4, .inl x5] s2 (fun (r3 : Int) (s4 : Mem) => Q (s4 7 16) s4)) ∧
                (4 ≤ (s2 7 16) → K_X_think_132 d Q  s2)))))))) ∧
  (¬ y0 = 0 → K_X_think_68 d Q  σ)) : K_X_think_38 d Q x1 x2 x3 x4 x5 y0 σ := XX_intro (g_X_think_38 (call := wp d) (cut := XX none (wp d) c_X_think false Q) (Q := Q) (x1 := x1) (x2 := x2) (x3 := x3) (x4 := x4) (x5 := x5) (y0 := y0) (σ := σ) (h))
theorem g_X_think_68 {call : Nat → List AV → Mem → (Int → Mem → Prop) → Prop} {cut : Nat → Lo → List AV → Mem → Prop} {Q : Int → Mem → Prop}  {σ : Mem} (h :
  call m_X_refuse [.inr (.inr 0), .inl 4] σ (fun (r1 : Int) (s2 : Mem) => Q r1 s2)) : seg none call c_X_think false Q cut 2000 true (toPc 68 c_X_think) [some (.inr (.inr 0)), none, none, none, none, none, none] [] σ := h
theorem e_X_think_68 {d : Nat} {Q : Int → Mem → Prop}  {σ : Mem} (h :
  wp d m_X_refuse [.inr (.inr 0), .inl 4] σ (fun (r1 : Int) (s2 : Mem) => Q r1 s2)) : K_X_think_68 d Q  σ := XX_intro (g_X_think_68 (call := wp d) (cut := XX none (wp d) c_X_think false Q) (Q := Q)  (σ := σ) (h))
theorem g_X_think_100 {call : Nat → List AV → Mem → (Int → Mem → Prop) → Prop} {cut : Nat → Lo → List AV → Mem → Prop} {Q : Int → Mem → Prop}  {σ : Mem} (h :
  call m_X_refuse [.inr (.inr 0), .inl 6] σ (fun (r1 : Int) (s2 : Mem) => Q r1 s2)) : seg none call c_X_think false Q cut 2000 true (toPc 100 c_X_think) [some (.inr (.inr 0)), none, none, none, none, none, none] [] σ := h
theorem e_X_think_100 {d : Nat} {Q : Int → Mem → Prop}  {σ : Mem} (h :
  wp d m_X_refuse [.inr (.inr 0), .inl 6] σ (fun (r1 : Int) (s2 : Mem) => Q r1 s2)) : K_X_think_100 d Q  σ := XX_intro (g_X_think_100 (call := wp d) (cut := XX none (wp d) c_X_think false Q) (Q := Q)  (σ := σ) (h))
theorem g_X_think_132 {call : Nat → List AV → Mem → (Int → Mem → Prop) → Prop} {cut : Nat → Lo → List AV → Mem → Prop} {Q : Int → Mem → Prop}  {σ : Mem} (h :
  call m_X_refuse [.inr (.inr 0), .inl 6] σ (fun (r1 : Int) (s2 : Mem) => Q r1 s2)) : seg none call c_X_think false Q cut 2000 true (toPc 132 c_X_think) [some (.inr (.inr 0)), none, none, none, none, none, none] [] σ := h
theorem e_X_think_132 {d : Nat} {Q : Int → Mem → Prop}  {σ : Mem} (h :
  wp d m_X_refuse [.inr (.inr 0), .inl 6] σ (fun (r1 : Int) (s2 : Mem) => Q r1 s2)) : K_X_think_132 d Q  σ := XX_intro (g_X_think_132 (call := wp d) (cut := XX none (wp d) c_X_think false Q) (Q := Q)  (σ := σ) (h))
theorem g_X_forget {call : Nat → List AV → Mem → (Int → Mem → Prop) → Prop} {cut : Nat → Lo → List AV → Mem → Prop} {Q : Int → Mem → Prop}  {σ : Mem} (h :
  Q (σ 7 16) (mset σ 7 16 0)) : seg none call c_X_forget false Q cut 2000 true (toPc 0 c_X_forget) [some (.inr (.inr 0)), none] [] σ := h
theorem e_X_forget {d : Nat} {Q : Int → Mem → Prop}  {σ : Mem} (h :
  Q (σ 7 16) (mset σ 7 16 0)) : wp (d + 1) m_X_forget [.inr (.inr 0)] σ Q := wp_in rfl (XX_intro (g_X_forget (call := wp d) (cut := XX none (wp d) c_X_forget false Q) (Q := Q)  (σ := σ) (h)))
theorem g_X_made {call : Nat → List AV → Mem → (Int → Mem → Prop) → Prop} {cut : Nat → Lo → List AV → Mem → Prop} {Q : Int → Mem → Prop}  {σ : Mem} (h :
  ((σ 7 0) = 0 → call m_X_refuse [.inr (.inr 0), .inl 3] σ (fun (r1 : Int) (s2 : Mem) => Q r1 s2)) ∧
  (¬ (σ 7 0) = 0 →
    ((σ 7 16) = 0 → call m_X_refuse [.inr (.inr 0), .inl 3] σ (fun (r5 : Int) (s6 : Mem) => Q r5 s6)) ∧
    (¬ (σ 7 16) = 0 → call m_S_firstOff [.inr (.inr 7)] σ (fun (r3 : Int) (s4 : Mem) => Q r3 s4)))) : seg none call c_X_made false Q cut 2000 true (toPc 0 c_X_made) [some (.inr (.inr 0))] [] σ := h
theorem e_X_made {d : Nat} {Q : Int → Mem → Prop}  {σ : Mem} (h :
  ((σ 7 0) = 0 → wp d m_X_refuse [.inr (.inr 0), .inl 3] σ (fun (r1 : Int) (s2 : Mem) => Q r1 s2)) ∧
  (¬ (σ 7 0) = 0 →
    ((σ 7 16) = 0 → wp d m_X_refuse [.inr (.inr 0), .inl 3] σ (fun (r5 : Int) (s6 : Mem) => Q r5 s6)) ∧
    (¬ (σ 7 16) = 0 → wp d m_S_firstOff [.inr (.inr 7)] σ (fun (r3 : Int) (s4 : Mem) => Q r3 s4)))) : wp (d + 1) m_X_made [.inr (.inr 0)] σ Q := wp_in rfl (XX_intro (g_X_made (call := wp d) (cut := XX none (wp d) c_X_made false Q) (Q := Q)  (σ := σ) (h)))
theorem g_X_chance {call : Nat → List AV → Mem → (Int → Mem → Prop) → Prop} {cut : Nat → Lo → List AV → Mem → Prop} {Q : Int → Mem → Prop} {a1 : Int} {a2 : Int} {a3 : Int} {σ : Mem} (h :
  call m_X_isPart [.inl a3] σ (fun (r1 : Int) (s2 : Mem) =>
  (r1 = 0 →
      call m_X_refuseFar [.inr (.inr 0), .inl 2] s2 (fun (r25 : Int) (s26 : Mem) => Q r25 s26)) ∧
    (¬ r1 = 0 →
      ((s2 7 0) = 0 →
        call m_X_refuseFar [.inr (.inr 0), .inl 3] s2 (fun (r3 : Int) (s4 : Mem) => Q r3 s4)) ∧
      (¬ (s2 7 0) = 0 →
        ((s2 7 16) = 0 →
          call m_X_refuseFar [.inr (.inr 0), .inl 3] s2 (fun (r5 : Int) (s6 : Mem) => Q r5 s6)) ∧
        (¬ (s2 7 16) = 0 →
          call m_S_firstOff [.inr (.inr 7)] s2 (fun (r7 : Int) (s8 : Mem) =>
          (r7 = (-9) →
              (a1 < 0 →
                call m_X_refuseFar [.inr (.inr 0), .inl 1] s8 (fun (r9 : Int) (s10 : Mem) => Q r9 s10)) ∧
              (0 ≤ a1 →
                (a1 < (s8 7 16) →
                  call m_S_hasTruth [.inr (.inr 7), .inl a2] s8 (fun (r13 : Int) (s14 : Mem) =>
                  (r13 = 0 →
                      call m_X_refuseFar [.inr (.inr 0), .inl 1] s14 (fun (r21 : Int) (s22 : Mem) => Q r21 s22)) ∧
                    (¬ r13 = 0 →
                      (0 ≤ a1 ∧ a1 < (4 : Int)) ∧ (0 ≤ (w32 ((w32 (a1 * 4)) + a2)) ∧ (w32 ((w32 (a1 * 4)) + a2)) < (16 : Int)) ∧ (0 ≤ a2 ∧ a2 < (4 : Int)) ∧ call m_S_allShares [.inr (.inr 7)] s14 (fun (r15 : Int) (s16 : Mem) =>
                      call m_S_thoughtTotal [.inr (.inr 7), .inl a1] s16 (fun (r17 : Int) (s18 : Mem) =>
                        call m_X_tell [.inr (.inl (w64 ((w64 ((s14 7 6) * (s14 18 a1.toNat))) * (s14 17 (w32 ((w32 (a1 * 4)) + a2)).toNat)))), .inr (.inl (w64 ((w64 ((s14 9 a2.toNat) * r15)) * r17))), .inl a3] s18 (fun (r19 : Int) (s20 : Mem) => Q r19 s20)))))) ∧
                ((s8 7 16) ≤ a1 →
                  call m_X_refuseFar [.inr (.inr 0), .inl 1] s8 (fun (r11 : Int) (s12 : Mem) => Q r11 s12)))) ∧
            (¬ r7 = (-9) →
              call m_X_refuseFar [.inr (.inr 0), .inl 3] s8 (fun (r23 : Int) (s24 : Mem) => Q r23 s24)))))))) : seg none call c_X_chance false Q cut 2000 true (toPc 0 c_X_chance) [some (.inr (.inr 0)), some (.inl a1), some (.inl a2), some (.inl a3), none, none, none, none] [] σ := h
theorem e_X_chance {d : Nat} {Q : Int → Mem → Prop} {a1 : Int} {a2 : Int} {a3 : Int} {σ : Mem} (h :
  wp d m_X_isPart [.inl a3] σ (fun (r1 : Int) (s2 : Mem) =>
  (r1 = 0 →
      wp d m_X_refuseFar [.inr (.inr 0), .inl 2] s2 (fun (r25 : Int) (s26 : Mem) => Q r25 s26)) ∧
    (¬ r1 = 0 →
      ((s2 7 0) = 0 →
        wp d m_X_refuseFar [.inr (.inr 0), .inl 3] s2 (fun (r3 : Int) (s4 : Mem) => Q r3 s4)) ∧
      (¬ (s2 7 0) = 0 →
        ((s2 7 16) = 0 →
          wp d m_X_refuseFar [.inr (.inr 0), .inl 3] s2 (fun (r5 : Int) (s6 : Mem) => Q r5 s6)) ∧
        (¬ (s2 7 16) = 0 →
          wp d m_S_firstOff [.inr (.inr 7)] s2 (fun (r7 : Int) (s8 : Mem) =>
          (r7 = (-9) →
              (a1 < 0 →
                wp d m_X_refuseFar [.inr (.inr 0), .inl 1] s8 (fun (r9 : Int) (s10 : Mem) => Q r9 s10)) ∧
              (0 ≤ a1 →
                (a1 < (s8 7 16) →
                  wp d m_S_hasTruth [.inr (.inr 7), .inl a2] s8 (fun (r13 : Int) (s14 : Mem) =>
                  (r13 = 0 →
                      wp d m_X_refuseFar [.inr (.inr 0), .inl 1] s14 (fun (r21 : Int) (s22 : Mem) => Q r21 s22)) ∧
                    (¬ r13 = 0 →
                      (0 ≤ a1 ∧ a1 < (4 : Int)) ∧ (0 ≤ (w32 ((w32 (a1 * 4)) + a2)) ∧ (w32 ((w32 (a1 * 4)) + a2)) < (16 : Int)) ∧ (0 ≤ a2 ∧ a2 < (4 : Int)) ∧ wp d m_S_allShares [.inr (.inr 7)] s14 (fun (r15 : Int) (s16 : Mem) =>
                      wp d m_S_thoughtTotal [.inr (.inr 7), .inl a1] s16 (fun (r17 : Int) (s18 : Mem) =>
                        wp d m_X_tell [.inr (.inl (w64 ((w64 ((s14 7 6) * (s14 18 a1.toNat))) * (s14 17 (w32 ((w32 (a1 * 4)) + a2)).toNat)))), .inr (.inl (w64 ((w64 ((s14 9 a2.toNat) * r15)) * r17))), .inl a3] s18 (fun (r19 : Int) (s20 : Mem) => Q r19 s20)))))) ∧
                ((s8 7 16) ≤ a1 →
                  wp d m_X_refuseFar [.inr (.inr 0), .inl 1] s8 (fun (r11 : Int) (s12 : Mem) => Q r11 s12)))) ∧
            (¬ r7 = (-9) →
              wp d m_X_refuseFar [.inr (.inr 0), .inl 3] s8 (fun (r23 : Int) (s24 : Mem) => Q r23 s24)))))))) : wp (d + 1) m_X_chance [.inr (.inr 0), .inl a1, .inl a2, .inl a3] σ Q := wp_in rfl (XX_intro (g_X_chance (call := wp d) (cut := XX none (wp d) c_X_chance false Q) (Q := Q) (a1 := a1) (a2 := a2) (a3 := a3) (σ := σ) (h)))
theorem g_X_edges {call : Nat → List AV → Mem → (Int → Mem → Prop) → Prop} {cut : Nat → Lo → List AV → Mem → Prop} {Q : Int → Mem → Prop}  {σ : Mem} (h :
  call m_S_hasTwo [.inr (.inr 7)] σ (fun (r1 : Int) (s2 : Mem) =>
  (r1 = 0 →
      call m_X_refuse [.inr (.inr 0), .inl 3] s2 (fun (r5 : Int) (s6 : Mem) => Q r5 s6)) ∧
    (¬ r1 = 0 →
      call m_L_survey [.inr (.inr 39)] s2 (fun (r3 : Int) (s4 : Mem) => Q (s4 39 8) s4)))) : seg none call c_X_edges false Q cut 2000 true (toPc 0 c_X_edges) [some (.inr (.inr 0))] [] σ := h
theorem e_X_edges {d : Nat} {Q : Int → Mem → Prop}  {σ : Mem} (h :
  wp d m_S_hasTwo [.inr (.inr 7)] σ (fun (r1 : Int) (s2 : Mem) =>
  (r1 = 0 →
      wp d m_X_refuse [.inr (.inr 0), .inl 3] s2 (fun (r5 : Int) (s6 : Mem) => Q r5 s6)) ∧
    (¬ r1 = 0 →
      wp d m_L_survey [.inr (.inr 39)] s2 (fun (r3 : Int) (s4 : Mem) => Q (s4 39 8) s4)))) : wp (d + 1) m_X_edges [.inr (.inr 0)] σ Q := wp_in rfl (XX_intro (g_X_edges (call := wp d) (cut := XX none (wp d) c_X_edges false Q) (Q := Q)  (σ := σ) (h)))
theorem g_X_edge {call : Nat → List AV → Mem → (Int → Mem → Prop) → Prop} {cut : Nat → Lo → List AV → Mem → Prop} {Q : Int → Mem → Prop} {a1 : Int} {a2 : Int} {σ : Mem} (h :
  call m_X_lacksEdge [.inr (.inr 0), .inl a1, .inl a2] σ (fun (r1 : Int) (s2 : Mem) =>
  (r1 = 0 →
      (0 ≤ a1 ∧ a1 < (34 : Int)) ∧ (0 ≤ a1 ∧ a1 < (34 : Int)) ∧ call m_X_tell [.inr (.inl (s2 42 a1.toNat)), .inr (.inl (s2 43 a1.toNat)), .inl a2] s2 (fun (r3 : Int) (s4 : Mem) => Q r3 s4)) ∧
    (¬ r1 = 0 →
      call m_X_refuseFar [.inr (.inr 0), .inl r1] s2 (fun (r5 : Int) (s6 : Mem) => Q r5 s6)))) : seg none call c_X_edge false Q cut 2000 true (toPc 0 c_X_edge) [some (.inr (.inr 0)), some (.inl a1), some (.inl a2), none] [] σ := h
theorem e_X_edge {d : Nat} {Q : Int → Mem → Prop} {a1 : Int} {a2 : Int} {σ : Mem} (h :
  wp d m_X_lacksEdge [.inr (.inr 0), .inl a1, .inl a2] σ (fun (r1 : Int) (s2 : Mem) =>
  (r1 = 0 →
      (0 ≤ a1 ∧ a1 < (34 : Int)) ∧ (0 ≤ a1 ∧ a1 < (34 : Int)) ∧ wp d m_X_tell [.inr (.inl (s2 42 a1.toNat)), .inr (.inl (s2 43 a1.toNat)), .inl a2] s2 (fun (r3 : Int) (s4 : Mem) => Q r3 s4)) ∧
    (¬ r1 = 0 →
      wp d m_X_refuseFar [.inr (.inr 0), .inl r1] s2 (fun (r5 : Int) (s6 : Mem) => Q r5 s6)))) : wp (d + 1) m_X_edge [.inr (.inr 0), .inl a1, .inl a2] σ Q := wp_in rfl (XX_intro (g_X_edge (call := wp d) (cut := XX none (wp d) c_X_edge false Q) (Q := Q) (a1 := a1) (a2 := a2) (σ := σ) (h)))
theorem g_X_value {call : Nat → List AV → Mem → (Int → Mem → Prop) → Prop} {cut : Nat → Lo → List AV → Mem → Prop} {Q : Int → Mem → Prop} {a1 : Int} {a2 : Int} {σ : Mem} (h :
  (a1 = (-1) →
    call m_X_lacksEdge [.inr (.inr 0), .inl 0, .inl a2] σ (fun (r9 : Int) (s10 : Mem) =>
    (r9 = 0 →
        (a1 = (-1) →
          (0 ≤ (s10 39 8) ∧ (s10 39 8) < (34 : Int)) ∧ (0 ≤ (s10 39 8) ∧ (s10 39 8) < (34 : Int)) ∧ call m_X_tell [.inr (.inl (s10 44 (s10 39 8).toNat)), .inr (.inl (s10 43 (s10 39 8).toNat)), .inl a2] s10 (fun (r13 : Int) (s14 : Mem) => Q r13 s14)) ∧
        (¬ a1 = (-1) →
          (0 ≤ a1 ∧ a1 < (34 : Int)) ∧ (0 ≤ a1 ∧ a1 < (34 : Int)) ∧ call m_X_tell [.inr (.inl (s10 44 a1.toNat)), .inr (.inl (s10 43 a1.toNat)), .inl a2] s10 (fun (r11 : Int) (s12 : Mem) => Q r11 s12))) ∧
      (¬ r9 = 0 →
        call m_X_refuseFar [.inr (.inr 0), .inl r9] s10 (fun (r15 : Int) (s16 : Mem) => Q r15 s16)))) ∧
  (¬ a1 = (-1) →
    call m_X_lacksEdge [.inr (.inr 0), .inl a1, .inl a2] σ (fun (r1 : Int) (s2 : Mem) =>
    (r1 = 0 →
        (a1 = (-1) →
          (0 ≤ (s2 39 8) ∧ (s2 39 8) < (34 : Int)) ∧ (0 ≤ (s2 39 8) ∧ (s2 39 8) < (34 : Int)) ∧ call m_X_tell [.inr (.inl (s2 44 (s2 39 8).toNat)), .inr (.inl (s2 43 (s2 39 8).toNat)), .inl a2] s2 (fun (r5 : Int) (s6 : Mem) => Q r5 s6)) ∧
        (¬ a1 = (-1) →
          (0 ≤ a1 ∧ a1 < (34 : Int)) ∧ (0 ≤ a1 ∧ a1 < (34 : Int)) ∧ call m_X_tell [.inr (.inl (s2 44 a1.toNat)), .inr (.inl (s2 43 a1.toNat)), .inl a2] s2 (fun (r3 : Int) (s4 : Mem) => Q r3 s4))) ∧
      (¬ r1 = 0 →
        call m_X_refuseFar [.inr (.inr 0), .inl r1] s2 (fun (r7 : Int) (s8 : Mem) => Q r7 s8))))) : seg none call c_X_value false Q cut 2000 true (toPc 0 c_X_value) [some (.inr (.inr 0)), some (.inl a1), some (.inl a2), none, none] [] σ := h
theorem e_X_value {d : Nat} {Q : Int → Mem → Prop} {a1 : Int} {a2 : Int} {σ : Mem} (h :
  (a1 = (-1) →
    wp d m_X_lacksEdge [.inr (.inr 0), .inl 0, .inl a2] σ (fun (r9 : Int) (s10 : Mem) =>
    (r9 = 0 →
        (a1 = (-1) →
          (0 ≤ (s10 39 8) ∧ (s10 39 8) < (34 : Int)) ∧ (0 ≤ (s10 39 8) ∧ (s10 39 8) < (34 : Int)) ∧ wp d m_X_tell [.inr (.inl (s10 44 (s10 39 8).toNat)), .inr (.inl (s10 43 (s10 39 8).toNat)), .inl a2] s10 (fun (r13 : Int) (s14 : Mem) => Q r13 s14)) ∧
        (¬ a1 = (-1) →
          (0 ≤ a1 ∧ a1 < (34 : Int)) ∧ (0 ≤ a1 ∧ a1 < (34 : Int)) ∧ wp d m_X_tell [.inr (.inl (s10 44 a1.toNat)), .inr (.inl (s10 43 a1.toNat)), .inl a2] s10 (fun (r11 : Int) (s12 : Mem) => Q r11 s12))) ∧
      (¬ r9 = 0 →
        wp d m_X_refuseFar [.inr (.inr 0), .inl r9] s10 (fun (r15 : Int) (s16 : Mem) => Q r15 s16)))) ∧
  (¬ a1 = (-1) →
    wp d m_X_lacksEdge [.inr (.inr 0), .inl a1, .inl a2] σ (fun (r1 : Int) (s2 : Mem) =>
    (r1 = 0 →
        (a1 = (-1) →
          (0 ≤ (s2 39 8) ∧ (s2 39 8) < (34 : Int)) ∧ (0 ≤ (s2 39 8) ∧ (s2 39 8) < (34 : Int)) ∧ wp d m_X_tell [.inr (.inl (s2 44 (s2 39 8).toNat)), .inr (.inl (s2 43 (s2 39 8).toNat)), .inl a2] s2 (fun (r5 : Int) (s6 : Mem) => Q r5 s6)) ∧
        (¬ a1 = (-1) →
          (0 ≤ a1 ∧ a1 < (34 : Int)) ∧ (0 ≤ a1 ∧ a1 < (34 : Int)) ∧ wp d m_X_tell [.inr (.inl (s2 44 a1.toNat)), .inr (.inl (s2 43 a1.toNat)), .inl a2] s2 (fun (r3 : Int) (s4 : Mem) => Q r3 s4))) ∧
      (¬ r1 = 0 →
        wp d m_X_refuseFar [.inr (.inr 0), .inl r1] s2 (fun (r7 : Int) (s8 : Mem) => Q r7 s8))))) : wp (d + 1) m_X_value [.inr (.inr 0), .inl a1, .inl a2] σ Q := wp_in rfl (XX_intro (g_X_value (call := wp d) (cut := XX none (wp d) c_X_value false Q) (Q := Q) (a1 := a1) (a2 := a2) (σ := σ) (h)))
theorem g_X_best {call : Nat → List AV → Mem → (Int → Mem → Prop) → Prop} {cut : Nat → Lo → List AV → Mem → Prop} {Q : Int → Mem → Prop} {a1 : Int} {a2 : Int} {σ : Mem} (h :
  (a1 < 0 →
    call m_X_refuseFar [.inr (.inr 0), .inl 2] σ (fun (r1 : Int) (s2 : Mem) => Q r1 s2)) ∧
  (0 ≤ a1 →
    (3 < a1 →
      call m_X_refuseFar [.inr (.inr 0), .inl 2] σ (fun (r3 : Int) (s4 : Mem) => Q r3 s4)) ∧
    (a1 ≤ 3 →
      call m_X_isPart [.inl a2] σ (fun (r5 : Int) (s6 : Mem) =>
      (r5 = 0 →
          call m_X_refuseFar [.inr (.inr 0), .inl 2] s6 (fun (r25 : Int) (s26 : Mem) => Q r25 s26)) ∧
        (¬ r5 = 0 →
          call m_S_hasTwo [.inr (.inr 7)] s6 (fun (r7 : Int) (s8 : Mem) =>
          (r7 = 0 →
              call m_X_refuseFar [.inr (.inr 0), .inl 3] s8 (fun (r23 : Int) (s24 : Mem) => Q r23 s24)) ∧
            (¬ r7 = 0 →
              call m_L_survey [.inr (.inr 39)] s8 (fun (r9 : Int) (s10 : Mem) =>
              call m_L_climb [.inr (.inr 39)] s10 (fun (r11 : Int) (s12 : Mem) =>
                (a1 < 2 →
                    (a1 = 0 →
                      (0 ≤ (s12 39 9) ∧ (s12 39 9) < (34 : Int)) ∧ (0 ≤ (s12 39 9) ∧ (s12 39 9) < (34 : Int)) ∧ call m_X_tell [.inr (.inl (s12 42 (s12 39 9).toNat)), .inr (.inl (s12 43 (s12 39 9).toNat)), .inl a2] s12 (fun (r21 : Int) (s22 : Mem) => Q r21 s22)) ∧
                    (¬ a1 = 0 →
                      (0 ≤ (s12 39 10) ∧ (s12 39 10) < (34 : Int)) ∧ (0 ≤ (s12 39 10) ∧ (s12 39 10) < (34 : Int)) ∧ call m_X_tell [.inr (.inl (s12 42 (s12 39 10).toNat)), .inr (.inl (s12 43 (s12 39 10).toNat)), .inl a2] s12 (fun (r19 : Int) (s20 : Mem) => Q r19 s20))) ∧
                  (2 ≤ a1 →
                    (a1 = 2 →
                      call m_X_tell [.inr (.inl (s12 39 11)), .inr (.inl (s12 39 12)), .inl a2] s12 (fun (r17 : Int) (s18 : Mem) => Q r17 s18)) ∧
                    (¬ a1 = 2 →
                      call m_L_gainAbove [.inr (.inr 39)] s12 (fun (r13 : Int) (s14 : Mem) =>
                      call m_X_tell [.inr (.inl r13), .inr (.inl (s14 39 12)), .inl a2] s14 (fun (r15 : Int) (s16 : Mem) => Q r15 s16))))))))))))) : seg none call c_X_best false Q cut 2000 true (toPc 0 c_X_best) [some (.inr (.inr 0)), some (.inl a1), some (.inl a2), none] [] σ := h
theorem e_X_best {d : Nat} {Q : Int → Mem → Prop} {a1 : Int} {a2 : Int} {σ : Mem} (h :
  (a1 < 0 →
    wp d m_X_refuseFar [.inr (.inr 0), .inl 2] σ (fun (r1 : Int) (s2 : Mem) => Q r1 s2)) ∧
  (0 ≤ a1 →
    (3 < a1 →
      wp d m_X_refuseFar [.inr (.inr 0), .inl 2] σ (fun (r3 : Int) (s4 : Mem) => Q r3 s4)) ∧
    (a1 ≤ 3 →
      wp d m_X_isPart [.inl a2] σ (fun (r5 : Int) (s6 : Mem) =>
      (r5 = 0 →
          wp d m_X_refuseFar [.inr (.inr 0), .inl 2] s6 (fun (r25 : Int) (s26 : Mem) => Q r25 s26)) ∧
        (¬ r5 = 0 →
          wp d m_S_hasTwo [.inr (.inr 7)] s6 (fun (r7 : Int) (s8 : Mem) =>
          (r7 = 0 →
              wp d m_X_refuseFar [.inr (.inr 0), .inl 3] s8 (fun (r23 : Int) (s24 : Mem) => Q r23 s24)) ∧
            (¬ r7 = 0 →
              wp d m_L_survey [.inr (.inr 39)] s8 (fun (r9 : Int) (s10 : Mem) =>
              wp d m_L_climb [.inr (.inr 39)] s10 (fun (r11 : Int) (s12 : Mem) =>
                (a1 < 2 →
                    (a1 = 0 →
                      (0 ≤ (s12 39 9) ∧ (s12 39 9) < (34 : Int)) ∧ (0 ≤ (s12 39 9) ∧ (s12 39 9) < (34 : Int)) ∧ wp d m_X_tell [.inr (.inl (s12 42 (s12 39 9).toNat)), .inr (.inl (s12 43 (s12 39 9).toNat)), .inl a2] s12 (fun (r21 : Int) (s22 : Mem) => Q r21 s22)) ∧
                    (¬ a1 = 0 →
                      (0 ≤ (s12 39 10) ∧ (s12 39 10) < (34 : Int)) ∧ (0 ≤ (s12 39 10) ∧ (s12 39 10) < (34 : Int)) ∧ wp d m_X_tell [.inr (.inl (s12 42 (s12 39 10).toNat)), .inr (.inl (s12 43 (s12 39 10).toNat)), .inl a2] s12 (fun (r19 : Int) (s20 : Mem) => Q r19 s20))) ∧
                  (2 ≤ a1 →
                    (a1 = 2 →
                      wp d m_X_tell [.inr (.inl (s12 39 11)), .inr (.inl (s12 39 12)), .inl a2] s12 (fun (r17 : Int) (s18 : Mem) => Q r17 s18)) ∧
                    (¬ a1 = 2 →
                      wp d m_L_gainAbove [.inr (.inr 39)] s12 (fun (r13 : Int) (s14 : Mem) =>
                      wp d m_X_tell [.inr (.inl r13), .inr (.inl (s14 39 12)), .inl a2] s14 (fun (r15 : Int) (s16 : Mem) => Q r15 s16))))))))))))) : wp (d + 1) m_X_best [.inr (.inr 0), .inl a1, .inl a2] σ Q := wp_in rfl (XX_intro (g_X_best (call := wp d) (cut := XX none (wp d) c_X_best false Q) (Q := Q) (a1 := a1) (a2 := a2) (σ := σ) (h)))
theorem g_X_corners {call : Nat → List AV → Mem → (Int → Mem → Prop) → Prop} {cut : Nat → Lo → List AV → Mem → Prop} {Q : Int → Mem → Prop}  {σ : Mem} (h :
  call m_S_hasTwo [.inr (.inr 7)] σ (fun (r1 : Int) (s2 : Mem) =>
  (r1 = 0 →
      call m_X_refuse [.inr (.inr 0), .inl 3] s2 (fun (r7 : Int) (s8 : Mem) => Q r7 s8)) ∧
    (¬ r1 = 0 →
      call m_L_survey [.inr (.inr 39)] s2 (fun (r3 : Int) (s4 : Mem) =>
      call m_L_cornerBits [.inr (.inr 39)] s4 (fun (r5 : Int) (s6 : Mem) => Q r5 s6))))) : seg none call c_X_corners false Q cut 2000 true (toPc 0 c_X_corners) [some (.inr (.inr 0))] [] σ := h
theorem e_X_corners {d : Nat} {Q : Int → Mem → Prop}  {σ : Mem} (h :
  wp d m_S_hasTwo [.inr (.inr 7)] σ (fun (r1 : Int) (s2 : Mem) =>
  (r1 = 0 →
      wp d m_X_refuse [.inr (.inr 0), .inl 3] s2 (fun (r7 : Int) (s8 : Mem) => Q r7 s8)) ∧
    (¬ r1 = 0 →
      wp d m_L_survey [.inr (.inr 39)] s2 (fun (r3 : Int) (s4 : Mem) =>
      wp d m_L_cornerBits [.inr (.inr 39)] s4 (fun (r5 : Int) (s6 : Mem) => Q r5 s6))))) : wp (d + 1) m_X_corners [.inr (.inr 0)] σ Q := wp_in rfl (XX_intro (g_X_corners (call := wp d) (cut := XX none (wp d) c_X_corners false Q) (Q := Q)  (σ := σ) (h)))
theorem g_X_prove {call : Nat → List AV → Mem → (Int → Mem → Prop) → Prop} {cut : Nat → Lo → List AV → Mem → Prop} {Q : Int → Mem → Prop} {a1 : Int} {a2 : Int} {a3 : Int} {a4 : Int} {σ : Mem} (h :
  call m_S_hasTwo [.inr (.inr 7)] σ (fun (r1 : Int) (s2 : Mem) =>
  (r1 = 0 →
      call m_X_refuse [.inr (.inr 0), .inl 3] s2 (fun (r17 : Int) (s18 : Mem) => Q r17 s18)) ∧
    (¬ r1 = 0 →
      ((min a1 a3) < (-9999999) →
        call m_X_refuse [.inr (.inr 0), .inl 4] s2 (fun (r3 : Int) (s4 : Mem) => Q r3 s4)) ∧
      ((-9999999) ≤ (min a1 a3) →
        ((min a2 a4) < 1 →
          call m_X_refuse [.inr (.inr 0), .inl 4] s2 (fun (r15 : Int) (s16 : Mem) => Q r15 s16)) ∧
        (1 ≤ (min a2 a4) →
          (9999999 < (max a1 a3) →
            call m_X_refuse [.inr (.inr 0), .inl 6] s2 (fun (r5 : Int) (s6 : Mem) => Q r5 s6)) ∧
          ((max a1 a3) ≤ 9999999 →
            (99999 < (max a2 a4) →
              call m_X_refuse [.inr (.inr 0), .inl 6] s2 (fun (r13 : Int) (s14 : Mem) => Q r13 s14)) ∧
            ((max a2 a4) ≤ 99999 →
              call m_L_survey [.inr (.inr 39)] s2 (fun (r7 : Int) (s8 : Mem) =>
              call m_L_climb [.inr (.inr 39)] s8 (fun (r9 : Int) (s10 : Mem) =>
                call m_L_judgePrices [.inr (.inr 39), .inr (.inl (w64 (a1 * a4))), .inr (.inl (w64 (a3 * a2))), .inr (.inl (w64 (a2 * a4)))] s10 (fun (r11 : Int) (s12 : Mem) => Q r11 s12)))))))))) : seg none call c_X_prove false Q cut 2000 true (toPc 0 c_X_prove) [some (.inr (.inr 0)), some (.inl a1), some (.inl a2), some (.inl a3), some (.inl a4)] [] σ := h
theorem e_X_prove {d : Nat} {Q : Int → Mem → Prop} {a1 : Int} {a2 : Int} {a3 : Int} {a4 : Int} {σ : Mem} (h :
  wp d m_S_hasTwo [.inr (.inr 7)] σ (fun (r1 : Int) (s2 : Mem) =>
  (r1 = 0 →
      wp d m_X_refuse [.inr (.inr 0), .inl 3] s2 (fun (r17 : Int) (s18 : Mem) => Q r17 s18)) ∧
    (¬ r1 = 0 →
      ((min a1 a3) < (-9999999) →
        wp d m_X_refuse [.inr (.inr 0), .inl 4] s2 (fun (r3 : Int) (s4 : Mem) => Q r3 s4)) ∧
      ((-9999999) ≤ (min a1 a3) →
        ((min a2 a4) < 1 →
          wp d m_X_refuse [.inr (.inr 0), .inl 4] s2 (fun (r15 : Int) (s16 : Mem) => Q r15 s16)) ∧
        (1 ≤ (min a2 a4) →
          (9999999 < (max a1 a3) →
            wp d m_X_refuse [.inr (.inr 0), .inl 6] s2 (fun (r5 : Int) (s6 : Mem) => Q r5 s6)) ∧
          ((max a1 a3) ≤ 9999999 →
            (99999 < (max a2 a4) →
              wp d m_X_refuse [.inr (.inr 0), .inl 6] s2 (fun (r13 : Int) (s14 : Mem) => Q r13 s14)) ∧
            ((max a2 a4) ≤ 99999 →
              wp d m_L_survey [.inr (.inr 39)] s2 (fun (r7 : Int) (s8 : Mem) =>
              wp d m_L_climb [.inr (.inr 39)] s8 (fun (r9 : Int) (s10 : Mem) =>
                wp d m_L_judgePrices [.inr (.inr 39), .inr (.inl (w64 (a1 * a4))), .inr (.inl (w64 (a3 * a2))), .inr (.inl (w64 (a2 * a4)))] s10 (fun (r11 : Int) (s12 : Mem) => Q r11 s12)))))))))) : wp (d + 1) m_X_prove [.inr (.inr 0), .inl a1, .inl a2, .inl a3, .inl a4] σ Q := wp_in rfl (XX_intro (g_X_prove (call := wp d) (cut := XX none (wp d) c_X_prove false Q) (Q := Q) (a1 := a1) (a2 := a2) (a3 := a3) (a4 := a4) (σ := σ) (h)))
theorem g_X_test {call : Nat → List AV → Mem → (Int → Mem → Prop) → Prop} {cut : Nat → Lo → List AV → Mem → Prop} {Q : Int → Mem → Prop} {a1 : Int} {a2 : Int} {σ : Mem} (h :
  call m_S_lacksLook [.inr (.inr 7), .inl a1] σ (fun (r1 : Int) (s2 : Mem) =>
  (r1 = 0 →
      (a2 < 0 →
        call m_X_refuse [.inr (.inr 0), .inl 4] s2 (fun (r9 : Int) (s10 : Mem) => Q r9 s10)) ∧
      (0 ≤ a2 →
        (99 < a2 →
          call m_X_refuse [.inr (.inr 0), .inl 6] s2 (fun (r3 : Int) (s4 : Mem) => Q r3 s4)) ∧
        (a2 ≤ 99 →
          ((s2 7 13) < 6 →
            (0 ≤ (s2 7 13) ∧ (s2 7 13) < (6 : Int)) ∧ (0 ≤ (s2 7 13) ∧ (s2 7 13) < (6 : Int)) ∧ call m_P_keep [.inr (.inr 31), .inl 1, .inl 0, .inl 0] (mset (mset (mset s2 15 (s2 7 13).toNat a1) 16 (s2 7 13).toNat a2) 7 13 (w32 (((mset (mset s2 15 (s2 7 13).toNat a1) 16 (s2 7 13).toNat a2) 7 13) + 1))) (fun (r5 : Int) (s6 : Mem) => Q (s2 7 13) s6)) ∧
          (6 ≤ (s2 7 13) →
            call m_X_refuse [.inr (.inr 0), .inl 6] s2 (fun (r7 : Int) (s8 : Mem) => Q r7 s8))))) ∧
    (¬ r1 = 0 →
      call m_X_refuse [.inr (.inr 0), .inl r1] s2 (fun (r11 : Int) (s12 : Mem) => Q r11 s12)))) : seg none call c_X_test false Q cut 2000 true (toPc 0 c_X_test) [some (.inr (.inr 0)), some (.inl a1), some (.inl a2), none, none] [] σ := h
theorem e_X_test {d : Nat} {Q : Int → Mem → Prop} {a1 : Int} {a2 : Int} {σ : Mem} (h :
  wp d m_S_lacksLook [.inr (.inr 7), .inl a1] σ (fun (r1 : Int) (s2 : Mem) =>
  (r1 = 0 →
      (a2 < 0 →
        wp d m_X_refuse [.inr (.inr 0), .inl 4] s2 (fun (r9 : Int) (s10 : Mem) => Q r9 s10)) ∧
      (0 ≤ a2 →
        (99 < a2 →
          wp d m_X_refuse [.inr (.inr 0), .inl 6] s2 (fun (r3 : Int) (s4 : Mem) => Q r3 s4)) ∧
        (a2 ≤ 99 →
          ((s2 7 13) < 6 →
            (0 ≤ (s2 7 13) ∧ (s2 7 13) < (6 : Int)) ∧ (0 ≤ (s2 7 13) ∧ (s2 7 13) < (6 : Int)) ∧ wp d m_P_keep [.inr (.inr 31), .inl 1, .inl 0, .inl 0] (mset (mset (mset s2 15 (s2 7 13).toNat a1) 16 (s2 7 13).toNat a2) 7 13 (w32 (((mset (mset s2 15 (s2 7 13).toNat a1) 16 (s2 7 13).toNat a2) 7 13) + 1))) (fun (r5 : Int) (s6 : Mem) => Q (s2 7 13) s6)) ∧
          (6 ≤ (s2 7 13) →
            wp d m_X_refuse [.inr (.inr 0), .inl 6] s2 (fun (r7 : Int) (s8 : Mem) => Q r7 s8))))) ∧
    (¬ r1 = 0 →
      wp d m_X_refuse [.inr (.inr 0), .inl r1] s2 (fun (r11 : Int) (s12 : Mem) => Q r11 s12)))) : wp (d + 1) m_X_test [.inr (.inr 0), .inl a1, .inl a2] σ Q := wp_in rfl (XX_intro (g_X_test (call := wp d) (cut := XX none (wp d) c_X_test false Q) (Q := Q) (a1 := a1) (a2 := a2) (σ := σ) (h)))
theorem g_X_set {call : Nat → List AV → Mem → (Int → Mem → Prop) → Prop} {cut : Nat → Lo → List AV → Mem → Prop} {Q : Int → Mem → Prop} {a1 : Int} {a2 : Int} {σ : Mem} (h :
  call m_X_isPart [.inl a2] σ (fun (r1 : Int) (s2 : Mem) =>
  (r1 = 0 →
      call m_X_refuseFar [.inr (.inr 0), .inl 2] s2 (fun (r23 : Int) (s24 : Mem) => Q r23 s24)) ∧
    (¬ r1 = 0 →
      ((s2 7 0) = 0 →
        call m_X_refuseFar [.inr (.inr 0), .inl 3] s2 (fun (r21 : Int) (s22 : Mem) => Q r21 s22)) ∧
      (¬ (s2 7 0) = 0 →
        call m_S_hasTests [.inr (.inr 7), .inl a1] s2 (fun (r3 : Int) (s4 : Mem) =>
        (r3 = 0 →
            call m_X_refuseFar [.inr (.inr 0), .inl 1] s4 (fun (r19 : Int) (s20 : Mem) => Q r19 s20)) ∧
          (¬ r3 = 0 →
            call m_J_bitCountI [.inl a1] s4 (fun (r5 : Int) (s6 : Mem) =>
            (3 < r5 →
                call m_X_refuseFar [.inr (.inr 0), .inl 6] s6 (fun (r17 : Int) (s18 : Mem) => Q r17 s18)) ∧
              (r5 ≤ 3 →
                call m_K_bringsOf [.inr (.inr 45), .inl a1] s6 (fun (r7 : Int) (s8 : Mem) =>
                call m_K_costOf [.inr (.inr 45), .inl a1] s8 (fun (r9 : Int) (s10 : Mem) =>
                  call m_B_unit [.inr (.inr 35)] s10 (fun (r11 : Int) (s12 : Mem) =>
                    call m_B_unit [.inr (.inr 35)] s12 (fun (r13 : Int) (s14 : Mem) =>
                      call m_X_tell [.inr (.inl (w64 (r7 - (w64 (r9 * r11))))), .inr (.inl r13), .inl a2] s14 (fun (r15 : Int) (s16 : Mem) => Q r15 s16))))))))))))) : seg none call c_X_set false Q cut 2000 true (toPc 0 c_X_set) [some (.inr (.inr 0)), some (.inl a1), some (.inl a2), none, none] [] σ := h
theorem e_X_set {d : Nat} {Q : Int → Mem → Prop} {a1 : Int} {a2 : Int} {σ : Mem} (h :
  wp d m_X_isPart [.inl a2] σ (fun (r1 : Int) (s2 : Mem) =>
  (r1 = 0 →
      wp d m_X_refuseFar [.inr (.inr 0), .inl 2] s2 (fun (r23 : Int) (s24 : Mem) => Q r23 s24)) ∧
    (¬ r1 = 0 →
      ((s2 7 0) = 0 →
        wp d m_X_refuseFar [.inr (.inr 0), .inl 3] s2 (fun (r21 : Int) (s22 : Mem) => Q r21 s22)) ∧
      (¬ (s2 7 0) = 0 →
        wp d m_S_hasTests [.inr (.inr 7), .inl a1] s2 (fun (r3 : Int) (s4 : Mem) =>
        (r3 = 0 →
            wp d m_X_refuseFar [.inr (.inr 0), .inl 1] s4 (fun (r19 : Int) (s20 : Mem) => Q r19 s20)) ∧
          (¬ r3 = 0 →
            wp d m_J_bitCountI [.inl a1] s4 (fun (r5 : Int) (s6 : Mem) =>
            (3 < r5 →
                wp d m_X_refuseFar [.inr (.inr 0), .inl 6] s6 (fun (r17 : Int) (s18 : Mem) => Q r17 s18)) ∧
              (r5 ≤ 3 →
                wp d m_K_bringsOf [.inr (.inr 45), .inl a1] s6 (fun (r7 : Int) (s8 : Mem) =>
                wp d m_K_costOf [.inr (.inr 45), .inl a1] s8 (fun (r9 : Int) (s10 : Mem) =>
                  wp d m_B_unit [.inr (.inr 35)] s10 (fun (r11 : Int) (s12 : Mem) =>
                    wp d m_B_unit [.inr (.inr 35)] s12 (fun (r13 : Int) (s14 : Mem) =>
                      wp d m_X_tell [.inr (.inl (w64 (r7 - (w64 (r9 * r11))))), .inr (.inl r13), .inl a2] s14 (fun (r15 : Int) (s16 : Mem) => Q r15 s16))))))))))))) : wp (d + 1) m_X_set [.inr (.inr 0), .inl a1, .inl a2] σ Q := wp_in rfl (XX_intro (g_X_set (call := wp d) (cut := XX none (wp d) c_X_set false Q) (Q := Q) (a1 := a1) (a2 := a2) (σ := σ) (h)))
theorem g_X_chosen {call : Nat → List AV → Mem → (Int → Mem → Prop) → Prop} {cut : Nat → Lo → List AV → Mem → Prop} {Q : Int → Mem → Prop}  {σ : Mem} (h :
  ((σ 7 0) = 0 → call m_X_refuse [.inr (.inr 0), .inl 3] σ (fun (r1 : Int) (s2 : Mem) => Q r1 s2)) ∧
  (¬ (σ 7 0) = 0 → call m_K_dearest [.inr (.inr 45)] σ (fun (r3 : Int) (s4 : Mem) => Q r3 s4))) : seg none call c_X_chosen false Q cut 2000 true (toPc 0 c_X_chosen) [some (.inr (.inr 0))] [] σ := h
theorem e_X_chosen {d : Nat} {Q : Int → Mem → Prop}  {σ : Mem} (h :
  ((σ 7 0) = 0 → wp d m_X_refuse [.inr (.inr 0), .inl 3] σ (fun (r1 : Int) (s2 : Mem) => Q r1 s2)) ∧
  (¬ (σ 7 0) = 0 → wp d m_K_dearest [.inr (.inr 45)] σ (fun (r3 : Int) (s4 : Mem) => Q r3 s4))) : wp (d + 1) m_X_chosen [.inr (.inr 0)] σ Q := wp_in rfl (XX_intro (g_X_chosen (call := wp d) (cut := XX none (wp d) c_X_chosen false Q) (Q := Q)  (σ := σ) (h)))
theorem g_X_enough {call : Nat → List AV → Mem → (Int → Mem → Prop) → Prop} {cut : Nat → Lo → List AV → Mem → Prop} {Q : Int → Mem → Prop} {a1 : Int} {a2 : Int} {σ : Mem} (h :
  ((σ 7 0) = 0 →
    call m_X_refuse [.inr (.inr 0), .inl 3] σ (fun (r11 : Int) (s12 : Mem) => Q r11 s12)) ∧
  (¬ (σ 7 0) = 0 →
    (a1 < (-9999) → call m_X_refuse [.inr (.inr 0), .inl 4] σ (fun (r1 : Int) (s2 : Mem) => Q r1 s2)) ∧
    ((-9999) ≤ a1 →
      (a2 < 1 →
        call m_X_refuse [.inr (.inr 0), .inl 4] σ (fun (r9 : Int) (s10 : Mem) => Q r9 s10)) ∧
      (1 ≤ a2 →
        (9999 < a1 → call m_X_refuse [.inr (.inr 0), .inl 6] σ (fun (r3 : Int) (s4 : Mem) => Q r3 s4)) ∧
        (a1 ≤ 9999 →
          (9999 < a2 → call m_X_refuse [.inr (.inr 0), .inl 6] σ (fun (r7 : Int) (s8 : Mem) => Q r7 s8)) ∧
          (a2 ≤ 9999 →
            call m_K_cheapest [.inr (.inr 45), .inr (.inl a1), .inr (.inl a2)] σ (fun (r5 : Int) (s6 : Mem) => Q r5 s6))))))) : seg none call c_X_enough false Q cut 2000 true (toPc 0 c_X_enough) [some (.inr (.inr 0)), some (.inl a1), some (.inl a2)] [] σ := h
theorem e_X_enough {d : Nat} {Q : Int → Mem → Prop} {a1 : Int} {a2 : Int} {σ : Mem} (h :
  ((σ 7 0) = 0 →
    wp d m_X_refuse [.inr (.inr 0), .inl 3] σ (fun (r11 : Int) (s12 : Mem) => Q r11 s12)) ∧
  (¬ (σ 7 0) = 0 →
    (a1 < (-9999) → wp d m_X_refuse [.inr (.inr 0), .inl 4] σ (fun (r1 : Int) (s2 : Mem) => Q r1 s2)) ∧
    ((-9999) ≤ a1 →
      (a2 < 1 →
        wp d m_X_refuse [.inr (.inr 0), .inl 4] σ (fun (r9 : Int) (s10 : Mem) => Q r9 s10)) ∧
      (1 ≤ a2 →
        (9999 < a1 → wp d m_X_refuse [.inr (.inr 0), .inl 6] σ (fun (r3 : Int) (s4 : Mem) => Q r3 s4)) ∧
        (a1 ≤ 9999 →
          (9999 < a2 → wp d m_X_refuse [.inr (.inr 0), .inl 6] σ (fun (r7 : Int) (s8 : Mem) => Q r7 s8)) ∧
          (a2 ≤ 9999 →
            wp d m_K_cheapest [.inr (.inr 45), .inr (.inl a1), .inr (.inl a2)] σ (fun (r5 : Int) (s6 : Mem) => Q r5 s6))))))) : wp (d + 1) m_X_enough [.inr (.inr 0), .inl a1, .inl a2] σ Q := wp_in rfl (XX_intro (g_X_enough (call := wp d) (cut := XX none (wp d) c_X_enough false Q) (Q := Q) (a1 := a1) (a2 := a2) (σ := σ) (h)))
theorem g_X_hear {call : Nat → List AV → Mem → (Int → Mem → Prop) → Prop} {cut : Nat → Lo → List AV → Mem → Prop} {Q : Int → Mem → Prop} {a1 : Int} {a2 : Int} {a3 : Int} {σ : Mem} (h :
  call m_X_isPart [.inl a3] σ (fun (r1 : Int) (s2 : Mem) =>
  (r1 = 0 →
      call m_X_refuseFar [.inr (.inr 0), .inl 2] s2 (fun (r53 : Int) (s54 : Mem) => Q r53 s54)) ∧
    (¬ r1 = 0 →
      ((s2 7 0) = 0 →
        call m_X_refuseFar [.inr (.inr 0), .inl 3] s2 (fun (r51 : Int) (s52 : Mem) => Q r51 s52)) ∧
      (¬ (s2 7 0) = 0 →
        call m_S_hasLook [.inr (.inr 7), .inl a1] s2 (fun (r3 : Int) (s4 : Mem) =>
        (r3 = 0 →
            call m_X_refuseFar [.inr (.inr 0), .inl 1] s4 (fun (r5 : Int) (s6 : Mem) => Q r5 s6)) ∧
          (¬ r3 = 0 →
            (a2 = (-1) →
              call m_B_attendOnly [.inr (.inr 35), .inl a1] s4 (fun (r7 : Int) (s8 : Mem) =>
              call m_B_brings [.inr (.inr 35), .inr (.inr 10), .inr (.inr 11)] s8 (fun (r9 : Int) (s10 : Mem) =>
                (a2 = (-1) →
                    call m_B_attendOnly [.inr (.inr 35), .inl a1] s10 (fun (r19 : Int) (s20 : Mem) =>
                    call m_B_brings [.inr (.inr 35), .inr (.inr 12), .inr (.inr 11)] s20 (fun (r21 : Int) (s22 : Mem) =>
                      call m_B_unit [.inr (.inr 35)] s22 (fun (r23 : Int) (s24 : Mem) =>
                        call m_X_tell [.inr (.inl (w64 (r9 + r21))), .inr (.inl r23), .inl a3] s24 (fun (r25 : Int) (s26 : Mem) => Q r25 s26))))) ∧
                  (¬ a2 = (-1) →
                    call m_B_attendOnly [.inr (.inr 35), .inl a2] s10 (fun (r11 : Int) (s12 : Mem) =>
                    call m_B_brings [.inr (.inr 35), .inr (.inr 12), .inr (.inr 11)] s12 (fun (r13 : Int) (s14 : Mem) =>
                      call m_B_unit [.inr (.inr 35)] s14 (fun (r15 : Int) (s16 : Mem) =>
                        call m_X_tell [.inr (.inl (w64 (r9 + r13))), .inr (.inl r15), .inl a3] s16 (fun (r17 : Int) (s18 : Mem) => Q r17 s18)))))))) ∧
            (¬ a2 = (-1) →
              call m_S_hasLook [.inr (.inr 7), .inl a2] s4 (fun (r27 : Int) (s28 : Mem) =>
              (r27 = 0 →
                  call m_X_refuseFar [.inr (.inr 0), .inl 1] s28 (fun (r49 : Int) (s50 : Mem) => Q r49 s50)) ∧
                (¬ r27 = 0 →
                  call m_B_attendOnly [.inr (.inr 35), .inl a1] s28 (fun (r29 : Int) (s30 : Mem) =>
                  call m_B_brings [.inr (.inr 35), .inr (.inr 10), .inr (.inr 11)] s30 (fun (r31 : Int) (s32 : Mem) =>
                    (a2 = (-1) →
                        call m_B_attendOnly [.inr (.inr 35), .inl a1] s32 (fun (r41 : Int) (s42 : Mem) =>
                        call m_B_brings [.inr (.inr 35), .inr (.inr 12), .inr (.inr 11)] s42 (fun (r43 : Int) (s44 : Mem) =>
                          call m_B_unit [.inr (.inr 35)] s44 (fun (r45 : Int) (s46 : Mem) =>
                            call m_X_tell [.inr (.inl (w64 (r31 + r43))), .inr (.inl r45), .inl a3] s46 (fun (r47 : Int) (s48 : Mem) => Q r47 s48))))) ∧
                      (¬ a2 = (-1) →
                        call m_B_attendOnly [.inr (.inr 35), .inl a2] s32 (fun (r33 : Int) (s34 : Mem) =>
                        call m_B_brings [.inr (.inr 35), .inr (.inr 12), .inr (.inr 11)] s34 (fun (r35 : Int) (s36 : Mem) =>
                          call m_B_unit [.inr (.inr 35)] s36 (fun (r37 : Int) (s38 : Mem) =>
                            call m_X_tell [.inr (.inl (w64 (r31 + r35))), .inr (.inl r37), .inl a3] s38 (fun (r39 : Int) (s40 : Mem) => Q r39 s40)))))))))))))))) : seg none call c_X_hear false Q cut 2000 true (toPc 0 c_X_hear) [some (.inr (.inr 0)), some (.inl a1), some (.inl a2), some (.inl a3), none, none] [] σ := h
theorem e_X_hear {d : Nat} {Q : Int → Mem → Prop} {a1 : Int} {a2 : Int} {a3 : Int} {σ : Mem} (h :
  wp d m_X_isPart [.inl a3] σ (fun (r1 : Int) (s2 : Mem) =>
  (r1 = 0 →
      wp d m_X_refuseFar [.inr (.inr 0), .inl 2] s2 (fun (r53 : Int) (s54 : Mem) => Q r53 s54)) ∧
    (¬ r1 = 0 →
      ((s2 7 0) = 0 →
        wp d m_X_refuseFar [.inr (.inr 0), .inl 3] s2 (fun (r51 : Int) (s52 : Mem) => Q r51 s52)) ∧
      (¬ (s2 7 0) = 0 →
        wp d m_S_hasLook [.inr (.inr 7), .inl a1] s2 (fun (r3 : Int) (s4 : Mem) =>
        (r3 = 0 →
            wp d m_X_refuseFar [.inr (.inr 0), .inl 1] s4 (fun (r5 : Int) (s6 : Mem) => Q r5 s6)) ∧
          (¬ r3 = 0 →
            (a2 = (-1) →
              wp d m_B_attendOnly [.inr (.inr 35), .inl a1] s4 (fun (r7 : Int) (s8 : Mem) =>
              wp d m_B_brings [.inr (.inr 35), .inr (.inr 10), .inr (.inr 11)] s8 (fun (r9 : Int) (s10 : Mem) =>
                (a2 = (-1) →
                    wp d m_B_attendOnly [.inr (.inr 35), .inl a1] s10 (fun (r19 : Int) (s20 : Mem) =>
                    wp d m_B_brings [.inr (.inr 35), .inr (.inr 12), .inr (.inr 11)] s20 (fun (r21 : Int) (s22 : Mem) =>
                      wp d m_B_unit [.inr (.inr 35)] s22 (fun (r23 : Int) (s24 : Mem) =>
                        wp d m_X_tell [.inr (.inl (w64 (r9 + r21))), .inr (.inl r23), .inl a3] s24 (fun (r25 : Int) (s26 : Mem) => Q r25 s26))))) ∧
                  (¬ a2 = (-1) →
                    wp d m_B_attendOnly [.inr (.inr 35), .inl a2] s10 (fun (r11 : Int) (s12 : Mem) =>
                    wp d m_B_brings [.inr (.inr 35), .inr (.inr 12), .inr (.inr 11)] s12 (fun (r13 : Int) (s14 : Mem) =>
                      wp d m_B_unit [.inr (.inr 35)] s14 (fun (r15 : Int) (s16 : Mem) =>
                        wp d m_X_tell [.inr (.inl (w64 (r9 + r13))), .inr (.inl r15), .inl a3] s16 (fun (r17 : Int) (s18 : Mem) => Q r17 s18)))))))) ∧
            (¬ a2 = (-1) →
              wp d m_S_hasLook [.inr (.inr 7), .inl a2] s4 (fun (r27 : Int) (s28 : Mem) =>
              (r27 = 0 →
                  wp d m_X_refuseFar [.inr (.inr 0), .inl 1] s28 (fun (r49 : Int) (s50 : Mem) => Q r49 s50)) ∧
                (¬ r27 = 0 →
                  wp d m_B_attendOnly [.inr (.inr 35), .inl a1] s28 (fun (r29 : Int) (s30 : Mem) =>
                  wp d m_B_brings [.inr (.inr 35), .inr (.inr 10), .inr (.inr 11)] s30 (fun (r31 : Int) (s32 : Mem) =>
                    (a2 = (-1) →
                        wp d m_B_attendOnly [.inr (.inr 35), .inl a1] s32 (fun (r41 : Int) (s42 : Mem) =>
                        wp d m_B_brings [.inr (.inr 35), .inr (.inr 12), .inr (.inr 11)] s42 (fun (r43 : Int) (s44 : Mem) =>
                          wp d m_B_unit [.inr (.inr 35)] s44 (fun (r45 : Int) (s46 : Mem) =>
                            wp d m_X_tell [.inr (.inl (w64 (r31 + r43))), .inr (.inl r45), .inl a3] s46 (fun (r47 : Int) (s48 : Mem) => Q r47 s48))))) ∧
                      (¬ a2 = (-1) →
                        wp d m_B_attendOnly [.inr (.inr 35), .inl a2] s32 (fun (r33 : Int) (s34 : Mem) =>
                        wp d m_B_brings [.inr (.inr 35), .inr (.inr 12), .inr (.inr 11)] s34 (fun (r35 : Int) (s36 : Mem) =>
                          wp d m_B_unit [.inr (.inr 35)] s36 (fun (r37 : Int) (s38 : Mem) =>
                            wp d m_X_tell [.inr (.inl (w64 (r31 + r35))), .inr (.inl r37), .inl a3] s38 (fun (r39 : Int) (s40 : Mem) => Q r39 s40)))))))))))))))) : wp (d + 1) m_X_hear [.inr (.inr 0), .inl a1, .inl a2, .inl a3] σ Q := wp_in rfl (XX_intro (g_X_hear (call := wp d) (cut := XX none (wp d) c_X_hear false Q) (Q := Q) (a1 := a1) (a2 := a2) (a3 := a3) (σ := σ) (h)))
theorem g_X_knows {call : Nat → List AV → Mem → (Int → Mem → Prop) → Prop} {cut : Nat → Lo → List AV → Mem → Prop} {Q : Int → Mem → Prop} {a1 : Int} {a2 : Int} {a3 : Int} {a4 : Int} {σ : Mem} (h :
  call m_X_isPart [.inl a4] σ (fun (r1 : Int) (s2 : Mem) =>
  (r1 = 0 →
      call m_X_refuseFar [.inr (.inr 0), .inl 2] s2 (fun (r25 : Int) (s26 : Mem) => Q r25 s26)) ∧
    (¬ r1 = 0 →
      ((s2 7 0) = 0 →
        call m_X_refuseFar [.inr (.inr 0), .inl 3] s2 (fun (r23 : Int) (s24 : Mem) => Q r23 s24)) ∧
      (¬ (s2 7 0) = 0 →
        call m_S_hasLook [.inr (.inr 7), .inl a1] s2 (fun (r3 : Int) (s4 : Mem) =>
        (r3 = 0 →
            call m_X_refuseFar [.inr (.inr 0), .inl 1] s4 (fun (r5 : Int) (s6 : Mem) => Q r5 s6)) ∧
          (¬ r3 = 0 →
            call m_S_hasLook [.inr (.inr 7), .inl a2] s4 (fun (r7 : Int) (s8 : Mem) =>
            (r7 = 0 →
                call m_X_refuseFar [.inr (.inr 0), .inl 1] s8 (fun (r21 : Int) (s22 : Mem) => Q r21 s22)) ∧
              (¬ r7 = 0 →
                call m_B_attendOnly [.inr (.inr 35), .inl a1] s8 (fun (r9 : Int) (s10 : Mem) =>
                call m_B_attend [.inr (.inr 35), .inl a2, .inl 0] s10 (fun (r11 : Int) (s12 : Mem) =>
                  call m_S_pay [.inr (.inr 7), .inl a3] s12 (fun (r13 : Int) (s14 : Mem) =>
                    call m_B_brings [.inr (.inr 35), .inr (.inr 10), .inr (.inr r13.toNat)] s14 (fun (r15 : Int) (s16 : Mem) =>
                      call m_B_unit [.inr (.inr 35)] s16 (fun (r17 : Int) (s18 : Mem) =>
                        call m_X_tell [.inr (.inl r15), .inr (.inl r17), .inl a4] s18 (fun (r19 : Int) (s20 : Mem) => Q r19 s20)))))))))))))) : seg none call c_X_knows false Q cut 2000 true (toPc 0 c_X_knows) [some (.inr (.inr 0)), some (.inl a1), some (.inl a2), some (.inl a3), some (.inl a4)] [] σ := h
theorem e_X_knows {d : Nat} {Q : Int → Mem → Prop} {a1 : Int} {a2 : Int} {a3 : Int} {a4 : Int} {σ : Mem} (h :
  wp d m_X_isPart [.inl a4] σ (fun (r1 : Int) (s2 : Mem) =>
  (r1 = 0 →
      wp d m_X_refuseFar [.inr (.inr 0), .inl 2] s2 (fun (r25 : Int) (s26 : Mem) => Q r25 s26)) ∧
    (¬ r1 = 0 →
      ((s2 7 0) = 0 →
        wp d m_X_refuseFar [.inr (.inr 0), .inl 3] s2 (fun (r23 : Int) (s24 : Mem) => Q r23 s24)) ∧
      (¬ (s2 7 0) = 0 →
        wp d m_S_hasLook [.inr (.inr 7), .inl a1] s2 (fun (r3 : Int) (s4 : Mem) =>
        (r3 = 0 →
            wp d m_X_refuseFar [.inr (.inr 0), .inl 1] s4 (fun (r5 : Int) (s6 : Mem) => Q r5 s6)) ∧
          (¬ r3 = 0 →
            wp d m_S_hasLook [.inr (.inr 7), .inl a2] s4 (fun (r7 : Int) (s8 : Mem) =>
            (r7 = 0 →
                wp d m_X_refuseFar [.inr (.inr 0), .inl 1] s8 (fun (r21 : Int) (s22 : Mem) => Q r21 s22)) ∧
              (¬ r7 = 0 →
                wp d m_B_attendOnly [.inr (.inr 35), .inl a1] s8 (fun (r9 : Int) (s10 : Mem) =>
                wp d m_B_attend [.inr (.inr 35), .inl a2, .inl 0] s10 (fun (r11 : Int) (s12 : Mem) =>
                  wp d m_S_pay [.inr (.inr 7), .inl a3] s12 (fun (r13 : Int) (s14 : Mem) =>
                    wp d m_B_brings [.inr (.inr 35), .inr (.inr 10), .inr (.inr r13.toNat)] s14 (fun (r15 : Int) (s16 : Mem) =>
                      wp d m_B_unit [.inr (.inr 35)] s16 (fun (r17 : Int) (s18 : Mem) =>
                        wp d m_X_tell [.inr (.inl r15), .inr (.inl r17), .inl a4] s18 (fun (r19 : Int) (s20 : Mem) => Q r19 s20)))))))))))))) : wp (d + 1) m_X_knows [.inr (.inr 0), .inl a1, .inl a2, .inl a3, .inl a4] σ Q := wp_in rfl (XX_intro (g_X_knows (call := wp d) (cut := XX none (wp d) c_X_knows false Q) (Q := Q) (a1 := a1) (a2 := a2) (a3 := a3) (a4 := a4) (σ := σ) (h)))
theorem g_X_rests {call : Nat → List AV → Mem → (Int → Mem → Prop) → Prop} {cut : Nat → Lo → List AV → Mem → Prop} {Q : Int → Mem → Prop} {a1 : Int} {a2 : Int} {a3 : Int} {σ : Mem} (h :
  (a3 < 0 → call m_X_refuse [.inr (.inr 0), .inl 2] σ (fun (r1 : Int) (s2 : Mem) => Q r1 s2)) ∧
  (0 ≤ a3 →
    (2 < a3 →
      call m_X_refuse [.inr (.inr 0), .inl 2] σ (fun (r17 : Int) (s18 : Mem) => Q r17 s18)) ∧
    (a3 ≤ 2 →
      ((σ 7 0) = 0 →
        call m_X_refuse [.inr (.inr 0), .inl 3] σ (fun (r15 : Int) (s16 : Mem) => Q r15 s16)) ∧
      (¬ (σ 7 0) = 0 →
        call m_S_hasTests [.inr (.inr 7), .inl a1] σ (fun (r3 : Int) (s4 : Mem) =>
        (r3 = 0 →
            call m_X_refuse [.inr (.inr 0), .inl 1] s4 (fun (r5 : Int) (s6 : Mem) => Q r5 s6)) ∧
          (¬ r3 = 0 →
            call m_S_hasTests [.inr (.inr 7), .inl a2] s4 (fun (r7 : Int) (s8 : Mem) =>
            (r7 = 0 →
                call m_X_refuse [.inr (.inr 0), .inl 1] s8 (fun (r13 : Int) (s14 : Mem) => Q r13 s14)) ∧
              (¬ r7 = 0 →
                call m_K_weighRivals [.inr (.inr 45), .inl a1, .inl a2] s8 (fun (r9 : Int) (s10 : Mem) =>
                call m_K_findRests [.inr (.inr 45), .inl a1, .inl a2] s10 (fun (r11 : Int) (s12 : Mem) =>
                  (a3 = 0 → Q r11 s12) ∧
                    (¬ a3 = 0 →
                      (r11 = 0 → Q (-9) s12) ∧
                      (¬ r11 = 0 →
                        (a3 = 1 → Q (s12 45 3) s12) ∧
                        (¬ a3 = 1 → Q (s12 45 4) s12))))))))))))) : seg none call c_X_rests false Q cut 2000 true (toPc 0 c_X_rests) [some (.inr (.inr 0)), some (.inl a1), some (.inl a2), some (.inl a3), none] [] σ := h
theorem e_X_rests {d : Nat} {Q : Int → Mem → Prop} {a1 : Int} {a2 : Int} {a3 : Int} {σ : Mem} (h :
  (a3 < 0 → wp d m_X_refuse [.inr (.inr 0), .inl 2] σ (fun (r1 : Int) (s2 : Mem) => Q r1 s2)) ∧
  (0 ≤ a3 →
    (2 < a3 →
      wp d m_X_refuse [.inr (.inr 0), .inl 2] σ (fun (r17 : Int) (s18 : Mem) => Q r17 s18)) ∧
    (a3 ≤ 2 →
      ((σ 7 0) = 0 →
        wp d m_X_refuse [.inr (.inr 0), .inl 3] σ (fun (r15 : Int) (s16 : Mem) => Q r15 s16)) ∧
      (¬ (σ 7 0) = 0 →
        wp d m_S_hasTests [.inr (.inr 7), .inl a1] σ (fun (r3 : Int) (s4 : Mem) =>
        (r3 = 0 →
            wp d m_X_refuse [.inr (.inr 0), .inl 1] s4 (fun (r5 : Int) (s6 : Mem) => Q r5 s6)) ∧
          (¬ r3 = 0 →
            wp d m_S_hasTests [.inr (.inr 7), .inl a2] s4 (fun (r7 : Int) (s8 : Mem) =>
            (r7 = 0 →
                wp d m_X_refuse [.inr (.inr 0), .inl 1] s8 (fun (r13 : Int) (s14 : Mem) => Q r13 s14)) ∧
              (¬ r7 = 0 →
                wp d m_K_weighRivals [.inr (.inr 45), .inl a1, .inl a2] s8 (fun (r9 : Int) (s10 : Mem) =>
                wp d m_K_findRests [.inr (.inr 45), .inl a1, .inl a2] s10 (fun (r11 : Int) (s12 : Mem) =>
                  (a3 = 0 → Q r11 s12) ∧
                    (¬ a3 = 0 →
                      (r11 = 0 → Q (-9) s12) ∧
                      (¬ r11 = 0 →
                        (a3 = 1 → Q (s12 45 3) s12) ∧
                        (¬ a3 = 1 → Q (s12 45 4) s12))))))))))))) : wp (d + 1) m_X_rests [.inr (.inr 0), .inl a1, .inl a2, .inl a3] σ Q := wp_in rfl (XX_intro (g_X_rests (call := wp d) (cut := XX none (wp d) c_X_rests false Q) (Q := Q) (a1 := a1) (a2 := a2) (a3 := a3) (σ := σ) (h)))
theorem g_X_shown {call : Nat → List AV → Mem → (Int → Mem → Prop) → Prop} {cut : Nat → Lo → List AV → Mem → Prop} {Q : Int → Mem → Prop} {a1 : Int} {σ : Mem} (h :
  call m_S_lacksLook [.inr (.inr 7), .inl a1] σ (fun (r1 : Int) (s2 : Mem) =>
  (r1 = 0 →
      call m_Z_settle [.inr (.inr 47), .inl a1] s2 (fun (r3 : Int) (s4 : Mem) => Q r3 s4)) ∧
    (¬ r1 = 0 →
      call m_X_refuse [.inr (.inr 0), .inl r1] s2 (fun (r5 : Int) (s6 : Mem) => Q r5 s6)))) : seg none call c_X_shown false Q cut 2000 true (toPc 0 c_X_shown) [some (.inr (.inr 0)), some (.inl a1), none] [] σ := h
theorem e_X_shown {d : Nat} {Q : Int → Mem → Prop} {a1 : Int} {σ : Mem} (h :
  wp d m_S_lacksLook [.inr (.inr 7), .inl a1] σ (fun (r1 : Int) (s2 : Mem) =>
  (r1 = 0 →
      wp d m_Z_settle [.inr (.inr 47), .inl a1] s2 (fun (r3 : Int) (s4 : Mem) => Q r3 s4)) ∧
    (¬ r1 = 0 →
      wp d m_X_refuse [.inr (.inr 0), .inl r1] s2 (fun (r5 : Int) (s6 : Mem) => Q r5 s6)))) : wp (d + 1) m_X_shown [.inr (.inr 0), .inl a1] σ Q := wp_in rfl (XX_intro (g_X_shown (call := wp d) (cut := XX none (wp d) c_X_shown false Q) (Q := Q) (a1 := a1) (σ := σ) (h)))
theorem g_X_law {call : Nat → List AV → Mem → (Int → Mem → Prop) → Prop} {cut : Nat → Lo → List AV → Mem → Prop} {Q : Int → Mem → Prop} {a1 : Int} {a2 : Int} {σ : Mem} (h :
  call m_X_isPart [.inl a2] σ (fun (r1 : Int) (s2 : Mem) =>
  (r1 = 0 →
      ((2 : Int) = 0 →
        call m_Z_settle [.inr (.inr 47), .inl a1] s2 (fun (r3 : Int) (s4 : Mem) =>
        call m_Z_lostByJudge [.inr (.inr 47), .inl a1, .inl r3] s4 (fun (r5 : Int) (s6 : Mem) =>
          call m_X_tell [.inr (.inl r5), .inr (.inl (w64 ((s6 7 6) * 60))), .inl a2] s6 (fun (r7 : Int) (s8 : Mem) => Q r7 s8)))) ∧
      (¬ (2 : Int) = 0 →
        call m_X_refuseFar [.inr (.inr 0), .inl 2] s2 (fun (r9 : Int) (s10 : Mem) => Q r9 s10))) ∧
    (¬ r1 = 0 →
      call m_S_lacksLook [.inr (.inr 7), .inl a1] s2 (fun (r11 : Int) (s12 : Mem) =>
      (r11 = 0 →
          call m_Z_settle [.inr (.inr 47), .inl a1] s12 (fun (r13 : Int) (s14 : Mem) =>
          call m_Z_lostByJudge [.inr (.inr 47), .inl a1, .inl r13] s14 (fun (r15 : Int) (s16 : Mem) =>
            call m_X_tell [.inr (.inl r15), .inr (.inl (w64 ((s16 7 6) * 60))), .inl a2] s16 (fun (r17 : Int) (s18 : Mem) => Q r17 s18)))) ∧
        (¬ r11 = 0 →
          call m_X_refuseFar [.inr (.inr 0), .inl r11] s12 (fun (r19 : Int) (s20 : Mem) => Q r19 s20)))))) : seg none call c_X_law false Q cut 2000 true (toPc 0 c_X_law) [some (.inr (.inr 0)), some (.inl a1), some (.inl a2), none] [] σ := h
theorem e_X_law {d : Nat} {Q : Int → Mem → Prop} {a1 : Int} {a2 : Int} {σ : Mem} (h :
  wp d m_X_isPart [.inl a2] σ (fun (r1 : Int) (s2 : Mem) =>
  (r1 = 0 →
      wp d m_X_refuseFar [.inr (.inr 0), .inl 2] s2 (fun (r9 : Int) (s10 : Mem) => Q r9 s10)) ∧
    (¬ r1 = 0 →
      wp d m_S_lacksLook [.inr (.inr 7), .inl a1] s2 (fun (r11 : Int) (s12 : Mem) =>
      (r11 = 0 →
          wp d m_Z_settle [.inr (.inr 47), .inl a1] s12 (fun (r13 : Int) (s14 : Mem) =>
          wp d m_Z_lostByJudge [.inr (.inr 47), .inl a1, .inl r13] s14 (fun (r15 : Int) (s16 : Mem) =>
            wp d m_X_tell [.inr (.inl r15), .inr (.inl (w64 ((s16 7 6) * 60))), .inl a2] s16 (fun (r17 : Int) (s18 : Mem) => Q r17 s18)))) ∧
        (¬ r11 = 0 →
          wp d m_X_refuseFar [.inr (.inr 0), .inl r11] s12 (fun (r19 : Int) (s20 : Mem) => Q r19 s20)))))) : wp (d + 1) m_X_law [.inr (.inr 0), .inl a1, .inl a2] σ Q := wp_in rfl (XX_intro (g_X_law (call := wp d) (cut := XX none (wp d) c_X_law false Q) (Q := Q) (a1 := a1) (a2 := a2) (σ := σ) (wp_conseq (fun _ _ z3 => ⟨fun z2 => ⟨fun z1 => absurd z1 (by decide), fun _ => ((z3).1 z2)⟩, fun z2 => (z3).2 z2⟩) (h))))
theorem g_X_time {call : Nat → List AV → Mem → (Int → Mem → Prop) → Prop} {cut : Nat → Lo → List AV → Mem → Prop} {Q : Int → Mem → Prop} {a1 : Int} {a2 : Int} {a3 : Int} {a4 : Int} {σ : Mem} (h :
  call m_X_isPart [.inl a4] σ (fun (r1 : Int) (s2 : Mem) =>
  (r1 = 0 →
      call m_X_refuseFar [.inr (.inr 0), .inl 2] s2 (fun (r43 : Int) (s44 : Mem) => Q r43 s44)) ∧
    (¬ r1 = 0 →
      ((s2 7 0) = 0 →
        call m_X_refuseFar [.inr (.inr 0), .inl 3] s2 (fun (r41 : Int) (s42 : Mem) => Q r41 s42)) ∧
      (¬ (s2 7 0) = 0 →
        call m_S_isOrder [.inr (.inr 7), .inl a1, .inl a2, .inl a3] s2 (fun (r3 : Int) (s4 : Mem) =>
        (r3 = 0 →
            call m_X_refuseFar [.inr (.inr 0), .inl 1] s4 (fun (r39 : Int) (s40 : Mem) => Q r39 s40)) ∧
          (¬ r3 = 0 →
            call m_B_attendNone [.inr (.inr 35)] s4 (fun (r5 : Int) (s6 : Mem) =>
            call m_B_attendTest [.inr (.inr 35), .inl a1] s6 (fun (r7 : Int) (s8 : Mem) =>
              (a2 = (-1) →
                  (a3 = (-1) →
                    call m_B_bestRule [.inr (.inr 35)] s8 (fun (r9 : Int) (s10 : Mem) =>
                    call m_B_unit [.inr (.inr 35)] s10 (fun (r11 : Int) (s12 : Mem) =>
                      call m_X_tell [.inr (.inl r9), .inr (.inl r11), .inl a4] s12 (fun (r13 : Int) (s14 : Mem) => Q r13 s14)))) ∧
                  (¬ a3 = (-1) →
                    call m_B_attendTest [.inr (.inr 35), .inl a3] s8 (fun (r15 : Int) (s16 : Mem) =>
                    call m_B_bestRule [.inr (.inr 35)] s16 (fun (r17 : Int) (s18 : Mem) =>
                      call m_B_unit [.inr (.inr 35)] s18 (fun (r19 : Int) (s20 : Mem) =>
                        call m_X_tell [.inr (.inl r17), .inr (.inl r19), .inl a4] s20 (fun (r21 : Int) (s22 : Mem) => Q r21 s22)))))) ∧
                (¬ a2 = (-1) →
                  call m_B_attendTest [.inr (.inr 35), .inl a2] s8 (fun (r23 : Int) (s24 : Mem) =>
                  (a3 = (-1) →
                      call m_B_bestRule [.inr (.inr 35)] s24 (fun (r25 : Int) (s26 : Mem) =>
                      call m_B_unit [.inr (.inr 35)] s26 (fun (r27 : Int) (s28 : Mem) =>
                        call m_X_tell [.inr (.inl r25), .inr (.inl r27), .inl a4] s28 (fun (r29 : Int) (s30 : Mem) => Q r29 s30)))) ∧
                    (¬ a3 = (-1) →
                      call m_B_attendTest [.inr (.inr 35), .inl a3] s24 (fun (r31 : Int) (s32 : Mem) =>
                      call m_B_bestRule [.inr (.inr 35)] s32 (fun (r33 : Int) (s34 : Mem) =>
                        call m_B_unit [.inr (.inr 35)] s34 (fun (r35 : Int) (s36 : Mem) =>
                          call m_X_tell [.inr (.inl r33), .inr (.inl r35), .inl a4] s36 (fun (r37 : Int) (s38 : Mem) => Q r37 s38))))))))))))))) : seg none call c_X_time false Q cut 2000 true (toPc 0 c_X_time) [some (.inr (.inr 0)), some (.inl a1), some (.inl a2), some (.inl a3), some (.inl a4)] [] σ := h
theorem e_X_time {d : Nat} {Q : Int → Mem → Prop} {a1 : Int} {a2 : Int} {a3 : Int} {a4 : Int} {σ : Mem} (h :
  wp d m_X_isPart [.inl a4] σ (fun (r1 : Int) (s2 : Mem) =>
  (r1 = 0 →
      wp d m_X_refuseFar [.inr (.inr 0), .inl 2] s2 (fun (r43 : Int) (s44 : Mem) => Q r43 s44)) ∧
    (¬ r1 = 0 →
      ((s2 7 0) = 0 →
        wp d m_X_refuseFar [.inr (.inr 0), .inl 3] s2 (fun (r41 : Int) (s42 : Mem) => Q r41 s42)) ∧
      (¬ (s2 7 0) = 0 →
        wp d m_S_isOrder [.inr (.inr 7), .inl a1, .inl a2, .inl a3] s2 (fun (r3 : Int) (s4 : Mem) =>
        (r3 = 0 →
            wp d m_X_refuseFar [.inr (.inr 0), .inl 1] s4 (fun (r39 : Int) (s40 : Mem) => Q r39 s40)) ∧
          (¬ r3 = 0 →
            wp d m_B_attendNone [.inr (.inr 35)] s4 (fun (r5 : Int) (s6 : Mem) =>
            wp d m_B_attendTest [.inr (.inr 35), .inl a1] s6 (fun (r7 : Int) (s8 : Mem) =>
              (a2 = (-1) →
                  (a3 = (-1) →
                    wp d m_B_bestRule [.inr (.inr 35)] s8 (fun (r9 : Int) (s10 : Mem) =>
                    wp d m_B_unit [.inr (.inr 35)] s10 (fun (r11 : Int) (s12 : Mem) =>
                      wp d m_X_tell [.inr (.inl r9), .inr (.inl r11), .inl a4] s12 (fun (r13 : Int) (s14 : Mem) => Q r13 s14)))) ∧
                  (¬ a3 = (-1) →
                    wp d m_B_attendTest [.inr (.inr 35), .inl a3] s8 (fun (r15 : Int) (s16 : Mem) =>
                    wp d m_B_bestRule [.inr (.inr 35)] s16 (fun (r17 : Int) (s18 : Mem) =>
                      wp d m_B_unit [.inr (.inr 35)] s18 (fun (r19 : Int) (s20 : Mem) =>
                        wp d m_X_tell [.inr (.inl r17), .inr (.inl r19), .inl a4] s20 (fun (r21 : Int) (s22 : Mem) => Q r21 s22)))))) ∧
                (¬ a2 = (-1) →
                  wp d m_B_attendTest [.inr (.inr 35), .inl a2] s8 (fun (r23 : Int) (s24 : Mem) =>
                  (a3 = (-1) →
                      wp d m_B_bestRule [.inr (.inr 35)] s24 (fun (r25 : Int) (s26 : Mem) =>
                      wp d m_B_unit [.inr (.inr 35)] s26 (fun (r27 : Int) (s28 : Mem) =>
                        wp d m_X_tell [.inr (.inl r25), .inr (.inl r27), .inl a4] s28 (fun (r29 : Int) (s30 : Mem) => Q r29 s30)))) ∧
                    (¬ a3 = (-1) →
                      wp d m_B_attendTest [.inr (.inr 35), .inl a3] s24 (fun (r31 : Int) (s32 : Mem) =>
                      wp d m_B_bestRule [.inr (.inr 35)] s32 (fun (r33 : Int) (s34 : Mem) =>
                        wp d m_B_unit [.inr (.inr 35)] s34 (fun (r35 : Int) (s36 : Mem) =>
                          wp d m_X_tell [.inr (.inl r33), .inr (.inl r35), .inl a4] s36 (fun (r37 : Int) (s38 : Mem) => Q r37 s38))))))))))))))) : wp (d + 1) m_X_time [.inr (.inr 0), .inl a1, .inl a2, .inl a3, .inl a4] σ Q := wp_in rfl (XX_intro (g_X_time (call := wp d) (cut := XX none (wp d) c_X_time false Q) (Q := Q) (a1 := a1) (a2 := a2) (a3 := a3) (a4 := a4) (σ := σ) (h)))
theorem g_X_undo {call : Nat → List AV → Mem → (Int → Mem → Prop) → Prop} {cut : Nat → Lo → List AV → Mem → Prop} {Q : Int → Mem → Prop}  {σ : Mem} (h :
  ((σ 31 0) = 0 → call m_X_refuse [.inr (.inr 0), .inl 3] σ (fun (r3 : Int) (s4 : Mem) => Q r3 s4)) ∧
  (¬ (σ 31 0) = 0 →
    call m_P_takeBack [.inr (.inr 31), .inr (.inr 7)] σ (fun (r1 : Int) (s2 : Mem) => Q 1 s2))) : seg none call c_X_undo false Q cut 2000 true (toPc 0 c_X_undo) [some (.inr (.inr 0))] [] σ := h
theorem e_X_undo {d : Nat} {Q : Int → Mem → Prop}  {σ : Mem} (h :
  ((σ 31 0) = 0 → wp d m_X_refuse [.inr (.inr 0), .inl 3] σ (fun (r3 : Int) (s4 : Mem) => Q r3 s4)) ∧
  (¬ (σ 31 0) = 0 →
    wp d m_P_takeBack [.inr (.inr 31), .inr (.inr 7)] σ (fun (r1 : Int) (s2 : Mem) => Q 1 s2))) : wp (d + 1) m_X_undo [.inr (.inr 0)] σ Q := wp_in rfl (XX_intro (g_X_undo (call := wp d) (cut := XX none (wp d) c_X_undo false Q) (Q := Q)  (σ := σ) (h)))
theorem g_X_image {call : Nat → List AV → Mem → (Int → Mem → Prop) → Prop} {cut : Nat → Lo → List AV → Mem → Prop} {Q : Int → Mem → Prop}  {σ : Mem} (h :
  ((σ 7 0) = 0 → call m_X_refuse [.inr (.inr 0), .inl 3] σ (fun (r3 : Int) (s4 : Mem) => Q r3 s4)) ∧
  (¬ (σ 7 0) = 0 →
    call m_S_copyFrom [.inr (.inr 19), .inr (.inr 7)] σ (fun (r1 : Int) (s2 : Mem) => Q (s2 7 10) s2))) : seg none call c_X_image false Q cut 2000 true (toPc 0 c_X_image) [some (.inr (.inr 0))] [] σ := h
theorem e_X_image {d : Nat} {Q : Int → Mem → Prop}  {σ : Mem} (h :
  ((σ 7 0) = 0 → wp d m_X_refuse [.inr (.inr 0), .inl 3] σ (fun (r3 : Int) (s4 : Mem) => Q r3 s4)) ∧
  (¬ (σ 7 0) = 0 →
    wp d m_S_copyFrom [.inr (.inr 19), .inr (.inr 7)] σ (fun (r1 : Int) (s2 : Mem) => Q (s2 7 10) s2))) : wp (d + 1) m_X_image [.inr (.inr 0)] σ Q := wp_in rfl (XX_intro (g_X_image (call := wp d) (cut := XX none (wp d) c_X_image false Q) (Q := Q)  (σ := σ) (h)))
theorem g_X_on {call : Nat → List AV → Mem → (Int → Mem → Prop) → Prop} {cut : Nat → Lo → List AV → Mem → Prop} {Q : Int → Mem → Prop}  {σ : Mem} (h :
  ((σ 19 0) = 0 → call m_X_refuse [.inr (.inr 0), .inl 3] σ (fun (r3 : Int) (s4 : Mem) => Q r3 s4)) ∧
  (¬ (σ 19 0) = 0 →
    call m_S_copyFrom [.inr (.inr 7), .inr (.inr 19)] σ (fun (r1 : Int) (s2 : Mem) => Q ((mset s2 31 0 0) 7 10) (mset s2 31 0 0)))) : seg none call c_X_on false Q cut 2000 true (toPc 0 c_X_on) [some (.inr (.inr 0))] [] σ := h
theorem e_X_on {d : Nat} {Q : Int → Mem → Prop}  {σ : Mem} (h :
  ((σ 19 0) = 0 → wp d m_X_refuse [.inr (.inr 0), .inl 3] σ (fun (r3 : Int) (s4 : Mem) => Q r3 s4)) ∧
  (¬ (σ 19 0) = 0 →
    wp d m_S_copyFrom [.inr (.inr 7), .inr (.inr 19)] σ (fun (r1 : Int) (s2 : Mem) => Q ((mset s2 31 0 0) 7 10) (mset s2 31 0 0)))) : wp (d + 1) m_X_on [.inr (.inr 0)] σ Q := wp_in rfl (XX_intro (g_X_on (call := wp d) (cut := XX none (wp d) c_X_on false Q) (Q := Q)  (σ := σ) (h)))
theorem g_X_count {call : Nat → List AV → Mem → (Int → Mem → Prop) → Prop} {cut : Nat → Lo → List AV → Mem → Prop} {Q : Int → Mem → Prop} {a1 : Int} {σ : Mem} (h :
  (a1 < 0 ∨ 7 < a1 → (a1 < 11 → Q (-9) σ) ∧
    (11 ≤ a1 →
      (16 < a1 → Q (-9) σ) ∧
      (a1 ≤ 16 →
        (0 ≤ (w32 (a1 - 10)) ∧ (w32 (a1 - 10)) < (7 : Int)) ∧ Q (σ 48 (w32 (a1 - 10)).toNat) σ))) ∧
  (a1 = 0 → Q (σ 7 1) σ) ∧
  (a1 = 0 + 1 → Q (σ 7 2) σ) ∧
  (a1 = 0 + 1 + 1 → Q (σ 7 10) σ) ∧
  (a1 = 0 + 1 + 1 + 1 → Q (σ 7 13) σ) ∧
  (a1 = 0 + 1 + 1 + 1 + 1 → Q (σ 7 16) σ) ∧
  (a1 = 0 + 1 + 1 + 1 + 1 + 1 → Q (σ 0 2) σ) ∧
  (a1 = 0 + 1 + 1 + 1 + 1 + 1 + 1 → Q (σ 1 1) σ) ∧
  (a1 = 0 + 1 + 1 + 1 + 1 + 1 + 1 + 1 → Q (σ 31 0) σ) ∧ True) : seg none call c_X_count false Q cut 2000 true (toPc 0 c_X_count) [some (.inr (.inr 0)), some (.inl a1)] [] σ := h
theorem e_X_count {d : Nat} {Q : Int → Mem → Prop} {a1 : Int} {σ : Mem} (h :
  (a1 < 0 ∨ 7 < a1 → (a1 < 11 → Q (-9) σ) ∧
    (11 ≤ a1 →
      (16 < a1 → Q (-9) σ) ∧
      (a1 ≤ 16 →
        (0 ≤ (w32 (a1 - 10)) ∧ (w32 (a1 - 10)) < (7 : Int)) ∧ Q (σ 48 (w32 (a1 - 10)).toNat) σ))) ∧
  (a1 = 0 → Q (σ 7 1) σ) ∧
  (a1 = 1 → Q (σ 7 2) σ) ∧
  (a1 = 2 → Q (σ 7 10) σ) ∧
  (a1 = 3 → Q (σ 7 13) σ) ∧
  (a1 = 4 → Q (σ 7 16) σ) ∧
  (a1 = 5 → Q (σ 0 2) σ) ∧
  (a1 = 6 → Q (σ 1 1) σ) ∧
  (a1 = 7 → Q (σ 31 0) σ)) : wp (d + 1) m_X_count [.inr (.inr 0), .inl a1] σ Q := wp_in rfl (XX_intro (g_X_count (call := wp d) (cut := XX none (wp d) c_X_count false Q) (Q := Q) (a1 := a1) (σ := σ) (⟨fun z1 => ((h).1 z1), fun z1 => ((h).2.1 (z1.trans (by decide))), fun z1 => ((h).2.2.1 (z1.trans (by decide))), fun z1 => ((h).2.2.2.1 (z1.trans (by decide))), fun z1 => ((h).2.2.2.2.1 (z1.trans (by decide))), fun z1 => ((h).2.2.2.2.2.1 (z1.trans (by decide))), fun z1 => ((h).2.2.2.2.2.2.1 (z1.trans (by decide))), fun z1 => ((h).2.2.2.2.2.2.2.1 (z1.trans (by decide))), fun z1 => ((h).2.2.2.2.2.2.2.2 (z1.trans (by decide))), trivial⟩)))
theorem g_X_refuse {call : Nat → List AV → Mem → (Int → Mem → Prop) → Prop} {cut : Nat → Lo → List AV → Mem → Prop} {Q : Int → Mem → Prop} {a1 : Int} {σ : Mem} (h :
  (0 ≤ a1 ∧ a1 < (7 : Int)) ∧ (0 ≤ a1 ∧ a1 < (7 : Int)) ∧ Q (w32 (-a1)) (mset σ 48 a1.toNat (w32 ((σ 48 a1.toNat) + 1)))) : seg none call c_X_refuse false Q cut 2000 true (toPc 0 c_X_refuse) [some (.inr (.inr 0)), some (.inl a1)] [] σ := h
theorem e_X_refuse {d : Nat} {Q : Int → Mem → Prop} {a1 : Int} {σ : Mem} (h :
  (0 ≤ a1 ∧ a1 < (7 : Int)) ∧ (0 ≤ a1 ∧ a1 < (7 : Int)) ∧ Q (w32 (-a1)) (mset σ 48 a1.toNat (w32 ((σ 48 a1.toNat) + 1)))) : wp (d + 1) m_X_refuse [.inr (.inr 0), .inl a1] σ Q := wp_in rfl (XX_intro (g_X_refuse (call := wp d) (cut := XX none (wp d) c_X_refuse false Q) (Q := Q) (a1 := a1) (σ := σ) (h)))
theorem g_X_refuseFar {call : Nat → List AV → Mem → (Int → Mem → Prop) → Prop} {cut : Nat → Lo → List AV → Mem → Prop} {Q : Int → Mem → Prop} {a1 : Int} {σ : Mem} (h :
  call m_X_refuse [.inr (.inr 0), .inl a1] σ (fun (r1 : Int) (s2 : Mem) => Q (w64 (r1 - 4000000000000000000)) s2)) : seg none call c_X_refuseFar false Q cut 2000 true (toPc 0 c_X_refuseFar) [some (.inr (.inr 0)), some (.inl a1)] [] σ := h
theorem e_X_refuseFar {d : Nat} {Q : Int → Mem → Prop} {a1 : Int} {σ : Mem} (h :
  wp d m_X_refuse [.inr (.inr 0), .inl a1] σ (fun (r1 : Int) (s2 : Mem) => Q (w64 (r1 - 4000000000000000000)) s2)) : wp (d + 1) m_X_refuseFar [.inr (.inr 0), .inl a1] σ Q := wp_in rfl (XX_intro (g_X_refuseFar (call := wp d) (cut := XX none (wp d) c_X_refuseFar false Q) (Q := Q) (a1 := a1) (σ := σ) (h)))
abbrev K_X_rowFits_20 (d : Nat) (Q : Int → Mem → Prop) (x1 : Int) (x2 : Int) (σ : Mem) : Prop := XX none (wp d) c_X_rowFits true Q 20 [some (.inr (.inr 0)), some (.inl x1), some (.inl x2), none, none] [] σ
abbrev K_X_rowFits_36 (d : Nat) (Q : Int → Mem → Prop) (x1 : Int) (x2 : Int) (x3 : Int) (x4 : Int) (σ : Mem) : Prop := XX none (wp d) c_X_rowFits true Q 36 [some (.inr (.inr 0)), some (.inl x1), some (.inl x2), some (.inl x3), some (.inl x4)] [] σ
theorem g_X_rowFits {call : Nat → List AV → Mem → (Int → Mem → Prop) → Prop} {cut : Nat → Lo → List AV → Mem → Prop} {Q : Int → Mem → Prop} {a1 : Int} {σ : Mem} (h :
  ((σ 0 2) = (w32 (a1 * (σ 7 1))) → cut 20 [some (.inr (.inr 0)), some (.inl a1), some (.inl 0), none, none] [] σ) ∧
  (¬ (σ 0 2) = (w32 (a1 * (σ 7 1))) → isB 0 ∧ Q 0 σ)) : seg none call c_X_rowFits true Q cut 2000 true (toPc 0 c_X_rowFits) [some (.inr (.inr 0)), some (.inl a1), none, none, none] [] σ := h
theorem e_X_rowFits {d : Nat} {Q : Int → Mem → Prop} {a1 : Int} {σ : Mem} (h :
  ((σ 0 2) = (w32 (a1 * (σ 7 1))) → K_X_rowFits_20 d Q a1 0 σ) ∧
  (¬ (σ 0 2) = (w32 (a1 * (σ 7 1))) → Q 0 σ)) : wp (d + 1) m_X_rowFits [.inr (.inr 0), .inl a1] σ Q := wp_in rfl (XX_intro (g_X_rowFits (call := wp d) (cut := XX none (wp d) c_X_rowFits true Q) (Q := Q) (a1 := a1) (σ := σ) (⟨fun z1 => (h).1 z1, fun z1 => ⟨isB0, ((h).2 z1)⟩⟩)))
theorem g_X_rowFits_20 {call : Nat → List AV → Mem → (Int → Mem → Prop) → Prop} {cut : Nat → Lo → List AV → Mem → Prop} {Q : Int → Mem → Prop} {x1 : Int} {x2 : Int} {σ : Mem} (h :
  (x2 < (σ 7 1) →
    cut 36 [some (.inr (.inr 0)), some (.inl x1), some (.inl x2), some (.inl 0), some (.inl 0)] [] σ) ∧
  ((σ 7 1) ≤ x2 → isB 1 ∧ Q 1 σ)) : seg none call c_X_rowFits true Q cut 2000 true (toPc 20 c_X_rowFits) [some (.inr (.inr 0)), some (.inl x1), some (.inl x2), none, none] [] σ := h
theorem e_X_rowFits_20 {d : Nat} {Q : Int → Mem → Prop} {x1 : Int} {x2 : Int} {σ : Mem} (h :
  (x2 < (σ 7 1) → K_X_rowFits_36 d Q x1 x2 0 0 σ) ∧
  ((σ 7 1) ≤ x2 → Q 1 σ)) : K_X_rowFits_20 d Q x1 x2 σ := XX_intro (g_X_rowFits_20 (call := wp d) (cut := XX none (wp d) c_X_rowFits true Q) (Q := Q) (x1 := x1) (x2 := x2) (σ := σ) (⟨fun z1 => (h).1 z1, fun z1 => ⟨isB1, ((h).2 z1)⟩⟩))
theorem g_X_rowFits_36 {call : Nat → List AV → Mem → (Int → Mem → Prop) → Prop} {cut : Nat → Lo → List AV → Mem → Prop} {Q : Int → Mem → Prop} {x1 : Int} {x2 : Int} {x3 : Int} {x4 : Int} {σ : Mem} (h :
  (x4 < x1 →
    (0 ≤ (w32 ((w32 (x2 * x1)) + x4)) ∧ (w32 ((w32 (x2 * x1)) + x4)) < (24 : Int)) ∧ cut 36 [some (.inr (.inr 0)), some (.inl x1), some (.inl x2), some (.inl (w32 (x3 + (σ 6 (w32 ((w32 (x2 * x1)) + x4)).toNat)))), some (.inl (w32 (x4 + 1)))] [] σ) ∧
  (x1 ≤ x4 →
    (x3 = 60 →
      cut 20 [some (.inr (.inr 0)), some (.inl x1), some (.inl (w32 (x2 + 1))), none, none] [] σ) ∧
    (¬ x3 = 60 → isB 0 ∧ Q 0 σ))) : seg none call c_X_rowFits true Q cut 2000 true (toPc 36 c_X_rowFits) [some (.inr (.inr 0)), some (.inl x1), some (.inl x2), some (.inl x3), some (.inl x4)] [] σ := h
theorem e_X_rowFits_36 {d : Nat} {Q : Int → Mem → Prop} {x1 : Int} {x2 : Int} {x3 : Int} {x4 : Int} {σ : Mem} (h :
  (x4 < x1 →
    (0 ≤ (w32 ((w32 (x2 * x1)) + x4)) ∧ (w32 ((w32 (x2 * x1)) + x4)) < (24 : Int)) ∧ K_X_rowFits_36 d Q x1 x2 (w32 (x3 + (σ 6 (w32 ((w32 (x2 * x1)) + x4)).toNat))) (w32 (x4 + 1)) σ) ∧
  (x1 ≤ x4 →
    (x3 = 60 → K_X_rowFits_20 d Q x1 (w32 (x2 + 1)) σ) ∧
    (¬ x3 = 60 → Q 0 σ))) : K_X_rowFits_36 d Q x1 x2 x3 x4 σ := XX_intro (g_X_rowFits_36 (call := wp d) (cut := XX none (wp d) c_X_rowFits true Q) (Q := Q) (x1 := x1) (x2 := x2) (x3 := x3) (x4 := x4) (σ := σ) (⟨fun z2 => (h).1 z2, fun z2 => ⟨fun z1 => (((h).2 z2)).1 z1, fun z1 => ⟨isB0, ((((h).2 z2)).2 z1)⟩⟩⟩))
theorem g_X_keepLook {call : Nat → List AV → Mem → (Int → Mem → Prop) → Prop} {cut : Nat → Lo → List AV → Mem → Prop} {Q : Int → Mem → Prop} {a1 : Int} {σ : Mem} (h :
  (0 ≤ (σ 7 10) ∧ (σ 7 10) < (12 : Int)) ∧ call m_P_keep [.inr (.inr 31), .inl 0, .inl 0, .inl 0] (mset (mset σ 13 (σ 7 10).toNat a1) 7 10 (w32 (((mset σ 13 (σ 7 10).toNat a1) 7 10) + 1))) (fun (r1 : Int) (s2 : Mem) => Q (σ 7 10) s2)) : seg none call c_X_keepLook false Q cut 2000 true (toPc 0 c_X_keepLook) [some (.inr (.inr 0)), some (.inl a1), none] [] σ := h
theorem e_X_keepLook {d : Nat} {Q : Int → Mem → Prop} {a1 : Int} {σ : Mem} (h :
  (0 ≤ (σ 7 10) ∧ (σ 7 10) < (12 : Int)) ∧ wp d m_P_keep [.inr (.inr 31), .inl 0, .inl 0, .inl 0] (mset (mset σ 13 (σ 7 10).toNat a1) 7 10 (w32 (((mset σ 13 (σ 7 10).toNat a1) 7 10) + 1))) (fun (r1 : Int) (s2 : Mem) => Q (σ 7 10) s2)) : wp (d + 1) m_X_keepLook [.inr (.inr 0), .inl a1] σ Q := wp_in rfl (XX_intro (g_X_keepLook (call := wp d) (cut := XX none (wp d) c_X_keepLook false Q) (Q := Q) (a1 := a1) (σ := σ) (h)))
theorem g_X_lacksEdge {call : Nat → List AV → Mem → (Int → Mem → Prop) → Prop} {cut : Nat → Lo → List AV → Mem → Prop} {Q : Int → Mem → Prop} {a1 : Int} {a2 : Int} {σ : Mem} (h :
  call m_X_isPart [.inl a2] σ (fun (r1 : Int) (s2 : Mem) =>
  (r1 = 0 → Q 2 s2) ∧
    (¬ r1 = 0 →
      call m_S_hasTwo [.inr (.inr 7)] s2 (fun (r3 : Int) (s4 : Mem) =>
      (r3 = 0 → Q 3 s4) ∧
        (¬ r3 = 0 →
          call m_L_survey [.inr (.inr 39)] s4 (fun (r5 : Int) (s6 : Mem) =>
          call m_L_hasEdge [.inr (.inr 39), .inl a1] s6 (fun (r7 : Int) (s8 : Mem) => (r7 = 0 → Q 1 s8) ∧
              (¬ r7 = 0 → Q 0 s8)))))))) : seg none call c_X_lacksEdge false Q cut 2000 true (toPc 0 c_X_lacksEdge) [some (.inr (.inr 0)), some (.inl a1), some (.inl a2)] [] σ := h
theorem e_X_lacksEdge {d : Nat} {Q : Int → Mem → Prop} {a1 : Int} {a2 : Int} {σ : Mem} (h :
  wp d m_X_isPart [.inl a2] σ (fun (r1 : Int) (s2 : Mem) =>
  (r1 = 0 → Q 2 s2) ∧
    (¬ r1 = 0 →
      wp d m_S_hasTwo [.inr (.inr 7)] s2 (fun (r3 : Int) (s4 : Mem) =>
      (r3 = 0 → Q 3 s4) ∧
        (¬ r3 = 0 →
          wp d m_L_survey [.inr (.inr 39)] s4 (fun (r5 : Int) (s6 : Mem) =>
          wp d m_L_hasEdge [.inr (.inr 39), .inl a1] s6 (fun (r7 : Int) (s8 : Mem) => (r7 = 0 → Q 1 s8) ∧
              (¬ r7 = 0 → Q 0 s8)))))))) : wp (d + 1) m_X_lacksEdge [.inr (.inr 0), .inl a1, .inl a2] σ Q := wp_in rfl (XX_intro (g_X_lacksEdge (call := wp d) (cut := XX none (wp d) c_X_lacksEdge false Q) (Q := Q) (a1 := a1) (a2 := a2) (σ := σ) (h)))
theorem g_X_isPart {call : Nat → List AV → Mem → (Int → Mem → Prop) → Prop} {cut : Nat → Lo → List AV → Mem → Prop} {Q : Int → Mem → Prop} {a0 : Int} {σ : Mem} (h :
  (a0 = 0 → isB 1 ∧ Q 1 σ) ∧
  (¬ a0 = 0 →
    (a0 = 1 → isB 1 ∧ Q 1 σ) ∧
    (¬ a0 = 1 → isB 0 ∧ Q 0 σ))) : seg none call c_X_isPart true Q cut 2000 true (toPc 0 c_X_isPart) [some (.inl a0)] [] σ := h
theorem e_X_isPart {d : Nat} {Q : Int → Mem → Prop} {a0 : Int} {σ : Mem} (h :
  (a0 = 0 → Q 1 σ) ∧
  (¬ a0 = 0 →
    (a0 = 1 → Q 1 σ) ∧
    (¬ a0 = 1 → Q 0 σ))) : wp (d + 1) m_X_isPart [.inl a0] σ Q := wp_in rfl (XX_intro (g_X_isPart (call := wp d) (cut := XX none (wp d) c_X_isPart true Q) (Q := Q) (a0 := a0) (σ := σ) (⟨fun z2 => ⟨isB1, ((h).1 z2)⟩, fun z2 => ⟨fun z1 => ⟨isB1, ((((h).2 z2)).1 z1)⟩, fun z1 => ⟨isB0, ((((h).2 z2)).2 z1)⟩⟩⟩)))
theorem g_X_tell {call : Nat → List AV → Mem → (Int → Mem → Prop) → Prop} {cut : Nat → Lo → List AV → Mem → Prop} {Q : Int → Mem → Prop} {a0 : Int} {a1 : Int} {a2 : Int} {σ : Mem} (h :
  call m_X_commonDivisor [.inr (.inl a0), .inr (.inl a1)] σ (fun (r1 : Int) (s2 : Mem) =>
  (a2 = 0 →
      (1 < r1 → (¬ r1 = 0) ∧ Q (w64 (Int.tdiv a0 r1)) s2) ∧
      (r1 ≤ 1 → Q a0 s2)) ∧
    (¬ a2 = 0 →
      (1 < r1 → (¬ r1 = 0) ∧ Q (w64 (Int.tdiv a1 r1)) s2) ∧
      (r1 ≤ 1 → Q a1 s2)))) : seg none call c_X_tell false Q cut 2000 true (toPc 0 c_X_tell) [some (.inr (.inl a0)), none, some (.inr (.inl a1)), none, some (.inl a2), none, none, none, none] [] σ := h
theorem e_X_tell {d : Nat} {Q : Int → Mem → Prop} {a0 : Int} {a1 : Int} {a2 : Int} {σ : Mem} (h :
  wp d m_X_commonDivisor [.inr (.inl a0), .inr (.inl a1)] σ (fun (r1 : Int) (s2 : Mem) =>
  (a2 = 0 →
      (1 < r1 → (¬ r1 = 0) ∧ Q (w64 (Int.tdiv a0 r1)) s2) ∧
      (r1 ≤ 1 → Q a0 s2)) ∧
    (¬ a2 = 0 →
      (1 < r1 → (¬ r1 = 0) ∧ Q (w64 (Int.tdiv a1 r1)) s2) ∧
      (r1 ≤ 1 → Q a1 s2)))) : wp (d + 1) m_X_tell [.inr (.inl a0), .inr (.inl a1), .inl a2] σ Q := wp_in rfl (XX_intro (g_X_tell (call := wp d) (cut := XX none (wp d) c_X_tell false Q) (Q := Q) (a0 := a0) (a1 := a1) (a2 := a2) (σ := σ) (h)))
abbrev K_X_commonDivisor_15 (d : Nat) (Q : Int → Mem → Prop) (x4 : Int) (x6 : Int) (x8 : Int) (σ : Mem) : Prop := XX none (wp d) c_X_commonDivisor false Q 15 [none, none, none, none, some (.inr (.inl x4)), none, some (.inr (.inl x6)), none, some (.inl x8), none, none] [] σ
theorem g_X_commonDivisor {call : Nat → List AV → Mem → (Int → Mem → Prop) → Prop} {cut : Nat → Lo → List AV → Mem → Prop} {Q : Int → Mem → Prop} {a0 : Int} {a1 : Int} {σ : Mem} (h :
  cut 15 [none, none, none, none, some (.inr (.inl (w64 (a0.natAbs : Int)))), none, some (.inr (.inl (w64 (a1.natAbs : Int)))), none, some (.inl 0), none, none] [] σ) : seg none call c_X_commonDivisor false Q cut 2000 true (toPc 0 c_X_commonDivisor) [some (.inr (.inl a0)), none, some (.inr (.inl a1)), none, none, none, none, none, none, none, none] [] σ := h
theorem e_X_commonDivisor {d : Nat} {Q : Int → Mem → Prop} {a0 : Int} {a1 : Int} {σ : Mem} (h :
  K_X_commonDivisor_15 d Q (w64 (a0.natAbs : Int)) (w64 (a1.natAbs : Int)) 0 σ) : wp (d + 1) m_X_commonDivisor [.inr (.inl a0), .inr (.inl a1)] σ Q := wp_in rfl (XX_intro (g_X_commonDivisor (call := wp d) (cut := XX none (wp d) c_X_commonDivisor false Q) (Q := Q) (a0 := a0) (a1 := a1) (σ := σ) (h)))
theorem g_X_commonDivisor_15 {call : Nat → List AV → Mem → (Int → Mem → Prop) → Prop} {cut : Nat → Lo → List AV → Mem → Prop} {Q : Int → Mem → Prop} {x4 : Int} {x6 : Int} {x8 : Int} {σ : Mem} (h :
  (x8 < 200 →
    (x6 = 0 → Q x4 σ) ∧
    (¬ x6 = 0 →
      (¬ x6 = 0) ∧ cut 15 [none, none, none, none, some (.inr (.inl x6)), none, some (.inr (.inl (Int.tmod x4 x6))), none, some (.inl (w32 (x8 + 1))), none, none] [] σ)) ∧
  (200 ≤ x8 → Q x4 σ)) : seg none call c_X_commonDivisor false Q cut 2000 true (toPc 15 c_X_commonDivisor) [none, none, none, none, some (.inr (.inl x4)), none, some (.inr (.inl x6)), none, some (.inl x8), none, none] [] σ := h
theorem e_X_commonDivisor_15 {d : Nat} {Q : Int → Mem → Prop} {x4 : Int} {x6 : Int} {x8 : Int} {σ : Mem} (h :
  (x8 < 200 →
    (x6 = 0 → Q x4 σ) ∧
    (¬ x6 = 0 → (¬ x6 = 0) ∧ K_X_commonDivisor_15 d Q x6 (Int.tmod x4 x6) (w32 (x8 + 1)) σ)) ∧
  (200 ≤ x8 → Q x4 σ)) : K_X_commonDivisor_15 d Q x4 x6 x8 σ := XX_intro (g_X_commonDivisor_15 (call := wp d) (cut := XX none (wp d) c_X_commonDivisor false Q) (Q := Q) (x4 := x4) (x6 := x6) (x8 := x8) (σ := σ) (h))
abbrev K_X_wholes_4 (d : Nat) (Q : Int → Mem → Prop) (x0 : Int) (x1 : Int) (x3 : Int) (σ : Mem) : Prop := XX none (wp d) c_X_wholes false Q 4 [some (.inl x0), some (.inr (.inl x1)), none, some (.inl x3)] [] σ
theorem g_X_wholes {call : Nat → List AV → Mem → (Int → Mem → Prop) → Prop} {cut : Nat → Lo → List AV → Mem → Prop} {Q : Int → Mem → Prop} {a0 : Int} {σ : Mem} (h :
  cut 4 [some (.inl a0), some (.inr (.inl 1)), none, some (.inl 0)] [] σ) : seg none call c_X_wholes false Q cut 2000 true (toPc 0 c_X_wholes) [some (.inl a0), none, none, none] [] σ := h
theorem e_X_wholes {d : Nat} {Q : Int → Mem → Prop} {a0 : Int} {σ : Mem} (h :
  K_X_wholes_4 d Q a0 1 0 σ) : wp (d + 1) m_X_wholes [.inl a0] σ Q := wp_in rfl (XX_intro (g_X_wholes (call := wp d) (cut := XX none (wp d) c_X_wholes false Q) (Q := Q) (a0 := a0) (σ := σ) (h)))
theorem g_X_wholes_4 {call : Nat → List AV → Mem → (Int → Mem → Prop) → Prop} {cut : Nat → Lo → List AV → Mem → Prop} {Q : Int → Mem → Prop} {x0 : Int} {x1 : Int} {x3 : Int} {σ : Mem} (h :
  (x3 < x0 →
    (x3 < 3 →
      cut 4 [some (.inl x0), some (.inr (.inl (w64 (x1 * 60)))), none, some (.inl (w32 (x3 + 1)))] [] σ) ∧
    (3 ≤ x3 → Q x1 σ)) ∧
  (x0 ≤ x3 → Q x1 σ)) : seg none call c_X_wholes false Q cut 2000 true (toPc 4 c_X_wholes) [some (.inl x0), some (.inr (.inl x1)), none, some (.inl x3)] [] σ := h
theorem e_X_wholes_4 {d : Nat} {Q : Int → Mem → Prop} {x0 : Int} {x1 : Int} {x3 : Int} {σ : Mem} (h :
  (x3 < x0 →
    (x3 < 3 → K_X_wholes_4 d Q x0 (w64 (x1 * 60)) (w32 (x3 + 1)) σ) ∧
    (3 ≤ x3 → Q x1 σ)) ∧
  (x0 ≤ x3 → Q x1 σ)) : K_X_wholes_4 d Q x0 x1 x3 σ := XX_intro (g_X_wholes_4 (call := wp d) (cut := XX none (wp d) c_X_wholes false Q) (Q := Q) (x0 := x0) (x1 := x1) (x3 := x3) (σ := σ) (h))
theorem g_M_in {call : Nat → List AV → Mem → (Int → Mem → Prop) → Prop} {cut : Nat → Lo → List AV → Mem → Prop} {Q : Int → Mem → Prop} {a0 : Int} {a1 : Int} {a2 : Int} {σ : Mem} (h :
  (a0 < a1 → isB 0 ∧ Q 0 σ) ∧
  (a1 ≤ a0 →
    (a2 < a0 → isB 0 ∧ Q 0 σ) ∧
    (a0 ≤ a2 → isB 1 ∧ Q 1 σ))) : seg none call c_M_in true Q cut 2000 true (toPc 0 c_M_in) [some (.inr (.inl a0)), none, some (.inr (.inl a1)), none, some (.inr (.inl a2)), none] [] σ := h
theorem e_M_in {d : Nat} {Q : Int → Mem → Prop} {a0 : Int} {a1 : Int} {a2 : Int} {σ : Mem} (h :
  (a0 < a1 → Q 0 σ) ∧
  (a1 ≤ a0 →
    (a2 < a0 → Q 0 σ) ∧
    (a0 ≤ a2 → Q 1 σ))) : wp (d + 1) m_M_in [.inr (.inl a0), .inr (.inl a1), .inr (.inl a2)] σ Q := wp_in rfl (XX_intro (g_M_in (call := wp d) (cut := XX none (wp d) c_M_in true Q) (Q := Q) (a0 := a0) (a1 := a1) (a2 := a2) (σ := σ) (⟨fun z2 => ⟨isB0, ((h).1 z2)⟩, fun z2 => ⟨fun z1 => ⟨isB0, ((((h).2 z2)).1 z1)⟩, fun z1 => ⟨isB1, ((((h).2 z2)).2 z1)⟩⟩⟩)))
theorem g_M_refuse {call : Nat → List AV → Mem → (Int → Mem → Prop) → Prop} {cut : Nat → Lo → List AV → Mem → Prop} {Q : Int → Mem → Prop} {a1 : Int} {σ : Mem} (h :
  (0 ≤ (w32 (-a1)) ∧ (w32 (-a1)) < (7 : Int)) ∧ (0 ≤ (w32 (-a1)) ∧ (w32 (-a1)) < (7 : Int)) ∧ Q a1 (mset σ 64 (w32 (-a1)).toNat (w32 ((σ 64 (w32 (-a1)).toNat) + 1)))) : seg none call c_M_refuse false Q cut 2000 true (toPc 0 c_M_refuse) [some (.inr (.inr 49)), some (.inl a1)] [] σ := h
theorem e_M_refuse {d : Nat} {Q : Int → Mem → Prop} {a1 : Int} {σ : Mem} (h :
  (0 ≤ (w32 (-a1)) ∧ (w32 (-a1)) < (7 : Int)) ∧ (0 ≤ (w32 (-a1)) ∧ (w32 (-a1)) < (7 : Int)) ∧ Q a1 (mset σ 64 (w32 (-a1)).toNat (w32 ((σ 64 (w32 (-a1)).toNat) + 1)))) : wp (d + 1) m_M_refuse [.inr (.inr 49), .inl a1] σ Q := wp_in rfl (XX_intro (g_M_refuse (call := wp d) (cut := XX none (wp d) c_M_refuse false Q) (Q := Q) (a1 := a1) (σ := σ) (h)))
theorem g_M_refuseFar {call : Nat → List AV → Mem → (Int → Mem → Prop) → Prop} {cut : Nat → Lo → List AV → Mem → Prop} {Q : Int → Mem → Prop} {a1 : Int} {σ : Mem} (h :
  call m_M_refuse [.inr (.inr 49), .inl a1] σ (fun (r1 : Int) (s2 : Mem) => Q (w64 ((-4000000000000000000) + r1)) s2)) : seg none call c_M_refuseFar false Q cut 2000 true (toPc 0 c_M_refuseFar) [some (.inr (.inr 49)), some (.inl a1)] [] σ := h
theorem e_M_refuseFar {d : Nat} {Q : Int → Mem → Prop} {a1 : Int} {σ : Mem} (h :
  wp d m_M_refuse [.inr (.inr 49), .inl a1] σ (fun (r1 : Int) (s2 : Mem) => Q (w64 ((-4000000000000000000) + r1)) s2)) : wp (d + 1) m_M_refuseFar [.inr (.inr 49), .inl a1] σ Q := wp_in rfl (XX_intro (g_M_refuseFar (call := wp d) (cut := XX none (wp d) c_M_refuseFar false Q) (Q := Q) (a1 := a1) (σ := σ) (h)))
abbrev K_M_divisor_28 (d : Nat) (Q : Int → Mem → Prop) (x4 : Int) (x6 : Int) (σ : Mem) : Prop := XX none (wp d) c_M_divisor false Q 28 [none, none, none, none, some (.inr (.inl x4)), none, some (.inr (.inl x6)), none, none, none] [] σ
theorem g_M_divisor {call : Nat → List AV → Mem → (Int → Mem → Prop) → Prop} {cut : Nat → Lo → List AV → Mem → Prop} {Q : Int → Mem → Prop} {a0 : Int} {a1 : Int} {σ : Mem} (h :
  (a0 < 0 →
    (a1 < 0 →
      cut 28 [none, none, none, none, some (.inr (.inl (w64 (-a0)))), none, some (.inr (.inl (w64 (-a1)))), none, none, none] [] σ) ∧
    (0 ≤ a1 →
      cut 28 [none, none, none, none, some (.inr (.inl (w64 (-a0)))), none, some (.inr (.inl a1)), none, none, none] [] σ)) ∧
  (0 ≤ a0 →
    (a1 < 0 →
      cut 28 [none, none, none, none, some (.inr (.inl a0)), none, some (.inr (.inl (w64 (-a1)))), none, none, none] [] σ) ∧
    (0 ≤ a1 →
      cut 28 [none, none, none, none, some (.inr (.inl a0)), none, some (.inr (.inl a1)), none, none, none] [] σ))) : seg none call c_M_divisor false Q cut 2000 true (toPc 0 c_M_divisor) [some (.inr (.inl a0)), none, some (.inr (.inl a1)), none, none, none, none, none, none, none] [] σ := h
theorem e_M_divisor {d : Nat} {Q : Int → Mem → Prop} {a0 : Int} {a1 : Int} {σ : Mem} (h :
  (a0 < 0 →
    (a1 < 0 → K_M_divisor_28 d Q (w64 (-a0)) (w64 (-a1)) σ) ∧
    (0 ≤ a1 → K_M_divisor_28 d Q (w64 (-a0)) a1 σ)) ∧
  (0 ≤ a0 →
    (a1 < 0 → K_M_divisor_28 d Q a0 (w64 (-a1)) σ) ∧
    (0 ≤ a1 → K_M_divisor_28 d Q a0 a1 σ))) : wp (d + 1) m_M_divisor [.inr (.inl a0), .inr (.inl a1)] σ Q := wp_in rfl (XX_intro (g_M_divisor (call := wp d) (cut := XX none (wp d) c_M_divisor false Q) (Q := Q) (a0 := a0) (a1 := a1) (σ := σ) (h)))
theorem g_M_divisor_28 {call : Nat → List AV → Mem → (Int → Mem → Prop) → Prop} {cut : Nat → Lo → List AV → Mem → Prop} {Q : Int → Mem → Prop} {x4 : Int} {x6 : Int} {σ : Mem} (h :
  (x6 = 0 → Q x4 σ) ∧
  (¬ x6 = 0 →
    (¬ x6 = 0) ∧ cut 28 [none, none, none, none, some (.inr (.inl x6)), none, some (.inr (.inl (Int.tmod x4 x6))), none, none, none] [] σ)) : seg none call c_M_divisor false Q cut 2000 true (toPc 28 c_M_divisor) [none, none, none, none, some (.inr (.inl x4)), none, some (.inr (.inl x6)), none, none, none] [] σ := h
theorem e_M_divisor_28 {d : Nat} {Q : Int → Mem → Prop} {x4 : Int} {x6 : Int} {σ : Mem} (h :
  (x6 = 0 → Q x4 σ) ∧
  (¬ x6 = 0 → (¬ x6 = 0) ∧ K_M_divisor_28 d Q x6 (Int.tmod x4 x6) σ)) : K_M_divisor_28 d Q x4 x6 σ := XX_intro (g_M_divisor_28 (call := wp d) (cut := XX none (wp d) c_M_divisor false Q) (Q := Q) (x4 := x4) (x6 := x6) (σ := σ) (h))
theorem g_M_fraction {call : Nat → List AV → Mem → (Int → Mem → Prop) → Prop} {cut : Nat → Lo → List AV → Mem → Prop} {Q : Int → Mem → Prop} {a0 : Int} {a1 : Int} {a2 : Int} {σ : Mem} (h :
  (a0 = 0 → Q a2 σ) ∧
  (¬ a0 = 0 →
    call m_M_divisor [.inr (.inl a0), .inr (.inl a1)] σ (fun (r1 : Int) (s2 : Mem) =>
    (a2 = 0 →
        (¬ r1 = 0) ∧ (a1 < 0 → Q (w64 (-(w64 (Int.tdiv a0 r1)))) s2) ∧
        (0 ≤ a1 → Q (w64 (Int.tdiv a0 r1)) s2)) ∧
      (¬ a2 = 0 →
        (¬ r1 = 0) ∧ (a1 < 0 → Q (w64 (-(w64 (Int.tdiv a1 r1)))) s2) ∧
        (0 ≤ a1 → Q (w64 (Int.tdiv a1 r1)) s2))))) : seg none call c_M_fraction false Q cut 2000 true (toPc 0 c_M_fraction) [some (.inr (.inl a0)), none, some (.inr (.inl a1)), none, some (.inl a2), none, none, none, none] [] σ := h
theorem e_M_fraction {d : Nat} {Q : Int → Mem → Prop} {a0 : Int} {a1 : Int} {a2 : Int} {σ : Mem} (h :
  (a0 = 0 → Q a2 σ) ∧
  (¬ a0 = 0 →
    wp d m_M_divisor [.inr (.inl a0), .inr (.inl a1)] σ (fun (r1 : Int) (s2 : Mem) =>
    (a2 = 0 →
        (¬ r1 = 0) ∧ (a1 < 0 → Q (w64 (-(w64 (Int.tdiv a0 r1)))) s2) ∧
        (0 ≤ a1 → Q (w64 (Int.tdiv a0 r1)) s2)) ∧
      (¬ a2 = 0 →
        (¬ r1 = 0) ∧ (a1 < 0 → Q (w64 (-(w64 (Int.tdiv a1 r1)))) s2) ∧
        (0 ≤ a1 → Q (w64 (Int.tdiv a1 r1)) s2))))) : wp (d + 1) m_M_fraction [.inr (.inl a0), .inr (.inl a1), .inl a2] σ Q := wp_in rfl (XX_intro (g_M_fraction (call := wp d) (cut := XX none (wp d) c_M_fraction false Q) (Q := Q) (a0 := a0) (a1 := a1) (a2 := a2) (σ := σ) (h)))
theorem g_M_isPart {call : Nat → List AV → Mem → (Int → Mem → Prop) → Prop} {cut : Nat → Lo → List AV → Mem → Prop} {Q : Int → Mem → Prop} {a0 : Int} {σ : Mem} (h :
  call m_M_in [.inr (.inl a0), .inr (.inl 0), .inr (.inl 1)] σ (fun (r1 : Int) (s2 : Mem) => isB r1 ∧ Q r1 s2)) : seg none call c_M_isPart true Q cut 2000 true (toPc 0 c_M_isPart) [some (.inl a0)] [] σ := h
theorem e_M_isPart {d : Nat} {Q : Int → Mem → Prop} {a0 : Int} {σ : Mem} (h :
  wp d m_M_in [.inr (.inl a0), .inr (.inl 0), .inr (.inl 1)] σ (fun (r1 : Int) (s2 : Mem) => isB r1 ∧ Q r1 s2)) : wp (d + 1) m_M_isPart [.inl a0] σ Q := wp_in rfl (XX_intro (g_M_isPart (call := wp d) (cut := XX none (wp d) c_M_isPart true Q) (Q := Q) (a0 := a0) (σ := σ) (h)))
abbrev K_M_feed_39 (d : Nat) (Q : Int → Mem → Prop) (x1 : Int) (x2 : Int) (x4 : Int) (σ : Mem) : Prop := XX none (wp d) c_M_feed false Q 39 [some (.inr (.inr 49)), some (.inl x1), some (.inr (.inl x2)), none, some (.inl x4)] [] σ
theorem g_M_feed {call : Nat → List AV → Mem → (Int → Mem → Prop) → Prop} {cut : Nat → Lo → List AV → Mem → Prop} {Q : Int → Mem → Prop} {a1 : Int} {a2 : Int} {σ : Mem} (h :
  (a1 < 1 →
    call m_M_refuse [.inr (.inr 49), .inl (-4)] σ (fun (r5 : Int) (s6 : Mem) => Q r5 s6)) ∧
  (1 ≤ a1 →
    (8 < a1 →
      call m_M_refuse [.inr (.inr 49), .inl (-6)] σ (fun (r1 : Int) (s2 : Mem) => Q r1 s2)) ∧
    (a1 ≤ 8 →
      (90 < (w32 ((σ 49 18) + a1)) →
        call m_M_refuse [.inr (.inr 49), .inl (-6)] σ (fun (r3 : Int) (s4 : Mem) => Q r3 s4)) ∧
      ((w32 ((σ 49 18) + a1)) ≤ 90 →
        cut 39 [some (.inr (.inr 49)), some (.inl a1), some (.inr (.inl a2)), none, some (.inl 0)] [] σ)))) : seg none call c_M_feed false Q cut 2000 true (toPc 0 c_M_feed) [some (.inr (.inr 49)), some (.inl a1), some (.inr (.inl a2)), none, none] [] σ := h
theorem e_M_feed {d : Nat} {Q : Int → Mem → Prop} {a1 : Int} {a2 : Int} {σ : Mem} (h :
  (a1 < 1 →
    wp d m_M_refuse [.inr (.inr 49), .inl (-4)] σ (fun (r5 : Int) (s6 : Mem) => Q r5 s6)) ∧
  (1 ≤ a1 →
    (8 < a1 →
      wp d m_M_refuse [.inr (.inr 49), .inl (-6)] σ (fun (r1 : Int) (s2 : Mem) => Q r1 s2)) ∧
    (a1 ≤ 8 →
      (90 < (w32 ((σ 49 18) + a1)) →
        wp d m_M_refuse [.inr (.inr 49), .inl (-6)] σ (fun (r3 : Int) (s4 : Mem) => Q r3 s4)) ∧
      ((w32 ((σ 49 18) + a1)) ≤ 90 → K_M_feed_39 d Q a1 a2 0 σ)))) : wp (d + 1) m_M_feed [.inr (.inr 49), .inl a1, .inr (.inl a2)] σ Q := wp_in rfl (XX_intro (g_M_feed (call := wp d) (cut := XX none (wp d) c_M_feed false Q) (Q := Q) (a1 := a1) (a2 := a2) (σ := σ) (h)))
theorem g_M_feed_39 {call : Nat → List AV → Mem → (Int → Mem → Prop) → Prop} {cut : Nat → Lo → List AV → Mem → Prop} {Q : Int → Mem → Prop} {x1 : Int} {x2 : Int} {x4 : Int} {σ : Mem} (h :
  (x4 < x1 →
    (0 ≤ (σ 49 18) ∧ (σ 49 18) < (90 : Int)) ∧ cut 39 [some (.inr (.inr 49)), some (.inl x1), some (.inr (.inl x2)), none, some (.inl (w32 (x4 + 1)))] [] (mset (mset σ 60 (σ 49 18).toNat (w32 (andL (shrL x2 (w32 (8 * x4))) 255))) 49 18 (w32 (((mset σ 60 (σ 49 18).toNat (w32 (andL (shrL x2 (w32 (8 * x4))) 255))) 49 18) + 1)))) ∧
  (x1 ≤ x4 → Q (σ 49 18) σ)) : seg none call c_M_feed false Q cut 2000 true (toPc 39 c_M_feed) [some (.inr (.inr 49)), some (.inl x1), some (.inr (.inl x2)), none, some (.inl x4)] [] σ := h
theorem e_M_feed_39 {d : Nat} {Q : Int → Mem → Prop} {x1 : Int} {x2 : Int} {x4 : Int} {σ : Mem} (h :
  (x4 < x1 →
    (0 ≤ (σ 49 18) ∧ (σ 49 18) < (90 : Int)) ∧ K_M_feed_39 d Q x1 x2 (w32 (x4 + 1)) (mset (mset σ 60 (σ 49 18).toNat (w32 (andL (shrL x2 (w32 (8 * x4))) 255))) 49 18 (w32 (((mset σ 60 (σ 49 18).toNat (w32 (andL (shrL x2 (w32 (8 * x4))) 255))) 49 18) + 1)))) ∧
  (x1 ≤ x4 → Q (σ 49 18) σ)) : K_M_feed_39 d Q x1 x2 x4 σ := XX_intro (g_M_feed_39 (call := wp d) (cut := XX none (wp d) c_M_feed false Q) (Q := Q) (x1 := x1) (x2 := x2) (x4 := x4) (σ := σ) (h))
theorem g_M_here {call : Nat → List AV → Mem → (Int → Mem → Prop) → Prop} {cut : Nat → Lo → List AV → Mem → Prop} {Q : Int → Mem → Prop}  {σ : Mem} (h :
  ((σ 49 24) < (σ 49 25) → (0 ≤ (σ 49 24) ∧ (σ 49 24) < (90 : Int)) ∧ Q (σ 60 (σ 49 24).toNat) σ) ∧
  ((σ 49 25) ≤ (σ 49 24) → Q (-1) σ)) : seg none call c_M_here false Q cut 2000 true (toPc 0 c_M_here) [some (.inr (.inr 49))] [] σ := h
theorem e_M_here {d : Nat} {Q : Int → Mem → Prop}  {σ : Mem} (h :
  ((σ 49 24) < (σ 49 25) → (0 ≤ (σ 49 24) ∧ (σ 49 24) < (90 : Int)) ∧ Q (σ 60 (σ 49 24).toNat) σ) ∧
  ((σ 49 25) ≤ (σ 49 24) → Q (-1) σ)) : wp (d + 1) m_M_here [.inr (.inr 49)] σ Q := wp_in rfl (XX_intro (g_M_here (call := wp d) (cut := XX none (wp d) c_M_here false Q) (Q := Q)  (σ := σ) (h)))
theorem g_M_take {call : Nat → List AV → Mem → (Int → Mem → Prop) → Prop} {cut : Nat → Lo → List AV → Mem → Prop} {Q : Int → Mem → Prop} {a1 : Int} {σ : Mem} (h :
  ((σ 49 26) = 0 →
    call m_M_here [.inr (.inr 49)] σ (fun (r1 : Int) (s2 : Mem) =>
    (r1 = a1 →
        (isB 0) ∧ (((mset s2 49 26 0) 49 26) = 0 → Q 0 (mset (mset s2 49 26 0) 49 24 (w32 (((mset s2 49 26 0) 49 24) + 1)))) ∧
        (¬ ((mset s2 49 26 0) 49 26) = 0 → Q 0 (mset (mset s2 49 26 0) 49 24 (w32 (((mset s2 49 26 0) 49 24) + 0))))) ∧
      (¬ r1 = a1 →
        (isB 1) ∧ (((mset s2 49 26 1) 49 26) = 0 → Q 0 (mset (mset s2 49 26 1) 49 24 (w32 (((mset s2 49 26 1) 49 24) + 1)))) ∧
        (¬ ((mset s2 49 26 1) 49 26) = 0 → Q 0 (mset (mset s2 49 26 1) 49 24 (w32 (((mset s2 49 26 1) 49 24) + 0))))))) ∧
  (¬ (σ 49 26) = 0 →
    (isB 1) ∧ (((mset σ 49 26 1) 49 26) = 0 → Q 0 (mset (mset σ 49 26 1) 49 24 (w32 (((mset σ 49 26 1) 49 24) + 1)))) ∧
    (¬ ((mset σ 49 26 1) 49 26) = 0 → Q 0 (mset (mset σ 49 26 1) 49 24 (w32 (((mset σ 49 26 1) 49 24) + 0)))))) : seg none call c_M_take false Q cut 2000 true (toPc 0 c_M_take) [some (.inr (.inr 49)), some (.inl a1)] [] σ := h
theorem e_M_take {d : Nat} {Q : Int → Mem → Prop} {a1 : Int} {σ : Mem} (h :
  ((σ 49 26) = 0 →
    wp d m_M_here [.inr (.inr 49)] σ (fun (r1 : Int) (s2 : Mem) =>
    (r1 = a1 →
        (((mset s2 49 26 0) 49 26) = 0 → Q 0 (mset (mset s2 49 26 0) 49 24 (w32 (((mset s2 49 26 0) 49 24) + 1)))) ∧
        (¬ ((mset s2 49 26 0) 49 26) = 0 → Q 0 (mset (mset s2 49 26 0) 49 24 (w32 (((mset s2 49 26 0) 49 24) + 0))))) ∧
      (¬ r1 = a1 →
        (((mset s2 49 26 1) 49 26) = 0 → Q 0 (mset (mset s2 49 26 1) 49 24 (w32 (((mset s2 49 26 1) 49 24) + 1)))) ∧
        (¬ ((mset s2 49 26 1) 49 26) = 0 → Q 0 (mset (mset s2 49 26 1) 49 24 (w32 (((mset s2 49 26 1) 49 24) + 0))))))) ∧
  (¬ (σ 49 26) = 0 →
    (((mset σ 49 26 1) 49 26) = 0 → Q 0 (mset (mset σ 49 26 1) 49 24 (w32 (((mset σ 49 26 1) 49 24) + 1)))) ∧
    (¬ ((mset σ 49 26 1) 49 26) = 0 → Q 0 (mset (mset σ 49 26 1) 49 24 (w32 (((mset σ 49 26 1) 49 24) + 0)))))) : wp (d + 1) m_M_take [.inr (.inr 49), .inl a1] σ Q := wp_in rfl (XX_intro (g_M_take (call := wp d) (cut := XX none (wp d) c_M_take false Q) (Q := Q) (a1 := a1) (σ := σ) (⟨fun z3 => wp_conseq (fun _ _ z2 => ⟨fun z1 => ⟨isB0, ((z2).1 z1)⟩, fun z1 => ⟨isB1, ((z2).2 z1)⟩⟩) (((h).1 z3)), fun z3 => ⟨isB1, ((h).2 z3)⟩⟩)))
theorem g_M_readNumber {call : Nat → List AV → Mem → (Int → Mem → Prop) → Prop} {cut : Nat → Lo → List AV → Mem → Prop} {Q : Int → Mem → Prop} {a1 : Int} {σ : Mem} (h :
  call m_M_here [.inr (.inr 49)] σ (fun (r1 : Int) (s2 : Mem) =>
  ((s2 49 26) = 0 →
      call m_M_in [.inr (.inl r1), .inr (.inl (w32 (48 + a1))), .inr (.inl 57)] s2 (fun (r3 : Int) (s4 : Mem) =>
      (r3 = 0 → (isB 1) ∧ Q 0 (mset s4 49 26 1)) ∧
        (¬ r3 = 0 →
          (0 < (w32 (r1 - 48)) →
            call m_M_here [.inr (.inr 49)] (mset s4 49 24 (w32 ((s4 49 24) + 1))) (fun (r5 : Int) (s6 : Mem) =>
            call m_M_in [.inr (.inl r5), .inr (.inl 48), .inr (.inl 57)] s6 (fun (r7 : Int) (s8 : Mem) =>
              (r7 = 0 → Q (w32 (r1 - 48)) s8) ∧
                (¬ r7 = 0 →
                  call m_M_here [.inr (.inr 49)] s8 (fun (r9 : Int) (s10 : Mem) =>
                  Q (w32 ((w32 ((w32 (10 * (w32 (r1 - 48)))) + r9)) - 48)) (mset s10 49 24 (w32 ((s10 49 24) + 1)))))))) ∧
          ((w32 (r1 - 48)) ≤ 0 → Q (w32 (r1 - 48)) (mset s4 49 24 (w32 ((s4 49 24) + 1))))))) ∧
    (¬ (s2 49 26) = 0 → (isB 1) ∧ Q 0 (mset s2 49 26 1)))) : seg none call c_M_readNumber false Q cut 2000 true (toPc 0 c_M_readNumber) [some (.inr (.inr 49)), some (.inl a1), none, none] [] σ := h
theorem e_M_readNumber {d : Nat} {Q : Int → Mem → Prop} {a1 : Int} {σ : Mem} (h :
  wp d m_M_here [.inr (.inr 49)] σ (fun (r1 : Int) (s2 : Mem) =>
  ((s2 49 26) = 0 →
      wp d m_M_in [.inr (.inl r1), .inr (.inl (w32 (48 + a1))), .inr (.inl 57)] s2 (fun (r3 : Int) (s4 : Mem) =>
      (r3 = 0 → Q 0 (mset s4 49 26 1)) ∧
        (¬ r3 = 0 →
          (0 < (w32 (r1 - 48)) →
            wp d m_M_here [.inr (.inr 49)] (mset s4 49 24 (w32 ((s4 49 24) + 1))) (fun (r5 : Int) (s6 : Mem) =>
            wp d m_M_in [.inr (.inl r5), .inr (.inl 48), .inr (.inl 57)] s6 (fun (r7 : Int) (s8 : Mem) =>
              (r7 = 0 → Q (w32 (r1 - 48)) s8) ∧
                (¬ r7 = 0 →
                  wp d m_M_here [.inr (.inr 49)] s8 (fun (r9 : Int) (s10 : Mem) =>
                  Q (w32 ((w32 ((w32 (10 * (w32 (r1 - 48)))) + r9)) - 48)) (mset s10 49 24 (w32 ((s10 49 24) + 1)))))))) ∧
          ((w32 (r1 - 48)) ≤ 0 → Q (w32 (r1 - 48)) (mset s4 49 24 (w32 ((s4 49 24) + 1))))))) ∧
    (¬ (s2 49 26) = 0 → Q 0 (mset s2 49 26 1)))) : wp (d + 1) m_M_readNumber [.inr (.inr 49), .inl a1] σ Q := wp_in rfl (XX_intro (g_M_readNumber (call := wp d) (cut := XX none (wp d) c_M_readNumber false Q) (Q := Q) (a1 := a1) (σ := σ) (wp_conseq (fun _ _ z4 => ⟨fun z3 => wp_conseq (fun _ _ z2 => ⟨fun z1 => ⟨isB1, ((z2).1 z1)⟩, fun z1 => (z2).2 z1⟩) (((z4).1 z3)), fun z3 => ⟨isB1, ((z4).2 z3)⟩⟩) (h))))
theorem g_M_readSigned {call : Nat → List AV → Mem → (Int → Mem → Prop) → Prop} {cut : Nat → Lo → List AV → Mem → Prop} {Q : Int → Mem → Prop}  {σ : Mem} (h :
  ((σ 49 26) = 0 →
    call m_M_here [.inr (.inr 49)] σ (fun (r3 : Int) (s4 : Mem) =>
    (r3 = 45 →
        call m_M_readNumber [.inr (.inr 49), .inl 1] (mset s4 49 24 (w32 ((s4 49 24) + 1))) (fun (r7 : Int) (s8 : Mem) => Q (w32 (-r7)) s8)) ∧
      (¬ r3 = 45 →
        call m_M_readNumber [.inr (.inr 49), .inl 0] s4 (fun (r5 : Int) (s6 : Mem) => Q r5 s6)))) ∧
  (¬ (σ 49 26) = 0 →
    call m_M_readNumber [.inr (.inr 49), .inl 0] σ (fun (r1 : Int) (s2 : Mem) => Q r1 s2))) : seg none call c_M_readSigned false Q cut 2000 true (toPc 0 c_M_readSigned) [some (.inr (.inr 49))] [] σ := h
theorem e_M_readSigned {d : Nat} {Q : Int → Mem → Prop}  {σ : Mem} (h :
  ((σ 49 26) = 0 →
    wp d m_M_here [.inr (.inr 49)] σ (fun (r3 : Int) (s4 : Mem) =>
    (r3 = 45 →
        wp d m_M_readNumber [.inr (.inr 49), .inl 1] (mset s4 49 24 (w32 ((s4 49 24) + 1))) (fun (r7 : Int) (s8 : Mem) => Q (w32 (-r7)) s8)) ∧
      (¬ r3 = 45 →
        wp d m_M_readNumber [.inr (.inr 49), .inl 0] s4 (fun (r5 : Int) (s6 : Mem) => Q r5 s6)))) ∧
  (¬ (σ 49 26) = 0 →
    wp d m_M_readNumber [.inr (.inr 49), .inl 0] σ (fun (r1 : Int) (s2 : Mem) => Q r1 s2))) : wp (d + 1) m_M_readSigned [.inr (.inr 49)] σ Q := wp_in rfl (XX_intro (g_M_readSigned (call := wp d) (cut := XX none (wp d) c_M_readSigned false Q) (Q := Q)  (σ := σ) (h)))
abbrev K_M_readAct_8 (d : Nat) (Q : Int → Mem → Prop) (x1 : Int) (σ : Mem) : Prop := XX none (wp d) c_M_readAct false Q 8 [some (.inr (.inr 49)), some (.inl x1)] [] σ
theorem g_M_readAct {call : Nat → List AV → Mem → (Int → Mem → Prop) → Prop} {cut : Nat → Lo → List AV → Mem → Prop} {Q : Int → Mem → Prop}  {σ : Mem} (h :
  call m_M_take [.inr (.inr 49), .inl 97] σ (fun (r1 : Int) (s2 : Mem) => cut 8 [some (.inr (.inr 49)), some (.inl 0)] [] s2)) : seg none call c_M_readAct false Q cut 2000 true (toPc 0 c_M_readAct) [some (.inr (.inr 49)), none] [] σ := h
theorem e_M_readAct {d : Nat} {Q : Int → Mem → Prop}  {σ : Mem} (h :
  wp d m_M_take [.inr (.inr 49), .inl 97] σ (fun (r1 : Int) (s2 : Mem) => K_M_readAct_8 d Q 0 s2)) : wp (d + 1) m_M_readAct [.inr (.inr 49)] σ Q := wp_in rfl (XX_intro (g_M_readAct (call := wp d) (cut := XX none (wp d) c_M_readAct false Q) (Q := Q)  (σ := σ) (h)))
theorem g_M_readAct_8 {call : Nat → List AV → Mem → (Int → Mem → Prop) → Prop} {cut : Nat → Lo → List AV → Mem → Prop} {Q : Int → Mem → Prop} {x1 : Int} {σ : Mem} (h :
  (x1 < (σ 49 27) →
    ((σ 49 26) = 0 →
      (0 < x1 →
        call m_M_take [.inr (.inr 49), .inl 44] σ (fun (r11 : Int) (s12 : Mem) =>
        call m_M_readSigned [.inr (.inr 49)] s12 (fun (r13 : Int) (s14 : Mem) =>
          (0 ≤ (w32 ((w32 (4 * (s12 49 28))) + x1)) ∧ (w32 ((w32 (4 * (s12 49 28))) + x1)) < (48 : Int)) ∧ call m_M_take [.inr (.inr 49), .inl 47] (mset s14 66 (w32 ((w32 (4 * (s12 49 28))) + x1)).toNat r13) (fun (r15 : Int) (s16 : Mem) =>
            call m_M_readSigned [.inr (.inr 49)] s16 (fun (r17 : Int) (s18 : Mem) =>
              (0 ≤ (w32 ((w32 (24 + (w32 (4 * (s16 49 28))))) + x1)) ∧ (w32 ((w32 (24 + (w32 (4 * (s16 49 28))))) + x1)) < (48 : Int)) ∧ cut 8 [some (.inr (.inr 49)), some (.inl (w32 (x1 + 1)))] [] (mset s18 66 (w32 ((w32 (24 + (w32 (4 * (s16 49 28))))) + x1)).toNat r17)))))) ∧
      (x1 ≤ 0 →
        call m_M_readSigned [.inr (.inr 49)] σ (fun (r5 : Int) (s6 : Mem) =>
        (0 ≤ (w32 ((w32 (4 * (σ 49 28))) + x1)) ∧ (w32 ((w32 (4 * (σ 49 28))) + x1)) < (48 : Int)) ∧ call m_M_take [.inr (.inr 49), .inl 47] (mset s6 66 (w32 ((w32 (4 * (σ 49 28))) + x1)).toNat r5) (fun (r7 : Int) (s8 : Mem) =>
          call m_M_readSigned [.inr (.inr 49)] s8 (fun (r9 : Int) (s10 : Mem) =>
            (0 ≤ (w32 ((w32 (24 + (w32 (4 * (s8 49 28))))) + x1)) ∧ (w32 ((w32 (24 + (w32 (4 * (s8 49 28))))) + x1)) < (48 : Int)) ∧ cut 8 [some (.inr (.inr 49)), some (.inl (w32 (x1 + 1)))] [] (mset s10 66 (w32 ((w32 (24 + (w32 (4 * (s8 49 28))))) + x1)).toNat r9)))))) ∧
    (¬ (σ 49 26) = 0 →
      call m_M_take [.inr (.inr 49), .inl 59] σ (fun (r3 : Int) (s4 : Mem) => Q 0 (mset s4 49 28 (w32 ((s4 49 28) + 1)))))) ∧
  ((σ 49 27) ≤ x1 →
    call m_M_take [.inr (.inr 49), .inl 59] σ (fun (r1 : Int) (s2 : Mem) => Q 0 (mset s2 49 28 (w32 ((s2 49 28) + 1)))))) : seg none call c_M_readAct false Q cut 2000 true (toPc 8 c_M_readAct) [some (.inr (.inr 49)), some (.inl x1)] [] σ := h
theorem e_M_readAct_8 {d : Nat} {Q : Int → Mem → Prop} {x1 : Int} {σ : Mem} (h :
  (x1 < (σ 49 27) →
    ((σ 49 26) = 0 →
      (0 < x1 →
        wp d m_M_take [.inr (.inr 49), .inl 44] σ (fun (r11 : Int) (s12 : Mem) =>
        wp d m_M_readSigned [.inr (.inr 49)] s12 (fun (r13 : Int) (s14 : Mem) =>
          (0 ≤ (w32 ((w32 (4 * (s12 49 28))) + x1)) ∧ (w32 ((w32 (4 * (s12 49 28))) + x1)) < (48 : Int)) ∧ wp d m_M_take [.inr (.inr 49), .inl 47] (mset s14 66 (w32 ((w32 (4 * (s12 49 28))) + x1)).toNat r13) (fun (r15 : Int) (s16 : Mem) =>
            wp d m_M_readSigned [.inr (.inr 49)] s16 (fun (r17 : Int) (s18 : Mem) =>
              (0 ≤ (w32 ((w32 (24 + (w32 (4 * (s16 49 28))))) + x1)) ∧ (w32 ((w32 (24 + (w32 (4 * (s16 49 28))))) + x1)) < (48 : Int)) ∧ K_M_readAct_8 d Q (w32 (x1 + 1)) (mset s18 66 (w32 ((w32 (24 + (w32 (4 * (s16 49 28))))) + x1)).toNat r17)))))) ∧
      (x1 ≤ 0 →
        wp d m_M_readSigned [.inr (.inr 49)] σ (fun (r5 : Int) (s6 : Mem) =>
        (0 ≤ (w32 ((w32 (4 * (σ 49 28))) + x1)) ∧ (w32 ((w32 (4 * (σ 49 28))) + x1)) < (48 : Int)) ∧ wp d m_M_take [.inr (.inr 49), .inl 47] (mset s6 66 (w32 ((w32 (4 * (σ 49 28))) + x1)).toNat r5) (fun (r7 : Int) (s8 : Mem) =>
          wp d m_M_readSigned [.inr (.inr 49)] s8 (fun (r9 : Int) (s10 : Mem) =>
            (0 ≤ (w32 ((w32 (24 + (w32 (4 * (s8 49 28))))) + x1)) ∧ (w32 ((w32 (24 + (w32 (4 * (s8 49 28))))) + x1)) < (48 : Int)) ∧ K_M_readAct_8 d Q (w32 (x1 + 1)) (mset s10 66 (w32 ((w32 (24 + (w32 (4 * (s8 49 28))))) + x1)).toNat r9)))))) ∧
    (¬ (σ 49 26) = 0 →
      wp d m_M_take [.inr (.inr 49), .inl 59] σ (fun (r3 : Int) (s4 : Mem) => Q 0 (mset s4 49 28 (w32 ((s4 49 28) + 1)))))) ∧
  ((σ 49 27) ≤ x1 →
    wp d m_M_take [.inr (.inr 49), .inl 59] σ (fun (r1 : Int) (s2 : Mem) => Q 0 (mset s2 49 28 (w32 ((s2 49 28) + 1)))))) : K_M_readAct_8 d Q x1 σ := XX_intro (g_M_readAct_8 (call := wp d) (cut := XX none (wp d) c_M_readAct false Q) (Q := Q) (x1 := x1) (σ := σ) (h))
abbrev K_M_read_33 (d : Nat) (Q : Int → Mem → Prop)  (σ : Mem) : Prop := XX none (wp d) c_M_read false Q 33 [some (.inr (.inr 49)), none, none, none] [] σ
abbrev K_M_read_105 (d : Nat) (Q : Int → Mem → Prop)  (σ : Mem) : Prop := XX none (wp d) c_M_read false Q 105 [some (.inr (.inr 49)), none, none, none] [] σ
abbrev K_M_read_208 (d : Nat) (Q : Int → Mem → Prop) (x1 : Int) (x3 : Int) (σ : Mem) : Prop := XX none (wp d) c_M_read false Q 208 [some (.inr (.inr 49)), some (.inr (.inl x1)), none, some (.inl x3)] [] σ
abbrev K_M_read_248 (d : Nat) (Q : Int → Mem → Prop) (x1 : Int) (x3 : Int) (σ : Mem) : Prop := XX none (wp d) c_M_read false Q 248 [some (.inr (.inr 49)), some (.inr (.inl x1)), none, some (.inl x3)] [] σ
abbrev K_M_read_279 (d : Nat) (Q : Int → Mem → Prop) (x3 : Int) (σ : Mem) : Prop := XX none (wp d) c_M_read false Q 279 [some (.inr (.inr 49)), none, none, some (.inl x3)] [] σ
theorem g_M_read {call : Nat → List AV → Mem → (Int → Mem → Prop) → Prop} {cut : Nat → Lo → List AV → Mem → Prop} {Q : Int → Mem → Prop}  {σ : Mem} (h :
  (isB 0) ∧ cut 33 [some (.inr (.inr 49)), none, none, none] [] (mset (mset (mset (mset (mset (mset σ 49 24 0) 49 25 ((mset σ 49 24 0) 49 18)) 49 18 0) 49 26 0) 49 27 0) 49 28 0)) : seg none call c_M_read false Q cut 2000 true (toPc 0 c_M_read) [some (.inr (.inr 49)), none, none, none] [] σ := h
theorem e_M_read {d : Nat} {Q : Int → Mem → Prop}  {σ : Mem} (h :
  K_M_read_33 d Q  (mset (mset (mset (mset (mset (mset σ 49 24 0) 49 25 ((mset σ 49 24 0) 49 18)) 49 18 0) 49 26 0) 49 27 0) 49 28 0)) : wp (d + 1) m_M_read [.inr (.inr 49)] σ Q := wp_in rfl (XX_intro (g_M_read (call := wp d) (cut := XX none (wp d) c_M_read false Q) (Q := Q)  (σ := σ) (⟨isB0, h⟩)))
theorem g_M_read_33 {call : Nat → List AV → Mem → (Int → Mem → Prop) → Prop} {cut : Nat → Lo → List AV → Mem → Prop} {Q : Int → Mem → Prop}  {σ : Mem} (h :
  ((σ 49 26) = 0 →
    ((σ 49 27) = 0 →
      call m_M_take [.inr (.inr 49), .inl 116] σ (fun (r1 : Int) (s2 : Mem) =>
      call m_M_readNumber [.inr (.inr 49), .inl 1] s2 (fun (r3 : Int) (s4 : Mem) =>
        call m_M_take [.inr (.inr 49), .inl 59] s4 (fun (r5 : Int) (s6 : Mem) =>
          (0 ≤ (s6 49 27) ∧ (s6 49 27) < (4 : Int)) ∧ cut 33 [some (.inr (.inr 49)), none, none, none] [] (mset (mset s6 65 (s6 49 27).toNat r3) 49 27 (w32 (((mset s6 65 (s6 49 27).toNat r3) 49 27) + 1))))))) ∧
    (¬ (σ 49 27) = 0 →
      ((σ 49 27) < 4 →
        call m_M_here [.inr (.inr 49)] σ (fun (r7 : Int) (s8 : Mem) =>
        (r7 = 116 →
            call m_M_take [.inr (.inr 49), .inl 116] s8 (fun (r9 : Int) (s10 : Mem) =>
            call m_M_readNumber [.inr (.inr 49), .inl 1] s10 (fun (r11 : Int) (s12 : Mem) =>
              call m_M_take [.inr (.inr 49), .inl 59] s12 (fun (r13 : Int) (s14 : Mem) =>
                (0 ≤ (s14 49 27) ∧ (s14 49 27) < (4 : Int)) ∧ cut 33 [some (.inr (.inr 49)), none, none, none] [] (mset (mset s14 65 (s14 49 27).toNat r11) 49 27 (w32 (((mset s14 65 (s14 49 27).toNat r11) 49 27) + 1))))))) ∧
          (¬ r7 = 116 → cut 105 [some (.inr (.inr 49)), none, none, none] [] s8))) ∧
      (4 ≤ (σ 49 27) → cut 105 [some (.inr (.inr 49)), none, none, none] [] σ))) ∧
  (¬ (σ 49 26) = 0 → cut 105 [some (.inr (.inr 49)), none, none, none] [] σ)) : seg none call c_M_read false Q cut 2000 true (toPc 33 c_M_read) [some (.inr (.inr 49)), none, none, none] [] σ := h
theorem e_M_read_33 {d : Nat} {Q : Int → Mem → Prop}  {σ : Mem} (h :
  ((σ 49 26) = 0 →
    ((σ 49 27) = 0 →
      wp d m_M_take [.inr (.inr 49), .inl 116] σ (fun (r1 : Int) (s2 : Mem) =>
      wp d m_M_readNumber [.inr (.inr 49), .inl 1] s2 (fun (r3 : Int) (s4 : Mem) =>
        wp d m_M_take [.inr (.inr 49), .inl 59] s4 (fun (r5 : Int) (s6 : Mem) =>
          (0 ≤ (s6 49 27) ∧ (s6 49 27) < (4 : Int)) ∧ K_M_read_33 d Q  (mset (mset s6 65 (s6 49 27).toNat r3) 49 27 (w32 (((mset s6 65 (s6 49 27).toNat r3) 49 27) + 1))))))) ∧
    (¬ (σ 49 27) = 0 →
      ((σ 49 27) < 4 →
        wp d m_M_here [.inr (.inr 49)] σ (fun (r7 : Int) (s8 : Mem) =>
        (r7 = 116 →
            wp d m_M_take [.inr (.inr 49), .inl 116] s8 (fun (r9 : Int) (s10 : Mem) =>
            wp d m_M_readNumber [.inr (.inr 49), .inl 1] s10 (fun (r11 : Int) (s12 : Mem) =>
              wp d m_M_take [.inr (.inr 49), .inl 59] s12 (fun (r13 : Int) (s14 : Mem) =>
                (0 ≤ (s14 49 27) ∧ (s14 49 27) < (4 : Int)) ∧ K_M_read_33 d Q  (mset (mset s14 65 (s14 49 27).toNat r11) 49 27 (w32 (((mset s14 65 (s14 49 27).toNat r11) 49 27) + 1))))))) ∧
          (¬ r7 = 116 → K_M_read_105 d Q  s8))) ∧
      (4 ≤ (σ 49 27) → K_M_read_105 d Q  σ))) ∧
  (¬ (σ 49 26) = 0 → K_M_read_105 d Q  σ)) : K_M_read_33 d Q  σ := XX_intro (g_M_read_33 (call := wp d) (cut := XX none (wp d) c_M_read false Q) (Q := Q)  (σ := σ) (h))
theorem g_M_read_105 {call : Nat → List AV → Mem → (Int → Mem → Prop) → Prop} {cut : Nat → Lo → List AV → Mem → Prop} {Q : Int → Mem → Prop}  {σ : Mem} (h :
  ((σ 49 26) = 0 →
    ((σ 49 28) = 0 →
      call m_M_readAct [.inr (.inr 49)] σ (fun (r1 : Int) (s2 : Mem) => cut 105 [some (.inr (.inr 49)), none, none, none] [] s2)) ∧
    (¬ (σ 49 28) = 0 →
      ((σ 49 28) < 6 →
        ((σ 49 24) < (σ 49 25) →
          call m_M_readAct [.inr (.inr 49)] σ (fun (r3 : Int) (s4 : Mem) => cut 105 [some (.inr (.inr 49)), none, none, none] [] s4)) ∧
        ((σ 49 25) ≤ (σ 49 24) →
          ((σ 49 26) = 0 →
            ((σ 49 24) < (σ 49 25) →
              (isB 1) ∧ (((mset σ 49 26 1) 49 26) = 0 →
                cut 208 [some (.inr (.inr 49)), some (.inr (.inl 0)), none, some (.inl 0)] [] (mset (mset (mset σ 49 26 1) 49 0 ((mset σ 49 26 1) 49 27)) 49 1 ((mset (mset σ 49 26 1) 49 0 ((mset σ 49 26 1) 49 27)) 49 28))) ∧
              (¬ ((mset σ 49 26 1) 49 26) = 0 → Q (w32 ((-20) - ((mset σ 49 26 1) 49 24))) (mset σ 49 26 1))) ∧
            ((σ 49 25) ≤ (σ 49 24) →
              (isB 0) ∧ (((mset σ 49 26 0) 49 26) = 0 →
                cut 208 [some (.inr (.inr 49)), some (.inr (.inl 0)), none, some (.inl 0)] [] (mset (mset (mset σ 49 26 0) 49 0 ((mset σ 49 26 0) 49 27)) 49 1 ((mset (mset σ 49 26 0) 49 0 ((mset σ 49 26 0) 49 27)) 49 28))) ∧
              (¬ ((mset σ 49 26 0) 49 26) = 0 → Q (w32 ((-20) - ((mset σ 49 26 0) 49 24))) (mset σ 49 26 0)))) ∧
          (¬ (σ 49 26) = 0 →
            (isB 1) ∧ (((mset σ 49 26 1) 49 26) = 0 →
              cut 208 [some (.inr (.inr 49)), some (.inr (.inl 0)), none, some (.inl 0)] [] (mset (mset (mset σ 49 26 1) 49 0 ((mset σ 49 26 1) 49 27)) 49 1 ((mset (mset σ 49 26 1) 49 0 ((mset σ 49 26 1) 49 27)) 49 28))) ∧
            (¬ ((mset σ 49 26 1) 49 26) = 0 → Q (w32 ((-20) - ((mset σ 49 26 1) 49 24))) (mset σ 49 26 1))))) ∧
      (6 ≤ (σ 49 28) →
        ((σ 49 26) = 0 →
          ((σ 49 24) < (σ 49 25) →
            (isB 1) ∧ (((mset σ 49 26 1) 49 26) = 0 →
              cut 208 [some (.inr (.inr 49)), some (.inr (.inl 0)), none, some (.inl 0)] [] (mset (mset (mset σ 49 26 1) 49 0 ((mset σ 49 26 1) 49 27)) 49 1 ((mset (mset σ 49 26 1) 49 0 ((mset σ 49 26 1) 49 27)) 49 28))) ∧
            (¬ ((mset σ 49 26 1) 49 26) = 0 → Q (w32 ((-20) - ((mset σ 49 26 1) 49 24))) (mset σ 49 26 1))) ∧
          ((σ 49 25) ≤ (σ 49 24) →
            (isB 0) ∧ (((mset σ 49 26 0) 49 26) = 0 →
              cut 208 [some (.inr (.inr 49)), some (.inr (.inl 0)), none, some (.inl 0)] [] (mset (mset (mset σ 49 26 0) 49 0 ((mset σ 49 26 0) 49 27)) 49 1 ((mset (mset σ 49 26 0) 49 0 ((mset σ 49 26 0) 49 27)) 49 28))) ∧
            (¬ ((mset σ 49 26 0) 49 26) = 0 → Q (w32 ((-20) - ((mset σ 49 26 0) 49 24))) (mset σ 49 26 0)))) ∧
        (¬ (σ 49 26) = 0 →
          (isB 1) ∧ (((mset σ 49 26 1) 49 26) = 0 →
            cut 208 [some (.inr (.inr 49)), some (.inr (.inl 0)), none, some (.inl 0)] [] (mset (mset (mset σ 49 26 1) 49 0 ((mset σ 49 26 1) 49 27)) 49 1 ((mset (mset σ 49 26 1) 49 0 ((mset σ 49 26 1) 49 27)) 49 28))) ∧
          (¬ ((mset σ 49 26 1) 49 26) = 0 → Q (w32 ((-20) - ((mset σ 49 26 1) 49 24))) (mset σ 49 26 1)))))) ∧
  (¬ (σ 49 26) = 0 →
    ((σ 49 26) = 0 →
      ((σ 49 24) < (σ 49 25) →
        (isB 1) ∧ (((mset σ 49 26 1) 49 26) = 0 →
          cut 208 [some (.inr (.inr 49)), some (.inr (.inl 0)), none, some (.inl 0)] [] (mset (mset (mset σ 49 26 1) 49 0 ((mset σ 49 26 1) 49 27)) 49 1 ((mset (mset σ 49 26 1) 49 0 ((mset σ 49 26 1) 49 27)) 49 28))) ∧
        (¬ ((mset σ 49 26 1) 49 26) = 0 → Q (w32 ((-20) - ((mset σ 49 26 1) 49 24))) (mset σ 49 26 1))) ∧
      ((σ 49 25) ≤ (σ 49 24) →
        (isB 0) ∧ (((mset σ 49 26 0) 49 26) = 0 →
          cut 208 [some (.inr (.inr 49)), some (.inr (.inl 0)), none, some (.inl 0)] [] (mset (mset (mset σ 49 26 0) 49 0 ((mset σ 49 26 0) 49 27)) 49 1 ((mset (mset σ 49 26 0) 49 0 ((mset σ 49 26 0) 49 27)) 49 28))) ∧
        (¬ ((mset σ 49 26 0) 49 26) = 0 → Q (w32 ((-20) - ((mset σ 49 26 0) 49 24))) (mset σ 49 26 0)))) ∧
    (¬ (σ 49 26) = 0 →
      (isB 1) ∧ (((mset σ 49 26 1) 49 26) = 0 →
        cut 208 [some (.inr (.inr 49)), some (.inr (.inl 0)), none, some (.inl 0)] [] (mset (mset (mset σ 49 26 1) 49 0 ((mset σ 49 26 1) 49 27)) 49 1 ((mset (mset σ 49 26 1) 49 0 ((mset σ 49 26 1) 49 27)) 49 28))) ∧
      (¬ ((mset σ 49 26 1) 49 26) = 0 → Q (w32 ((-20) - ((mset σ 49 26 1) 49 24))) (mset σ 49 26 1))))) : seg none call c_M_read false Q cut 2000 true (toPc 105 c_M_read) [some (.inr (.inr 49)), none, none, none] [] σ := h
theorem e_M_read_105 {d : Nat} {Q : Int → Mem → Prop}  {σ : Mem} (h :
  ((σ 49 26) = 0 →
    ((σ 49 28) = 0 →
      wp d m_M_readAct [.inr (.inr 49)] σ (fun (r1 : Int) (s2 : Mem) => K_M_read_105 d Q  s2)) ∧
    (¬ (σ 49 28) = 0 →
      ((σ 49 28) < 6 →
        ((σ 49 24) < (σ 49 25) →
          wp d m_M_readAct [.inr (.inr 49)] σ (fun (r3 : Int) (s4 : Mem) => K_M_read_105 d Q  s4)) ∧
        ((σ 49 25) ≤ (σ 49 24) →
          ((σ 49 26) = 0 →
            ((σ 49 24) < (σ 49 25) →
              (((mset σ 49 26 1) 49 26) = 0 →
                K_M_read_208 d Q 0 0 (mset (mset (mset σ 49 26 1) 49 0 ((mset σ 49 26 1) 49 27)) 49 1 ((mset (mset σ 49 26 1) 49 0 ((mset σ 49 26 1) 49 27)) 49 28))) ∧
              (¬ ((mset σ 49 26 1) 49 26) = 0 → Q (w32 ((-20) - ((mset σ 49 26 1) 49 24))) (mset σ 49 26 1))) ∧
            ((σ 49 25) ≤ (σ 49 24) →
              (((mset σ 49 26 0) 49 26) = 0 →
                K_M_read_208 d Q 0 0 (mset (mset (mset σ 49 26 0) 49 0 ((mset σ 49 26 0) 49 27)) 49 1 ((mset (mset σ 49 26 0) 49 0 ((mset σ 49 26 0) 49 27)) 49 28))) ∧
              (¬ ((mset σ 49 26 0) 49 26) = 0 → Q (w32 ((-20) - ((mset σ 49 26 0) 49 24))) (mset σ 49 26 0)))) ∧
          (¬ (σ 49 26) = 0 →
            (((mset σ 49 26 1) 49 26) = 0 →
              K_M_read_208 d Q 0 0 (mset (mset (mset σ 49 26 1) 49 0 ((mset σ 49 26 1) 49 27)) 49 1 ((mset (mset σ 49 26 1) 49 0 ((mset σ 49 26 1) 49 27)) 49 28))) ∧
            (¬ ((mset σ 49 26 1) 49 26) = 0 → Q (w32 ((-20) - ((mset σ 49 26 1) 49 24))) (mset σ 49 26 1))))) ∧
      (6 ≤ (σ 49 28) →
        ((σ 49 26) = 0 →
          ((σ 49 24) < (σ 49 25) →
            (((mset σ 49 26 1) 49 26) = 0 →
              K_M_read_208 d Q 0 0 (mset (mset (mset σ 49 26 1) 49 0 ((mset σ 49 26 1) 49 27)) 49 1 ((mset (mset σ 49 26 1) 49 0 ((mset σ 49 26 1) 49 27)) 49 28))) ∧
            (¬ ((mset σ 49 26 1) 49 26) = 0 → Q (w32 ((-20) - ((mset σ 49 26 1) 49 24))) (mset σ 49 26 1))) ∧
          ((σ 49 25) ≤ (σ 49 24) →
            (((mset σ 49 26 0) 49 26) = 0 →
              K_M_read_208 d Q 0 0 (mset (mset (mset σ 49 26 0) 49 0 ((mset σ 49 26 0) 49 27)) 49 1 ((mset (mset σ 49 26 0) 49 0 ((mset σ 49 26 0) 49 27)) 49 28))) ∧
            (¬ ((mset σ 49 26 0) 49 26) = 0 → Q (w32 ((-20) - ((mset σ 49 26 0) 49 24))) (mset σ 49 26 0)))) ∧
        (¬ (σ 49 26) = 0 →
          (((mset σ 49 26 1) 49 26) = 0 →
            K_M_read_208 d Q 0 0 (mset (mset (mset σ 49 26 1) 49 0 ((mset σ 49 26 1) 49 27)) 49 1 ((mset (mset σ 49 26 1) 49 0 ((mset σ 49 26 1) 49 27)) 49 28))) ∧
          (¬ ((mset σ 49 26 1) 49 26) = 0 → Q (w32 ((-20) - ((mset σ 49 26 1) 49 24))) (mset σ 49 26 1)))))) ∧
  (¬ (σ 49 26) = 0 →
    ((σ 49 26) = 0 →
      ((σ 49 24) < (σ 49 25) →
        (((mset σ 49 26 1) 49 26) = 0 →
          K_M_read_208 d Q 0 0 (mset (mset (mset σ 49 26 1) 49 0 ((mset σ 49 26 1) 49 27)) 49 1 ((mset (mset σ 49 26 1) 49 0 ((mset σ 49 26 1) 49 27)) 49 28))) ∧
        (¬ ((mset σ 49 26 1) 49 26) = 0 → Q (w32 ((-20) - ((mset σ 49 26 1) 49 24))) (mset σ 49 26 1))) ∧
      ((σ 49 25) ≤ (σ 49 24) →
        (((mset σ 49 26 0) 49 26) = 0 →
          K_M_read_208 d Q 0 0 (mset (mset (mset σ 49 26 0) 49 0 ((mset σ 49 26 0) 49 27)) 49 1 ((mset (mset σ 49 26 0) 49 0 ((mset σ 49 26 0) 49 27)) 49 28))) ∧
        (¬ ((mset σ 49 26 0) 49 26) = 0 → Q (w32 ((-20) - ((mset σ 49 26 0) 49 24))) (mset σ 49 26 0)))) ∧
    (¬ (σ 49 26) = 0 →
      (((mset σ 49 26 1) 49 26) = 0 →
        K_M_read_208 d Q 0 0 (mset (mset (mset σ 49 26 1) 49 0 ((mset σ 49 26 1) 49 27)) 49 1 ((mset (mset σ 49 26 1) 49 0 ((mset σ 49 26 1) 49 27)) 49 28))) ∧
      (¬ ((mset σ 49 26 1) 49 26) = 0 → Q (w32 ((-20) - ((mset σ 49 26 1) 49 24))) (mset σ 49 26 1))))) : K_M_read_105 d Q  σ := XX_intro (g_M_read_105 (call := wp d) (cut := XX none (wp d) c_M_read false Q) (Q := Q)  (σ := σ) (⟨fun z10 => ⟨fun z9 => (((h).1 z10)).1 z9, fun z9 => ⟨fun z8 => ⟨fun z7 => (((((((h).1 z10)).2 z9)).1 z8)).1 z7, fun z7 => ⟨fun z6 => ⟨fun z5 => ⟨isB1, ((((((((((((h).1 z10)).2 z9)).1 z8)).2 z7)).1 z6)).1 z5)⟩, fun z5 => ⟨isB0, ((((((((((((h).1 z10)).2 z9)).1 z8)).2 z7)).1 z6)).2 z5)⟩⟩, fun z6 => ⟨isB1, ((((((((((h).1 z10)).2 z9)).1 z8)).2 z7)).2 z6)⟩⟩⟩, fun z8 => ⟨fun z4 => ⟨fun z3 => ⟨isB1, ((((((((((h).1 z10)).2 z9)).2 z8)).1 z4)).1 z3)⟩, fun z3 => ⟨isB0, ((((((((((h).1 z10)).2 z9)).2 z8)).1 z4)).2 z3)⟩⟩, fun z4 => ⟨isB1, ((((((((h).1 z10)).2 z9)).2 z8)).2 z4)⟩⟩⟩⟩, fun z10 => ⟨fun z2 => ⟨fun z1 => ⟨isB1, ((((((h).2 z10)).1 z2)).1 z1)⟩, fun z1 => ⟨isB0, ((((((h).2 z10)).1 z2)).2 z1)⟩⟩, fun z2 => ⟨isB1, ((((h).2 z10)).2 z2)⟩⟩⟩))
theorem g_M_read_208 {call : Nat → List AV → Mem → (Int → Mem → Prop) → Prop} {cut : Nat → Lo → List AV → Mem → Prop} {Q : Int → Mem → Prop} {x1 : Int} {x3 : Int} {σ : Mem} (h :
  (x3 < (σ 49 0) →
    (0 ≤ x3 ∧ x3 < (4 : Int)) ∧ (0 ≤ x3 ∧ x3 < (4 : Int)) ∧ (0 ≤ x3 ∧ x3 < (4 : Int)) ∧ call m_M_divisor [.inr (.inl x1), .inr (.inl ((mset σ 50 x3.toNat (σ 65 x3.toNat)) 50 x3.toNat))] (mset σ 50 x3.toNat (σ 65 x3.toNat)) (fun (r1 : Int) (s2 : Mem) =>
    cut 208 [some (.inr (.inr 49)), some (.inr (.inl r1)), none, some (.inl (w32 (x3 + 1)))] [] s2)) ∧
  ((σ 49 0) ≤ x3 → cut 248 [some (.inr (.inr 49)), some (.inr (.inl x1)), none, some (.inl 0)] [] σ)) : seg none call c_M_read false Q cut 2000 true (toPc 208 c_M_read) [some (.inr (.inr 49)), some (.inr (.inl x1)), none, some (.inl x3)] [] σ := h
theorem e_M_read_208 {d : Nat} {Q : Int → Mem → Prop} {x1 : Int} {x3 : Int} {σ : Mem} (h :
  (x3 < (σ 49 0) →
    (0 ≤ x3 ∧ x3 < (4 : Int)) ∧ (0 ≤ x3 ∧ x3 < (4 : Int)) ∧ (0 ≤ x3 ∧ x3 < (4 : Int)) ∧ wp d m_M_divisor [.inr (.inl x1), .inr (.inl ((mset σ 50 x3.toNat (σ 65 x3.toNat)) 50 x3.toNat))] (mset σ 50 x3.toNat (σ 65 x3.toNat)) (fun (r1 : Int) (s2 : Mem) => K_M_read_208 d Q r1 (w32 (x3 + 1)) s2)) ∧
  ((σ 49 0) ≤ x3 → K_M_read_248 d Q x1 0 σ)) : K_M_read_208 d Q x1 x3 σ := XX_intro (g_M_read_208 (call := wp d) (cut := XX none (wp d) c_M_read false Q) (Q := Q) (x1 := x1) (x3 := x3) (σ := σ) (h))
theorem g_M_read_248 {call : Nat → List AV → Mem → (Int → Mem → Prop) → Prop} {cut : Nat → Lo → List AV → Mem → Prop} {Q : Int → Mem → Prop} {x1 : Int} {x3 : Int} {σ : Mem} (h :
  (x3 < (σ 49 0) →
    (0 ≤ x3 ∧ x3 < (4 : Int)) ∧ (¬ (w32 x1) = 0) ∧ (0 ≤ x3 ∧ x3 < (4 : Int)) ∧ cut 248 [some (.inr (.inr 49)), some (.inr (.inl x1)), none, some (.inl (w32 (x3 + 1)))] [] (mset σ 51 x3.toNat (w32 (Int.tdiv (σ 50 x3.toNat) (w32 x1))))) ∧
  ((σ 49 0) ≤ x3 → cut 279 [some (.inr (.inr 49)), none, none, some (.inl 0)] [] σ)) : seg none call c_M_read false Q cut 2000 true (toPc 248 c_M_read) [some (.inr (.inr 49)), some (.inr (.inl x1)), none, some (.inl x3)] [] σ := h
theorem e_M_read_248 {d : Nat} {Q : Int → Mem → Prop} {x1 : Int} {x3 : Int} {σ : Mem} (h :
  (x3 < (σ 49 0) →
    (0 ≤ x3 ∧ x3 < (4 : Int)) ∧ (¬ (w32 x1) = 0) ∧ (0 ≤ x3 ∧ x3 < (4 : Int)) ∧ K_M_read_248 d Q x1 (w32 (x3 + 1)) (mset σ 51 x3.toNat (w32 (Int.tdiv (σ 50 x3.toNat) (w32 x1))))) ∧
  ((σ 49 0) ≤ x3 → K_M_read_279 d Q 0 σ)) : K_M_read_248 d Q x1 x3 σ := XX_intro (g_M_read_248 (call := wp d) (cut := XX none (wp d) c_M_read false Q) (Q := Q) (x1 := x1) (x3 := x3) (σ := σ) (h))
theorem g_M_read_279 {call : Nat → List AV → Mem → (Int → Mem → Prop) → Prop} {cut : Nat → Lo → List AV → Mem → Prop} {Q : Int → Mem → Prop} {x3 : Int} {σ : Mem} (h :
  (x3 < 24 →
    (0 ≤ x3 ∧ x3 < (48 : Int)) ∧ (0 ≤ x3 ∧ x3 < (72 : Int)) ∧ (0 ≤ (w32 (24 + x3)) ∧ (w32 (24 + x3)) < (48 : Int)) ∧ (0 ≤ (w32 (24 + x3)) ∧ (w32 (24 + x3)) < (72 : Int)) ∧ (0 ≤ x3 ∧ x3 < (48 : Int)) ∧ (0 ≤ (w32 (48 + x3)) ∧ (w32 (48 + x3)) < (72 : Int)) ∧ cut 279 [some (.inr (.inr 49)), none, none, some (.inl (w32 (x3 + 1)))] [] (mset (mset (mset σ 52 x3.toNat (σ 66 x3.toNat)) 52 (w32 (24 + x3)).toNat ((mset σ 52 x3.toNat (σ 66 x3.toNat)) 66 (w32 (24 + x3)).toNat)) 52 (w32 (48 + x3)).toNat ((mset (mset σ 52 x3.toNat (σ 66 x3.toNat)) 52 (w32 (24 + x3)).toNat ((mset σ 52 x3.toNat (σ 66 x3.toNat)) 66 (w32 (24 + x3)).toNat)) 66 x3.toNat))) ∧
  (24 ≤ x3 →
    Q (w32 ((w32 (10 * ((mset (mset (mset (mset (mset (mset σ 49 5 0) 49 6 0) 49 9 0) 49 12 0) 49 16 0) 49 19 0) 49 0))) + ((mset (mset (mset (mset (mset (mset σ 49 5 0) 49 6 0) 49 9 0) 49 12 0) 49 16 0) 49 19 0) 49 1))) (mset (mset (mset (mset (mset (mset σ 49 5 0) 49 6 0) 49 9 0) 49 12 0) 49 16 0) 49 19 0))) : seg none call c_M_read false Q cut 2000 true (toPc 279 c_M_read) [some (.inr (.inr 49)), none, none, some (.inl x3)] [] σ := h
theorem e_M_read_279 {d : Nat} {Q : Int → Mem → Prop} {x3 : Int} {σ : Mem} (h :
  (x3 < 24 →
    (0 ≤ x3 ∧ x3 < (48 : Int)) ∧ (0 ≤ x3 ∧ x3 < (72 : Int)) ∧ (0 ≤ (w32 (24 + x3)) ∧ (w32 (24 + x3)) < (48 : Int)) ∧ (0 ≤ (w32 (24 + x3)) ∧ (w32 (24 + x3)) < (72 : Int)) ∧ (0 ≤ x3 ∧ x3 < (48 : Int)) ∧ (0 ≤ (w32 (48 + x3)) ∧ (w32 (48 + x3)) < (72 : Int)) ∧ K_M_read_279 d Q (w32 (x3 + 1)) (mset (mset (mset σ 52 x3.toNat (σ 66 x3.toNat)) 52 (w32 (24 + x3)).toNat ((mset σ 52 x3.toNat (σ 66 x3.toNat)) 66 (w32 (24 + x3)).toNat)) 52 (w32 (48 + x3)).toNat ((mset (mset σ 52 x3.toNat (σ 66 x3.toNat)) 52 (w32 (24 + x3)).toNat ((mset σ 52 x3.toNat (σ 66 x3.toNat)) 66 (w32 (24 + x3)).toNat)) 66 x3.toNat))) ∧
  (24 ≤ x3 →
    Q (w32 ((w32 (10 * ((mset (mset (mset (mset (mset (mset σ 49 5 0) 49 6 0) 49 9 0) 49 12 0) 49 16 0) 49 19 0) 49 0))) + ((mset (mset (mset (mset (mset (mset σ 49 5 0) 49 6 0) 49 9 0) 49 12 0) 49 16 0) 49 19 0) 49 1))) (mset (mset (mset (mset (mset (mset σ 49 5 0) 49 6 0) 49 9 0) 49 12 0) 49 16 0) 49 19 0))) : K_M_read_279 d Q x3 σ := XX_intro (g_M_read_279 (call := wp d) (cut := XX none (wp d) c_M_read false Q) (Q := Q) (x3 := x3) (σ := σ) (h))
theorem g_M_isTruth {call : Nat → List AV → Mem → (Int → Mem → Prop) → Prop} {cut : Nat → Lo → List AV → Mem → Prop} {Q : Int → Mem → Prop} {a1 : Int} {σ : Mem} (h :
  call m_M_in [.inr (.inl a1), .inr (.inl 0), .inr (.inl (w32 ((σ 49 0) - 1)))] σ (fun (r1 : Int) (s2 : Mem) => isB r1 ∧ Q r1 s2)) : seg none call c_M_isTruth true Q cut 2000 true (toPc 0 c_M_isTruth) [some (.inr (.inr 49)), some (.inl a1)] [] σ := h
theorem e_M_isTruth {d : Nat} {Q : Int → Mem → Prop} {a1 : Int} {σ : Mem} (h :
  wp d m_M_in [.inr (.inl a1), .inr (.inl 0), .inr (.inl (w32 ((σ 49 0) - 1)))] σ (fun (r1 : Int) (s2 : Mem) => isB r1 ∧ Q r1 s2)) : wp (d + 1) m_M_isTruth [.inr (.inr 49), .inl a1] σ Q := wp_in rfl (XX_intro (g_M_isTruth (call := wp d) (cut := XX none (wp d) c_M_isTruth true Q) (Q := Q) (a1 := a1) (σ := σ) (h)))
theorem g_M_isAct {call : Nat → List AV → Mem → (Int → Mem → Prop) → Prop} {cut : Nat → Lo → List AV → Mem → Prop} {Q : Int → Mem → Prop} {a1 : Int} {σ : Mem} (h :
  call m_M_in [.inr (.inl a1), .inr (.inl 0), .inr (.inl (w32 ((σ 49 1) - 1)))] σ (fun (r1 : Int) (s2 : Mem) => isB r1 ∧ Q r1 s2)) : seg none call c_M_isAct true Q cut 2000 true (toPc 0 c_M_isAct) [some (.inr (.inr 49)), some (.inl a1)] [] σ := h
theorem e_M_isAct {d : Nat} {Q : Int → Mem → Prop} {a1 : Int} {σ : Mem} (h :
  wp d m_M_in [.inr (.inl a1), .inr (.inl 0), .inr (.inl (w32 ((σ 49 1) - 1)))] σ (fun (r1 : Int) (s2 : Mem) => isB r1 ∧ Q r1 s2)) : wp (d + 1) m_M_isAct [.inr (.inr 49), .inl a1] σ Q := wp_in rfl (XX_intro (g_M_isAct (call := wp d) (cut := XX none (wp d) c_M_isAct true Q) (Q := Q) (a1 := a1) (σ := σ) (h)))
theorem g_M_isLook {call : Nat → List AV → Mem → (Int → Mem → Prop) → Prop} {cut : Nat → Lo → List AV → Mem → Prop} {Q : Int → Mem → Prop} {a1 : Int} {σ : Mem} (h :
  call m_M_in [.inr (.inl a1), .inr (.inl 0), .inr (.inl (w32 ((σ 49 6) - 1)))] σ (fun (r1 : Int) (s2 : Mem) => isB r1 ∧ Q r1 s2)) : seg none call c_M_isLook true Q cut 2000 true (toPc 0 c_M_isLook) [some (.inr (.inr 49)), some (.inl a1)] [] σ := h
theorem e_M_isLook {d : Nat} {Q : Int → Mem → Prop} {a1 : Int} {σ : Mem} (h :
  wp d m_M_in [.inr (.inl a1), .inr (.inl 0), .inr (.inl (w32 ((σ 49 6) - 1)))] σ (fun (r1 : Int) (s2 : Mem) => isB r1 ∧ Q r1 s2)) : wp (d + 1) m_M_isLook [.inr (.inr 49), .inl a1] σ Q := wp_in rfl (XX_intro (g_M_isLook (call := wp d) (cut := XX none (wp d) c_M_isLook true Q) (Q := Q) (a1 := a1) (σ := σ) (h)))
theorem g_M_isSign {call : Nat → List AV → Mem → (Int → Mem → Prop) → Prop} {cut : Nat → Lo → List AV → Mem → Prop} {Q : Int → Mem → Prop} {a1 : Int} {a2 : Int} {σ : Mem} (h :
  call m_M_isLook [.inr (.inr 49), .inl a1] σ (fun (r1 : Int) (s2 : Mem) =>
  (r1 = 0 → isB 0 ∧ Q 0 s2) ∧
    (¬ r1 = 0 →
      (0 ≤ a1 ∧ a1 < (13 : Int)) ∧ call m_M_in [.inr (.inl a2), .inr (.inl 0), .inr (.inl (w32 ((s2 53 a1.toNat) - 1)))] s2 (fun (r3 : Int) (s4 : Mem) =>
      (r3 = 0 → isB 0 ∧ Q 0 s4) ∧
        (¬ r3 = 0 → isB 1 ∧ Q 1 s4))))) : seg none call c_M_isSign true Q cut 2000 true (toPc 0 c_M_isSign) [some (.inr (.inr 49)), some (.inl a1), some (.inl a2)] [] σ := h
theorem e_M_isSign {d : Nat} {Q : Int → Mem → Prop} {a1 : Int} {a2 : Int} {σ : Mem} (h :
  wp d m_M_isLook [.inr (.inr 49), .inl a1] σ (fun (r1 : Int) (s2 : Mem) =>
  (r1 = 0 → Q 0 s2) ∧
    (¬ r1 = 0 →
      (0 ≤ a1 ∧ a1 < (13 : Int)) ∧ wp d m_M_in [.inr (.inl a2), .inr (.inl 0), .inr (.inl (w32 ((s2 53 a1.toNat) - 1)))] s2 (fun (r3 : Int) (s4 : Mem) => (r3 = 0 → Q 0 s4) ∧
        (¬ r3 = 0 → Q 1 s4))))) : wp (d + 1) m_M_isSign [.inr (.inr 49), .inl a1, .inl a2] σ Q := wp_in rfl (XX_intro (g_M_isSign (call := wp d) (cut := XX none (wp d) c_M_isSign true Q) (Q := Q) (a1 := a1) (a2 := a2) (σ := σ) (wp_conseq (fun _ _ z4 => ⟨fun z3 => ⟨isB0, ((z4).1 z3)⟩, fun z3 => ⟨(((z4).2 z3)).1, wp_conseq (fun _ _ z2 => ⟨fun z1 => ⟨isB0, ((z2).1 z1)⟩, fun z1 => ⟨isB1, ((z2).2 z1)⟩⟩) ((((z4).2 z3)).2)⟩⟩) (h))))
theorem g_M_isTest {call : Nat → List AV → Mem → (Int → Mem → Prop) → Prop} {cut : Nat → Lo → List AV → Mem → Prop} {Q : Int → Mem → Prop} {a1 : Int} {σ : Mem} (h :
  call m_M_in [.inr (.inl a1), .inr (.inl 0), .inr (.inl (w32 ((σ 49 9) - 1)))] σ (fun (r1 : Int) (s2 : Mem) => isB r1 ∧ Q r1 s2)) : seg none call c_M_isTest true Q cut 2000 true (toPc 0 c_M_isTest) [some (.inr (.inr 49)), some (.inl a1)] [] σ := h
theorem e_M_isTest {d : Nat} {Q : Int → Mem → Prop} {a1 : Int} {σ : Mem} (h :
  wp d m_M_in [.inr (.inl a1), .inr (.inl 0), .inr (.inl (w32 ((σ 49 9) - 1)))] σ (fun (r1 : Int) (s2 : Mem) => isB r1 ∧ Q r1 s2)) : wp (d + 1) m_M_isTest [.inr (.inr 49), .inl a1] σ Q := wp_in rfl (XX_intro (g_M_isTest (call := wp d) (cut := XX none (wp d) c_M_isTest true Q) (Q := Q) (a1 := a1) (σ := σ) (h)))
theorem g_M_weight {call : Nat → List AV → Mem → (Int → Mem → Prop) → Prop} {cut : Nat → Lo → List AV → Mem → Prop} {Q : Int → Mem → Prop} {a1 : Int} {σ : Mem} (h :
  ((σ 49 0) = 0 →
    call m_M_refuse [.inr (.inr 49), .inl (-3)] σ (fun (r5 : Int) (s6 : Mem) => Q r5 s6)) ∧
  (¬ (σ 49 0) = 0 →
    call m_M_isTruth [.inr (.inr 49), .inl a1] σ (fun (r1 : Int) (s2 : Mem) =>
    (r1 = 0 →
        call m_M_refuse [.inr (.inr 49), .inl (-1)] s2 (fun (r3 : Int) (s4 : Mem) => Q r3 s4)) ∧
      (¬ r1 = 0 → (0 ≤ a1 ∧ a1 < (4 : Int)) ∧ Q (s2 50 a1.toNat) s2)))) : seg none call c_M_weight false Q cut 2000 true (toPc 0 c_M_weight) [some (.inr (.inr 49)), some (.inl a1)] [] σ := h
theorem e_M_weight {d : Nat} {Q : Int → Mem → Prop} {a1 : Int} {σ : Mem} (h :
  ((σ 49 0) = 0 →
    wp d m_M_refuse [.inr (.inr 49), .inl (-3)] σ (fun (r5 : Int) (s6 : Mem) => Q r5 s6)) ∧
  (¬ (σ 49 0) = 0 →
    wp d m_M_isTruth [.inr (.inr 49), .inl a1] σ (fun (r1 : Int) (s2 : Mem) =>
    (r1 = 0 →
        wp d m_M_refuse [.inr (.inr 49), .inl (-1)] s2 (fun (r3 : Int) (s4 : Mem) => Q r3 s4)) ∧
      (¬ r1 = 0 → (0 ≤ a1 ∧ a1 < (4 : Int)) ∧ Q (s2 50 a1.toNat) s2)))) : wp (d + 1) m_M_weight [.inr (.inr 49), .inl a1] σ Q := wp_in rfl (XX_intro (g_M_weight (call := wp d) (cut := XX none (wp d) c_M_weight false Q) (Q := Q) (a1 := a1) (σ := σ) (h)))
theorem g_M_gets {call : Nat → List AV → Mem → (Int → Mem → Prop) → Prop} {cut : Nat → Lo → List AV → Mem → Prop} {Q : Int → Mem → Prop} {a1 : Int} {a2 : Int} {a3 : Int} {σ : Mem} (h :
  call m_M_in [.inr (.inl a3), .inr (.inl 0), .inr (.inl 2)] σ (fun (r1 : Int) (s2 : Mem) =>
  (r1 = 0 →
      call m_M_refuse [.inr (.inr 49), .inl (-2)] s2 (fun (r13 : Int) (s14 : Mem) => Q (w32 (r13 - 1000)) s14)) ∧
    (¬ r1 = 0 →
      ((s2 49 0) = 0 →
        call m_M_refuse [.inr (.inr 49), .inl (-3)] s2 (fun (r11 : Int) (s12 : Mem) => Q (w32 (r11 - 1000)) s12)) ∧
      (¬ (s2 49 0) = 0 →
        call m_M_isAct [.inr (.inr 49), .inl a1] s2 (fun (r3 : Int) (s4 : Mem) =>
        (r3 = 0 →
            call m_M_refuse [.inr (.inr 49), .inl (-1)] s4 (fun (r5 : Int) (s6 : Mem) => Q (w32 (r5 - 1000)) s6)) ∧
          (¬ r3 = 0 →
            call m_M_isTruth [.inr (.inr 49), .inl a2] s4 (fun (r7 : Int) (s8 : Mem) =>
            (r7 = 0 →
                call m_M_refuse [.inr (.inr 49), .inl (-1)] s8 (fun (r9 : Int) (s10 : Mem) => Q (w32 (r9 - 1000)) s10)) ∧
              (¬ r7 = 0 →
                (0 ≤ (w32 ((w32 ((w32 (24 * a3)) + (w32 (4 * a1)))) + a2)) ∧ (w32 ((w32 ((w32 (24 * a3)) + (w32 (4 * a1)))) + a2)) < (72 : Int)) ∧ Q (s8 52 (w32 ((w32 ((w32 (24 * a3)) + (w32 (4 * a1)))) + a2)).toNat) s8)))))))) : seg none call c_M_gets false Q cut 2000 true (toPc 0 c_M_gets) [some (.inr (.inr 49)), some (.inl a1), some (.inl a2), some (.inl a3)] [] σ := h
theorem e_M_gets {d : Nat} {Q : Int → Mem → Prop} {a1 : Int} {a2 : Int} {a3 : Int} {σ : Mem} (h :
  wp d m_M_in [.inr (.inl a3), .inr (.inl 0), .inr (.inl 2)] σ (fun (r1 : Int) (s2 : Mem) =>
  (r1 = 0 →
      wp d m_M_refuse [.inr (.inr 49), .inl (-2)] s2 (fun (r13 : Int) (s14 : Mem) => Q (w32 (r13 - 1000)) s14)) ∧
    (¬ r1 = 0 →
      ((s2 49 0) = 0 →
        wp d m_M_refuse [.inr (.inr 49), .inl (-3)] s2 (fun (r11 : Int) (s12 : Mem) => Q (w32 (r11 - 1000)) s12)) ∧
      (¬ (s2 49 0) = 0 →
        wp d m_M_isAct [.inr (.inr 49), .inl a1] s2 (fun (r3 : Int) (s4 : Mem) =>
        (r3 = 0 →
            wp d m_M_refuse [.inr (.inr 49), .inl (-1)] s4 (fun (r5 : Int) (s6 : Mem) => Q (w32 (r5 - 1000)) s6)) ∧
          (¬ r3 = 0 →
            wp d m_M_isTruth [.inr (.inr 49), .inl a2] s4 (fun (r7 : Int) (s8 : Mem) =>
            (r7 = 0 →
                wp d m_M_refuse [.inr (.inr 49), .inl (-1)] s8 (fun (r9 : Int) (s10 : Mem) => Q (w32 (r9 - 1000)) s10)) ∧
              (¬ r7 = 0 →
                (0 ≤ (w32 ((w32 ((w32 (24 * a3)) + (w32 (4 * a1)))) + a2)) ∧ (w32 ((w32 ((w32 (24 * a3)) + (w32 (4 * a1)))) + a2)) < (72 : Int)) ∧ Q (s8 52 (w32 ((w32 ((w32 (24 * a3)) + (w32 (4 * a1)))) + a2)).toNat) s8)))))))) : wp (d + 1) m_M_gets [.inr (.inr 49), .inl a1, .inl a2, .inl a3] σ Q := wp_in rfl (XX_intro (g_M_gets (call := wp d) (cut := XX none (wp d) c_M_gets false Q) (Q := Q) (a1 := a1) (a2 := a2) (a3 := a3) (σ := σ) (h)))
abbrev K_M_keepBack_12 (d : Nat) (Q : Int → Mem → Prop) (x1 : Int) (x2 : Int) (x3 : Int) (x4 : Int) (σ : Mem) : Prop := XX none (wp d) c_M_keepBack false Q 12 [some (.inr (.inr 49)), some (.inl x1), some (.inl x2), some (.inl x3), some (.inl x4)] [] σ
theorem g_M_keepBack {call : Nat → List AV → Mem → (Int → Mem → Prop) → Prop} {cut : Nat → Lo → List AV → Mem → Prop} {Q : Int → Mem → Prop} {a1 : Int} {a2 : Int} {a3 : Int} {σ : Mem} (h :
  ((σ 49 19) = 30 →
    cut 12 [some (.inr (.inr 49)), some (.inl a1), some (.inl a2), some (.inl a3), some (.inl 0)] [] σ) ∧
  (¬ (σ 49 19) = 30 →
    (0 ≤ (σ 49 19) ∧ (σ 49 19) < (30 : Int)) ∧ (0 ≤ ((mset σ 61 (σ 49 19).toNat a1) 49 19) ∧ ((mset σ 61 (σ 49 19).toNat a1) 49 19) < (30 : Int)) ∧ (0 ≤ ((mset (mset σ 61 (σ 49 19).toNat a1) 62 ((mset σ 61 (σ 49 19).toNat a1) 49 19).toNat a2) 49 19) ∧ ((mset (mset σ 61 (σ 49 19).toNat a1) 62 ((mset σ 61 (σ 49 19).toNat a1) 49 19).toNat a2) 49 19) < (30 : Int)) ∧ Q 0 (mset (mset (mset (mset σ 61 (σ 49 19).toNat a1) 62 ((mset σ 61 (σ 49 19).toNat a1) 49 19).toNat a2) 63 ((mset (mset σ 61 (σ 49 19).toNat a1) 62 ((mset σ 61 (σ 49 19).toNat a1) 49 19).toNat a2) 49 19).toNat a3) 49 19 (w32 (((mset (mset (mset σ 61 (σ 49 19).toNat a1) 62 ((mset σ 61 (σ 49 19).toNat a1) 49 19).toNat a2) 63 ((mset (mset σ 61 (σ 49 19).toNat a1) 62 ((mset σ 61 (σ 49 19).toNat a1) 49 19).toNat a2) 49 19).toNat a3) 49 19) + 1))))) : seg none call c_M_keepBack false Q cut 2000 true (toPc 0 c_M_keepBack) [some (.inr (.inr 49)), some (.inl a1), some (.inl a2), some (.inl a3), none] [] σ := h
theorem e_M_keepBack {d : Nat} {Q : Int → Mem → Prop} {a1 : Int} {a2 : Int} {a3 : Int} {σ : Mem} (h :
  ((σ 49 19) = 30 → K_M_keepBack_12 d Q a1 a2 a3 0 σ) ∧
  (¬ (σ 49 19) = 30 →
    (0 ≤ (σ 49 19) ∧ (σ 49 19) < (30 : Int)) ∧ (0 ≤ ((mset σ 61 (σ 49 19).toNat a1) 49 19) ∧ ((mset σ 61 (σ 49 19).toNat a1) 49 19) < (30 : Int)) ∧ (0 ≤ ((mset (mset σ 61 (σ 49 19).toNat a1) 62 ((mset σ 61 (σ 49 19).toNat a1) 49 19).toNat a2) 49 19) ∧ ((mset (mset σ 61 (σ 49 19).toNat a1) 62 ((mset σ 61 (σ 49 19).toNat a1) 49 19).toNat a2) 49 19) < (30 : Int)) ∧ Q 0 (mset (mset (mset (mset σ 61 (σ 49 19).toNat a1) 62 ((mset σ 61 (σ 49 19).toNat a1) 49 19).toNat a2) 63 ((mset (mset σ 61 (σ 49 19).toNat a1) 62 ((mset σ 61 (σ 49 19).toNat a1) 49 19).toNat a2) 49 19).toNat a3) 49 19 (w32 (((mset (mset (mset σ 61 (σ 49 19).toNat a1) 62 ((mset σ 61 (σ 49 19).toNat a1) 49 19).toNat a2) 63 ((mset (mset σ 61 (σ 49 19).toNat a1) 62 ((mset σ 61 (σ 49 19).toNat a1) 49 19).toNat a2) 49 19).toNat a3) 49 19) + 1))))) : wp (d + 1) m_M_keepBack [.inr (.inr 49), .inl a1, .inl a2, .inl a3] σ Q := wp_in rfl (XX_intro (g_M_keepBack (call := wp d) (cut := XX none (wp d) c_M_keepBack false Q) (Q := Q) (a1 := a1) (a2 := a2) (a3 := a3) (σ := σ) (h)))
theorem g_M_keepBack_12 {call : Nat → List AV → Mem → (Int → Mem → Prop) → Prop} {cut : Nat → Lo → List AV → Mem → Prop} {Q : Int → Mem → Prop} {x1 : Int} {x2 : Int} {x3 : Int} {x4 : Int} {σ : Mem} (h :
  (x4 < 29 →
    (0 ≤ (w32 (x4 + 1)) ∧ (w32 (x4 + 1)) < (30 : Int)) ∧ (0 ≤ x4 ∧ x4 < (30 : Int)) ∧ (0 ≤ (w32 (x4 + 1)) ∧ (w32 (x4 + 1)) < (30 : Int)) ∧ (0 ≤ x4 ∧ x4 < (30 : Int)) ∧ (0 ≤ (w32 (x4 + 1)) ∧ (w32 (x4 + 1)) < (30 : Int)) ∧ (0 ≤ x4 ∧ x4 < (30 : Int)) ∧ cut 12 [some (.inr (.inr 49)), some (.inl x1), some (.inl x2), some (.inl x3), some (.inl (w32 (x4 + 1)))] [] (mset (mset (mset σ 61 x4.toNat (σ 61 (w32 (x4 + 1)).toNat)) 62 x4.toNat ((mset σ 61 x4.toNat (σ 61 (w32 (x4 + 1)).toNat)) 62 (w32 (x4 + 1)).toNat)) 63 x4.toNat ((mset (mset σ 61 x4.toNat (σ 61 (w32 (x4 + 1)).toNat)) 62 x4.toNat ((mset σ 61 x4.toNat (σ 61 (w32 (x4 + 1)).toNat)) 62 (w32 (x4 + 1)).toNat)) 63 (w32 (x4 + 1)).toNat))) ∧
  (29 ≤ x4 →
    (0 ≤ ((mset σ 49 19 29) 49 19) ∧ ((mset σ 49 19 29) 49 19) < (30 : Int)) ∧ (0 ≤ ((mset (mset σ 49 19 29) 61 ((mset σ 49 19 29) 49 19).toNat x1) 49 19) ∧ ((mset (mset σ 49 19 29) 61 ((mset σ 49 19 29) 49 19).toNat x1) 49 19) < (30 : Int)) ∧ (0 ≤ ((mset (mset (mset σ 49 19 29) 61 ((mset σ 49 19 29) 49 19).toNat x1) 62 ((mset (mset σ 49 19 29) 61 ((mset σ 49 19 29) 49 19).toNat x1) 49 19).toNat x2) 49 19) ∧ ((mset (mset (mset σ 49 19 29) 61 ((mset σ 49 19 29) 49 19).toNat x1) 62 ((mset (mset σ 49 19 29) 61 ((mset σ 49 19 29) 49 19).toNat x1) 49 19).toNat x2) 49 19) < (30 : Int)) ∧ Q 0 (mset (mset (mset (mset (mset σ 49 19 29) 61 ((mset σ 49 19 29) 49 19).toNat x1) 62 ((mset (mset σ 49 19 29) 61 ((mset σ 49 19 29) 49 19).toNat x1) 49 19).toNat x2) 63 ((mset (mset (mset σ 49 19 29) 61 ((mset σ 49 19 29) 49 19).toNat x1) 62 ((mset (mset σ 49 19 29) 61 ((mset σ 49 19 29) 49 19).toNat x1) 49 19).toNat x2) 49 19).toNat x3) 49 19 (w32 (((mset (mset (mset (mset σ 49 19 29) 61 ((mset σ 49 19 29) 49 19).toNat x1) 62 ((mset (mset σ 49 19 29) 61 ((mset σ 49 19 29) 49 19).toNat x1) 49 19).toNat x2) 63 ((mset (mset (mset σ 49 19 29) 61 ((mset σ 49 19 29) 49 19).toNat x1) 62 ((mset (mset σ 49 19 29) 61 ((mset σ 49 19 29) 49 19).toNat x1) 49 19).toNat x2) 49 19).toNat x3) 49 19) + 1))))) : seg none call c_M_keepBack false Q cut 2000 true (toPc 12 c_M_keepBack) [some (.inr (.inr 49)), some (.inl x1), some (.inl x2), some (.inl x3), some (.inl x4)] [] σ := h
theorem e_M_keepBack_12 {d : Nat} {Q : Int → Mem → Prop} {x1 : Int} {x2 : Int} {x3 : Int} {x4 : Int} {σ : Mem} (h :
  (x4 < 29 →
    (0 ≤ (w32 (x4 + 1)) ∧ (w32 (x4 + 1)) < (30 : Int)) ∧ (0 ≤ x4 ∧ x4 < (30 : Int)) ∧ (0 ≤ (w32 (x4 + 1)) ∧ (w32 (x4 + 1)) < (30 : Int)) ∧ (0 ≤ x4 ∧ x4 < (30 : Int)) ∧ (0 ≤ (w32 (x4 + 1)) ∧ (w32 (x4 + 1)) < (30 : Int)) ∧ (0 ≤ x4 ∧ x4 < (30 : Int)) ∧ K_M_keepBack_12 d Q x1 x2 x3 (w32 (x4 + 1)) (mset (mset (mset σ 61 x4.toNat (σ 61 (w32 (x4 + 1)).toNat)) 62 x4.toNat ((mset σ 61 x4.toNat (σ 61 (w32 (x4 + 1)).toNat)) 62 (w32 (x4 + 1)).toNat)) 63 x4.toNat ((mset (mset σ 61 x4.toNat (σ 61 (w32 (x4 + 1)).toNat)) 62 x4.toNat ((mset σ 61 x4.toNat (σ 61 (w32 (x4 + 1)).toNat)) 62 (w32 (x4 + 1)).toNat)) 63 (w32 (x4 + 1)).toNat))) ∧
  (29 ≤ x4 →
    (0 ≤ ((mset σ 49 19 29) 49 19) ∧ ((mset σ 49 19 29) 49 19) < (30 : Int)) ∧ (0 ≤ ((mset (mset σ 49 19 29) 61 ((mset σ 49 19 29) 49 19).toNat x1) 49 19) ∧ ((mset (mset σ 49 19 29) 61 ((mset σ 49 19 29) 49 19).toNat x1) 49 19) < (30 : Int)) ∧ (0 ≤ ((mset (mset (mset σ 49 19 29) 61 ((mset σ 49 19 29) 49 19).toNat x1) 62 ((mset (mset σ 49 19 29) 61 ((mset σ 49 19 29) 49 19).toNat x1) 49 19).toNat x2) 49 19) ∧ ((mset (mset (mset σ 49 19 29) 61 ((mset σ 49 19 29) 49 19).toNat x1) 62 ((mset (mset σ 49 19 29) 61 ((mset σ 49 19 29) 49 19).toNat x1) 49 19).toNat x2) 49 19) < (30 : Int)) ∧ Q 0 (mset (mset (mset (mset (mset σ 49 19 29) 61 ((mset σ 49 19 29) 49 19).toNat x1) 62 ((mset (mset σ 49 19 29) 61 ((mset σ 49 19 29) 49 19).toNat x1) 49 19).toNat x2) 63 ((mset (mset (mset σ 49 19 29) 61 ((mset σ 49 19 29) 49 19).toNat x1) 62 ((mset (mset σ 49 19 29) 61 ((mset σ 49 19 29) 49 19).toNat x1) 49 19).toNat x2) 49 19).toNat x3) 49 19 (w32 (((mset (mset (mset (mset σ 49 19 29) 61 ((mset σ 49 19 29) 49 19).toNat x1) 62 ((mset (mset σ 49 19 29) 61 ((mset σ 49 19 29) 49 19).toNat x1) 49 19).toNat x2) 63 ((mset (mset (mset σ 49 19 29) 61 ((mset σ 49 19 29) 49 19).toNat x1) 62 ((mset (mset σ 49 19 29) 61 ((mset σ 49 19 29) 49 19).toNat x1) 49 19).toNat x2) 49 19).toNat x3) 49 19) + 1))))) : K_M_keepBack_12 d Q x1 x2 x3 x4 σ := XX_intro (g_M_keepBack_12 (call := wp d) (cut := XX none (wp d) c_M_keepBack false Q) (Q := Q) (x1 := x1) (x2 := x2) (x3 := x3) (x4 := x4) (σ := σ) (h))
theorem g_M_second {call : Nat → List AV → Mem → (Int → Mem → Prop) → Prop} {cut : Nat → Lo → List AV → Mem → Prop} {Q : Int → Mem → Prop} {a1 : Int} {a2 : Int} {a3 : Int} {σ : Mem} (h :
  ((σ 49 0) = 0 →
    call m_M_refuse [.inr (.inr 49), .inl (-3)] σ (fun (r15 : Int) (s16 : Mem) => Q r15 s16)) ∧
  (¬ (σ 49 0) = 0 →
    call m_M_isAct [.inr (.inr 49), .inl a1] σ (fun (r1 : Int) (s2 : Mem) =>
    (r1 = 0 →
        call m_M_refuse [.inr (.inr 49), .inl (-1)] s2 (fun (r3 : Int) (s4 : Mem) => Q r3 s4)) ∧
      (¬ r1 = 0 →
        call m_M_isTruth [.inr (.inr 49), .inl a2] s2 (fun (r5 : Int) (s6 : Mem) =>
        (r5 = 0 →
            call m_M_refuse [.inr (.inr 49), .inl (-1)] s6 (fun (r13 : Int) (s14 : Mem) => Q r13 s14)) ∧
          (¬ r5 = 0 →
            (a3 < (-99) →
              call m_M_refuse [.inr (.inr 49), .inl (-4)] s6 (fun (r11 : Int) (s12 : Mem) => Q r11 s12)) ∧
            ((-99) ≤ a3 →
              (99 < a3 →
                call m_M_refuse [.inr (.inr 49), .inl (-6)] s6 (fun (r9 : Int) (s10 : Mem) => Q r9 s10)) ∧
              (a3 ≤ 99 →
                (0 ≤ (w32 ((w32 (48 + (w32 (4 * a1)))) + a2)) ∧ (w32 ((w32 (48 + (w32 (4 * a1)))) + a2)) < (72 : Int)) ∧ call m_M_keepBack [.inr (.inr 49), .inl 3, .inl (w32 ((w32 (48 + (w32 (4 * a1)))) + a2)), .inl (s6 52 (w32 ((w32 (48 + (w32 (4 * a1)))) + a2)).toNat)] s6 (fun (r7 : Int) (s8 : Mem) =>
                (0 ≤ (w32 ((w32 (48 + (w32 (4 * a1)))) + a2)) ∧ (w32 ((w32 (48 + (w32 (4 * a1)))) + a2)) < (72 : Int)) ∧ Q 1 (mset s8 52 (w32 ((w32 (48 + (w32 (4 * a1)))) + a2)).toNat a3)))))))))) : seg none call c_M_second false Q cut 2000 true (toPc 0 c_M_second) [some (.inr (.inr 49)), some (.inl a1), some (.inl a2), some (.inl a3)] [] σ := h
theorem e_M_second {d : Nat} {Q : Int → Mem → Prop} {a1 : Int} {a2 : Int} {a3 : Int} {σ : Mem} (h :
  ((σ 49 0) = 0 →
    wp d m_M_refuse [.inr (.inr 49), .inl (-3)] σ (fun (r15 : Int) (s16 : Mem) => Q r15 s16)) ∧
  (¬ (σ 49 0) = 0 →
    wp d m_M_isAct [.inr (.inr 49), .inl a1] σ (fun (r1 : Int) (s2 : Mem) =>
    (r1 = 0 →
        wp d m_M_refuse [.inr (.inr 49), .inl (-1)] s2 (fun (r3 : Int) (s4 : Mem) => Q r3 s4)) ∧
      (¬ r1 = 0 →
        wp d m_M_isTruth [.inr (.inr 49), .inl a2] s2 (fun (r5 : Int) (s6 : Mem) =>
        (r5 = 0 →
            wp d m_M_refuse [.inr (.inr 49), .inl (-1)] s6 (fun (r13 : Int) (s14 : Mem) => Q r13 s14)) ∧
          (¬ r5 = 0 →
            (a3 < (-99) →
              wp d m_M_refuse [.inr (.inr 49), .inl (-4)] s6 (fun (r11 : Int) (s12 : Mem) => Q r11 s12)) ∧
            ((-99) ≤ a3 →
              (99 < a3 →
                wp d m_M_refuse [.inr (.inr 49), .inl (-6)] s6 (fun (r9 : Int) (s10 : Mem) => Q r9 s10)) ∧
              (a3 ≤ 99 →
                (0 ≤ (w32 ((w32 (48 + (w32 (4 * a1)))) + a2)) ∧ (w32 ((w32 (48 + (w32 (4 * a1)))) + a2)) < (72 : Int)) ∧ wp d m_M_keepBack [.inr (.inr 49), .inl 3, .inl (w32 ((w32 (48 + (w32 (4 * a1)))) + a2)), .inl (s6 52 (w32 ((w32 (48 + (w32 (4 * a1)))) + a2)).toNat)] s6 (fun (r7 : Int) (s8 : Mem) =>
                (0 ≤ (w32 ((w32 (48 + (w32 (4 * a1)))) + a2)) ∧ (w32 ((w32 (48 + (w32 (4 * a1)))) + a2)) < (72 : Int)) ∧ Q 1 (mset s8 52 (w32 ((w32 (48 + (w32 (4 * a1)))) + a2)).toNat a3)))))))))) : wp (d + 1) m_M_second [.inr (.inr 49), .inl a1, .inl a2, .inl a3] σ Q := wp_in rfl (XX_intro (g_M_second (call := wp d) (cut := XX none (wp d) c_M_second false Q) (Q := Q) (a1 := a1) (a2 := a2) (a3 := a3) (σ := σ) (h)))
theorem g_M_ties {call : Nat → List AV → Mem → (Int → Mem → Prop) → Prop} {cut : Nat → Lo → List AV → Mem → Prop} {Q : Int → Mem → Prop} {a1 : Int} {σ : Mem} (h :
  ((σ 49 0) = 0 →
    call m_M_refuse [.inr (.inr 49), .inl (-3)] σ (fun (r7 : Int) (s8 : Mem) => Q r7 s8)) ∧
  (¬ (σ 49 0) = 0 →
    call m_M_in [.inr (.inl a1), .inr (.inl 0), .inr (.inl 1)] σ (fun (r1 : Int) (s2 : Mem) =>
    (r1 = 0 →
        call m_M_refuse [.inr (.inr 49), .inl (-2)] s2 (fun (r5 : Int) (s6 : Mem) => Q r5 s6)) ∧
      (¬ r1 = 0 →
        call m_M_keepBack [.inr (.inr 49), .inl 2, .inl 0, .inl (s2 49 5)] s2 (fun (r3 : Int) (s4 : Mem) => Q (s2 49 5) (mset s4 49 5 a1)))))) : seg none call c_M_ties false Q cut 2000 true (toPc 0 c_M_ties) [some (.inr (.inr 49)), some (.inl a1), none] [] σ := h
theorem e_M_ties {d : Nat} {Q : Int → Mem → Prop} {a1 : Int} {σ : Mem} (h :
  ((σ 49 0) = 0 →
    wp d m_M_refuse [.inr (.inr 49), .inl (-3)] σ (fun (r7 : Int) (s8 : Mem) => Q r7 s8)) ∧
  (¬ (σ 49 0) = 0 →
    wp d m_M_in [.inr (.inl a1), .inr (.inl 0), .inr (.inl 1)] σ (fun (r1 : Int) (s2 : Mem) =>
    (r1 = 0 →
        wp d m_M_refuse [.inr (.inr 49), .inl (-2)] s2 (fun (r5 : Int) (s6 : Mem) => Q r5 s6)) ∧
      (¬ r1 = 0 →
        wp d m_M_keepBack [.inr (.inr 49), .inl 2, .inl 0, .inl (s2 49 5)] s2 (fun (r3 : Int) (s4 : Mem) => Q (s2 49 5) (mset s4 49 5 a1)))))) : wp (d + 1) m_M_ties [.inr (.inr 49), .inl a1] σ Q := wp_in rfl (XX_intro (g_M_ties (call := wp d) (cut := XX none (wp d) c_M_ties false Q) (Q := Q) (a1 := a1) (σ := σ) (h)))
abbrev K_M_sumOf_5 (d : Nat) (Q : Int → Mem → Prop) (x1 : Int) (x2 : Int) (x3 : Int) (x5 : Int) (σ : Mem) : Prop := XX none (wp d) c_M_sumOf false Q 5 [some (.inr (.inr 49)), some (.inl x1), some (.inl x2), some (.inr (.inl x3)), none, some (.inl x5)] [] σ
theorem g_M_sumOf {call : Nat → List AV → Mem → (Int → Mem → Prop) → Prop} {cut : Nat → Lo → List AV → Mem → Prop} {Q : Int → Mem → Prop} {a1 : Int} {a2 : Int} {σ : Mem} (h :
  cut 5 [some (.inr (.inr 49)), some (.inl a1), some (.inl a2), some (.inr (.inl 0)), none, some (.inl 0)] [] σ) : seg none call c_M_sumOf false Q cut 2000 true (toPc 0 c_M_sumOf) [some (.inr (.inr 49)), some (.inl a1), some (.inl a2), none, none, none] [] σ := h
theorem e_M_sumOf {d : Nat} {Q : Int → Mem → Prop} {a1 : Int} {a2 : Int} {σ : Mem} (h :
  K_M_sumOf_5 d Q a1 a2 0 0 σ) : wp (d + 1) m_M_sumOf [.inr (.inr 49), .inl a1, .inl a2] σ Q := wp_in rfl (XX_intro (g_M_sumOf (call := wp d) (cut := XX none (wp d) c_M_sumOf false Q) (Q := Q) (a1 := a1) (a2 := a2) (σ := σ) (h)))
theorem g_M_sumOf_5 {call : Nat → List AV → Mem → (Int → Mem → Prop) → Prop} {cut : Nat → Lo → List AV → Mem → Prop} {Q : Int → Mem → Prop} {x1 : Int} {x2 : Int} {x3 : Int} {x5 : Int} {σ : Mem} (h :
  (x5 < (σ 49 0) →
    (0 ≤ x5 ∧ x5 < (4 : Int)) ∧ (0 ≤ (w32 ((w32 ((w32 (24 * x1)) + (w32 (4 * x2)))) + x5)) ∧ (w32 ((w32 ((w32 (24 * x1)) + (w32 (4 * x2)))) + x5)) < (72 : Int)) ∧ cut 5 [some (.inr (.inr 49)), some (.inl x1), some (.inl x2), some (.inr (.inl (w64 (x3 + (w64 ((σ 67 x5.toNat) * (σ 52 (w32 ((w32 ((w32 (24 * x1)) + (w32 (4 * x2)))) + x5)).toNat))))))), none, some (.inl (w32 (x5 + 1)))] [] σ) ∧
  ((σ 49 0) ≤ x5 → Q x3 σ)) : seg none call c_M_sumOf false Q cut 2000 true (toPc 5 c_M_sumOf) [some (.inr (.inr 49)), some (.inl x1), some (.inl x2), some (.inr (.inl x3)), none, some (.inl x5)] [] σ := h
theorem e_M_sumOf_5 {d : Nat} {Q : Int → Mem → Prop} {x1 : Int} {x2 : Int} {x3 : Int} {x5 : Int} {σ : Mem} (h :
  (x5 < (σ 49 0) →
    (0 ≤ x5 ∧ x5 < (4 : Int)) ∧ (0 ≤ (w32 ((w32 ((w32 (24 * x1)) + (w32 (4 * x2)))) + x5)) ∧ (w32 ((w32 ((w32 (24 * x1)) + (w32 (4 * x2)))) + x5)) < (72 : Int)) ∧ K_M_sumOf_5 d Q x1 x2 (w64 (x3 + (w64 ((σ 67 x5.toNat) * (σ 52 (w32 ((w32 ((w32 (24 * x1)) + (w32 (4 * x2)))) + x5)).toNat))))) (w32 (x5 + 1)) σ) ∧
  ((σ 49 0) ≤ x5 → Q x3 σ)) : K_M_sumOf_5 d Q x1 x2 x3 x5 σ := XX_intro (g_M_sumOf_5 (call := wp d) (cut := XX none (wp d) c_M_sumOf false Q) (Q := Q) (x1 := x1) (x2 := x2) (x3 := x3) (x5 := x5) (σ := σ) (h))
abbrev K_M_allMass_4 (d : Nat) (Q : Int → Mem → Prop) (x1 : Int) (x3 : Int) (σ : Mem) : Prop := XX none (wp d) c_M_allMass false Q 4 [some (.inr (.inr 49)), some (.inr (.inl x1)), none, some (.inl x3)] [] σ
theorem g_M_allMass {call : Nat → List AV → Mem → (Int → Mem → Prop) → Prop} {cut : Nat → Lo → List AV → Mem → Prop} {Q : Int → Mem → Prop}  {σ : Mem} (h :
  cut 4 [some (.inr (.inr 49)), some (.inr (.inl 0)), none, some (.inl 0)] [] σ) : seg none call c_M_allMass false Q cut 2000 true (toPc 0 c_M_allMass) [some (.inr (.inr 49)), none, none, none] [] σ := h
theorem e_M_allMass {d : Nat} {Q : Int → Mem → Prop}  {σ : Mem} (h :
  K_M_allMass_4 d Q 0 0 σ) : wp (d + 1) m_M_allMass [.inr (.inr 49)] σ Q := wp_in rfl (XX_intro (g_M_allMass (call := wp d) (cut := XX none (wp d) c_M_allMass false Q) (Q := Q)  (σ := σ) (h)))
theorem g_M_allMass_4 {call : Nat → List AV → Mem → (Int → Mem → Prop) → Prop} {cut : Nat → Lo → List AV → Mem → Prop} {Q : Int → Mem → Prop} {x1 : Int} {x3 : Int} {σ : Mem} (h :
  (x3 < (σ 49 0) →
    (0 ≤ x3 ∧ x3 < (4 : Int)) ∧ cut 4 [some (.inr (.inr 49)), some (.inr (.inl (w64 (x1 + (σ 67 x3.toNat))))), none, some (.inl (w32 (x3 + 1)))] [] σ) ∧
  ((σ 49 0) ≤ x3 → Q x1 σ)) : seg none call c_M_allMass false Q cut 2000 true (toPc 4 c_M_allMass) [some (.inr (.inr 49)), some (.inr (.inl x1)), none, some (.inl x3)] [] σ := h
theorem e_M_allMass_4 {d : Nat} {Q : Int → Mem → Prop} {x1 : Int} {x3 : Int} {σ : Mem} (h :
  (x3 < (σ 49 0) →
    (0 ≤ x3 ∧ x3 < (4 : Int)) ∧ K_M_allMass_4 d Q (w64 (x1 + (σ 67 x3.toNat))) (w32 (x3 + 1)) σ) ∧
  ((σ 49 0) ≤ x3 → Q x1 σ)) : K_M_allMass_4 d Q x1 x3 σ := XX_intro (g_M_allMass_4 (call := wp d) (cut := XX none (wp d) c_M_allMass false Q) (Q := Q) (x1 := x1) (x3 := x3) (σ := σ) (h))
abbrev K_M_doneBy_15 (d : Nat) (Q : Int → Mem → Prop) (x2 : Int) (x3 : Int) (x4 : Int) (σ : Mem) : Prop := XX none (wp d) c_M_doneBy false Q 15 [some (.inr (.inr 49)), none, some (.inl x2), some (.inl x3), some (.inl x4), none, none, none, none, none, none, none, none, none] [] σ
theorem g_M_doneBy {call : Nat → List AV → Mem → (Int → Mem → Prop) → Prop} {cut : Nat → Lo → List AV → Mem → Prop} {Q : Int → Mem → Prop} {a1 : Int} {σ : Mem} (h :
  (a1 = 0 →
    cut 15 [some (.inr (.inr 49)), none, some (.inl 0), some (.inl 0), some (.inl 1), none, none, none, none, none, none, none, none, none] [] σ) ∧
  (¬ a1 = 0 →
    cut 15 [some (.inr (.inr 49)), none, some (.inl 2), some (.inl 0), some (.inl 1), none, none, none, none, none, none, none, none, none] [] σ)) : seg none call c_M_doneBy false Q cut 2000 true (toPc 0 c_M_doneBy) [some (.inr (.inr 49)), some (.inl a1), none, none, none, none, none, none, none, none, none, none, none, none] [] σ := h
theorem e_M_doneBy {d : Nat} {Q : Int → Mem → Prop} {a1 : Int} {σ : Mem} (h :
  (a1 = 0 → K_M_doneBy_15 d Q 0 0 1 σ) ∧
  (¬ a1 = 0 → K_M_doneBy_15 d Q 2 0 1 σ)) : wp (d + 1) m_M_doneBy [.inr (.inr 49), .inl a1] σ Q := wp_in rfl (XX_intro (g_M_doneBy (call := wp d) (cut := XX none (wp d) c_M_doneBy false Q) (Q := Q) (a1 := a1) (σ := σ) (h)))
theorem g_M_doneBy_15 {call : Nat → List AV → Mem → (Int → Mem → Prop) → Prop} {cut : Nat → Lo → List AV → Mem → Prop} {Q : Int → Mem → Prop} {x2 : Int} {x3 : Int} {x4 : Int} {σ : Mem} (h :
  (x4 < (σ 49 1) →
    call m_M_sumOf [.inr (.inr 49), .inl x2, .inl x4] σ (fun (r1 : Int) (s2 : Mem) =>
    call m_M_sumOf [.inr (.inr 49), .inl x2, .inl x3] s2 (fun (r3 : Int) (s4 : Mem) =>
      call m_M_sumOf [.inr (.inr 49), .inl 1, .inl x4] s4 (fun (r5 : Int) (s6 : Mem) =>
        call m_M_sumOf [.inr (.inr 49), .inl 1, .inl x3] s6 (fun (r7 : Int) (s8 : Mem) =>
          (r3 < r1 →
              ((1 : Int) = 0 →
                cut 15 [some (.inr (.inr 49)), none, some (.inl x2), some (.inl x3), some (.inl (w32 (x4 + 1))), none, none, none, none, none, none, none, none, none] [] s8) ∧
              (¬ (1 : Int) = 0 →
                cut 15 [some (.inr (.inr 49)), none, some (.inl x2), some (.inl x4), some (.inl (w32 (x4 + 1))), none, none, none, none, none, none, none, none, none] [] s8)) ∧
            (r1 ≤ r3 →
              (r1 = r3 →
                ((s8 49 5) = 0 →
                  (r7 < r5 →
                    ((1 : Int) = 0 →
                      cut 15 [some (.inr (.inr 49)), none, some (.inl x2), some (.inl x3), some (.inl (w32 (x4 + 1))), none, none, none, none, none, none, none, none, none] [] s8) ∧
                    (¬ (1 : Int) = 0 →
                      cut 15 [some (.inr (.inr 49)), none, some (.inl x2), some (.inl x4), some (.inl (w32 (x4 + 1))), none, none, none, none, none, none, none, none, none] [] s8)) ∧
                  (r5 ≤ r7 →
                    ((0 : Int) = 0 →
                      cut 15 [some (.inr (.inr 49)), none, some (.inl x2), some (.inl x3), some (.inl (w32 (x4 + 1))), none, none, none, none, none, none, none, none, none] [] s8) ∧
                    (¬ (0 : Int) = 0 →
                      cut 15 [some (.inr (.inr 49)), none, some (.inl x2), some (.inl x4), some (.inl (w32 (x4 + 1))), none, none, none, none, none, none, none, none, none] [] s8))) ∧
                (¬ (s8 49 5) = 0 →
                  (r5 < r7 →
                    ((1 : Int) = 0 →
                      cut 15 [some (.inr (.inr 49)), none, some (.inl x2), some (.inl x3), some (.inl (w32 (x4 + 1))), none, none, none, none, none, none, none, none, none] [] s8) ∧
                    (¬ (1 : Int) = 0 →
                      cut 15 [some (.inr (.inr 49)), none, some (.inl x2), some (.inl x4), some (.inl (w32 (x4 + 1))), none, none, none, none, none, none, none, none, none] [] s8)) ∧
                  (r7 ≤ r5 →
                    ((0 : Int) = 0 →
                      cut 15 [some (.inr (.inr 49)), none, some (.inl x2), some (.inl x3), some (.inl (w32 (x4 + 1))), none, none, none, none, none, none, none, none, none] [] s8) ∧
                    (¬ (0 : Int) = 0 →
                      cut 15 [some (.inr (.inr 49)), none, some (.inl x2), some (.inl x4), some (.inl (w32 (x4 + 1))), none, none, none, none, none, none, none, none, none] [] s8)))) ∧
              (¬ r1 = r3 →
                ((0 : Int) = 0 →
                  cut 15 [some (.inr (.inr 49)), none, some (.inl x2), some (.inl x3), some (.inl (w32 (x4 + 1))), none, none, none, none, none, none, none, none, none] [] s8) ∧
                (¬ (0 : Int) = 0 →
                  cut 15 [some (.inr (.inr 49)), none, some (.inl x2), some (.inl x4), some (.inl (w32 (x4 + 1))), none, none, none, none, none, none, none, none, none] [] s8)))))))) ∧
  ((σ 49 1) ≤ x4 → Q x3 σ)) : seg none call c_M_doneBy false Q cut 2000 true (toPc 15 c_M_doneBy) [some (.inr (.inr 49)), none, some (.inl x2), some (.inl x3), some (.inl x4), none, none, none, none, none, none, none, none, none] [] σ := h
theorem e_M_doneBy_15 {d : Nat} {Q : Int → Mem → Prop} {x2 : Int} {x3 : Int} {x4 : Int} {σ : Mem} (h :
  (x4 < (σ 49 1) →
    wp d m_M_sumOf [.inr (.inr 49), .inl x2, .inl x4] σ (fun (r1 : Int) (s2 : Mem) =>
    wp d m_M_sumOf [.inr (.inr 49), .inl x2, .inl x3] s2 (fun (r3 : Int) (s4 : Mem) =>
      wp d m_M_sumOf [.inr (.inr 49), .inl 1, .inl x4] s4 (fun (r5 : Int) (s6 : Mem) =>
        wp d m_M_sumOf [.inr (.inr 49), .inl 1, .inl x3] s6 (fun (r7 : Int) (s8 : Mem) =>
          (r3 < r1 → K_M_doneBy_15 d Q x2 x4 (w32 (x4 + 1)) s8) ∧
            (r1 ≤ r3 →
              (r1 = r3 →
                ((s8 49 5) = 0 →
                  (r7 < r5 → K_M_doneBy_15 d Q x2 x4 (w32 (x4 + 1)) s8) ∧
                  (r5 ≤ r7 → K_M_doneBy_15 d Q x2 x3 (w32 (x4 + 1)) s8)) ∧
                (¬ (s8 49 5) = 0 →
                  (r5 < r7 → K_M_doneBy_15 d Q x2 x4 (w32 (x4 + 1)) s8) ∧
                  (r7 ≤ r5 → K_M_doneBy_15 d Q x2 x3 (w32 (x4 + 1)) s8))) ∧
              (¬ r1 = r3 → K_M_doneBy_15 d Q x2 x3 (w32 (x4 + 1)) s8))))))) ∧
  ((σ 49 1) ≤ x4 → Q x3 σ)) : K_M_doneBy_15 d Q x2 x3 x4 σ := XX_intro (g_M_doneBy_15 (call := wp d) (cut := XX none (wp d) c_M_doneBy false Q) (Q := Q) (x2 := x2) (x3 := x3) (x4 := x4) (σ := σ) (⟨fun z16 => wp_conseq (fun _ _ z15 => wp_conseq (fun _ _ z14 => wp_conseq (fun _ _ z13 => wp_conseq (fun _ _ z12 => ⟨fun z11 => ⟨fun z1 => absurd z1 (by decide), fun _ => ((z12).1 z11)⟩, fun z11 => ⟨fun z10 => ⟨fun z9 => ⟨fun z8 => ⟨fun z7 => absurd z7 (by decide), fun _ => ((((((((z12).2 z11)).1 z10)).1 z9)).1 z8)⟩, fun z8 => ⟨fun _ => ((((((((z12).2 z11)).1 z10)).1 z9)).2 z8), fun z6 => absurd z6 (by decide)⟩⟩, fun z9 => ⟨fun z5 => ⟨fun z4 => absurd z4 (by decide), fun _ => ((((((((z12).2 z11)).1 z10)).2 z9)).1 z5)⟩, fun z5 => ⟨fun _ => ((((((((z12).2 z11)).1 z10)).2 z9)).2 z5), fun z3 => absurd z3 (by decide)⟩⟩⟩, fun z10 => ⟨fun _ => ((((z12).2 z11)).2 z10), fun z2 => absurd z2 (by decide)⟩⟩⟩) (z13)) (z14)) (z15)) (((h).1 z16)), fun z16 => (h).2 z16⟩))
abbrev K_M_done_41 (d : Nat) (Q : Int → Mem → Prop) (x3 : Int) (x4 : Int) (y1 : Int) (y2 : Int) (σ : Mem) : Prop := XX none (wp d) c_M_done false Q 41 [some (.inr (.inr 49)), none, none, some (.inl x3), some (.inl x4)] [.inr (.inl y2), .inl y1, .inr (.inr 67)] σ
abbrev K_M_done_61 (d : Nat) (Q : Int → Mem → Prop) (x4 : Int) (y1 : Int) (y2 : Int) (σ : Mem) : Prop := XX none (wp d) c_M_done false Q 61 [some (.inr (.inr 49)), none, none, none, some (.inl x4)] [.inr (.inl y2), .inl y1, .inr (.inr 67)] σ
abbrev K_M_done_82 (d : Nat) (Q : Int → Mem → Prop) (y1 : Int) (y2 : Int) (σ : Mem) : Prop := XX none (wp d) c_M_done false Q 82 [some (.inr (.inr 49)), none, none, none, none] [.inr (.inl y2), .inl y1, .inr (.inr 67)] σ
abbrev K_M_done_134 (d : Nat) (Q : Int → Mem → Prop)  (σ : Mem) : Prop := XX none (wp d) c_M_done false Q 134 [some (.inr (.inr 49)), none, none, none, none] [] σ
abbrev K_M_done_178 (d : Nat) (Q : Int → Mem → Prop)  (σ : Mem) : Prop := XX none (wp d) c_M_done false Q 178 [some (.inr (.inr 49)), none, none, none, none] [] σ
abbrev K_M_done_237 (d : Nat) (Q : Int → Mem → Prop)  (σ : Mem) : Prop := XX none (wp d) c_M_done false Q 237 [some (.inr (.inr 49)), none, none, none, none] [] σ
theorem g_M_done {call : Nat → List AV → Mem → (Int → Mem → Prop) → Prop} {cut : Nat → Lo → List AV → Mem → Prop} {Q : Int → Mem → Prop} {a1 : Int} {a2 : Int} {a3 : Int} {a4 : Int} {σ : Mem} (h :
  ((σ 49 0) = 0 →
    call m_M_refuse [.inr (.inr 49), .inl (-3)] σ (fun (r1 : Int) (s2 : Mem) => Q r1 s2)) ∧
  (¬ (σ 49 0) = 0 →
    (0 ≤ (0 : Int) ∧ 0 < (4 : Int)) ∧ (1 < ((mset σ 67 0 a1) 49 0) →
      cut 41 [some (.inr (.inr 49)), none, none, some (.inl a3), some (.inl a4)] [.inr (.inl a2), .inl 1, .inr (.inr 67)] (mset σ 67 0 a1)) ∧
    (((mset σ 67 0 a1) 49 0) ≤ 1 →
      cut 41 [some (.inr (.inr 49)), none, none, some (.inl a3), some (.inl a4)] [.inr (.inl 0), .inl 1, .inr (.inr 67)] (mset σ 67 0 a1)))) : seg none call c_M_done false Q cut 2000 true (toPc 0 c_M_done) [some (.inr (.inr 49)), some (.inl a1), some (.inl a2), some (.inl a3), some (.inl a4)] [] σ := h
theorem e_M_done {d : Nat} {Q : Int → Mem → Prop} {a1 : Int} {a2 : Int} {a3 : Int} {a4 : Int} {σ : Mem} (h :
  ((σ 49 0) = 0 →
    wp d m_M_refuse [.inr (.inr 49), .inl (-3)] σ (fun (r1 : Int) (s2 : Mem) => Q r1 s2)) ∧
  (¬ (σ 49 0) = 0 →
    (1 < ((mset σ 67 0 a1) 49 0) → K_M_done_41 d Q a3 a4 1 a2 (mset σ 67 0 a1)) ∧
    (((mset σ 67 0 a1) 49 0) ≤ 1 → K_M_done_41 d Q a3 a4 1 0 (mset σ 67 0 a1)))) : wp (d + 1) m_M_done [.inr (.inr 49), .inl a1, .inl a2, .inl a3, .inl a4] σ Q := wp_in rfl (XX_intro (g_M_done (call := wp d) (cut := XX none (wp d) c_M_done false Q) (Q := Q) (a1 := a1) (a2 := a2) (a3 := a3) (a4 := a4) (σ := σ) (⟨fun z1 => (h).1 z1, fun z1 => ⟨⟨by decide, by decide⟩, ((h).2 z1)⟩⟩)))
theorem g_M_done_41 {call : Nat → List AV → Mem → (Int → Mem → Prop) → Prop} {cut : Nat → Lo → List AV → Mem → Prop} {Q : Int → Mem → Prop} {x3 : Int} {x4 : Int} {y1 : Int} {y2 : Int} {σ : Mem} (h :
  (0 ≤ y1 ∧ y1 < (4 : Int)) ∧ (2 < ((mset σ 67 y1.toNat y2) 49 0) →
    cut 61 [some (.inr (.inr 49)), none, none, none, some (.inl x4)] [.inr (.inl x3), .inl 2, .inr (.inr 67)] (mset σ 67 y1.toNat y2)) ∧
  (((mset σ 67 y1.toNat y2) 49 0) ≤ 2 →
    cut 61 [some (.inr (.inr 49)), none, none, none, some (.inl x4)] [.inr (.inl 0), .inl 2, .inr (.inr 67)] (mset σ 67 y1.toNat y2))) : seg none call c_M_done false Q cut 2000 true (toPc 41 c_M_done) [some (.inr (.inr 49)), none, none, some (.inl x3), some (.inl x4)] [.inr (.inl y2), .inl y1, .inr (.inr 67)] σ := h
theorem e_M_done_41 {d : Nat} {Q : Int → Mem → Prop} {x3 : Int} {x4 : Int} {y1 : Int} {y2 : Int} {σ : Mem} (h :
  (0 ≤ y1 ∧ y1 < (4 : Int)) ∧ (2 < ((mset σ 67 y1.toNat y2) 49 0) → K_M_done_61 d Q x4 2 x3 (mset σ 67 y1.toNat y2)) ∧
  (((mset σ 67 y1.toNat y2) 49 0) ≤ 2 → K_M_done_61 d Q x4 2 0 (mset σ 67 y1.toNat y2))) : K_M_done_41 d Q x3 x4 y1 y2 σ := XX_intro (g_M_done_41 (call := wp d) (cut := XX none (wp d) c_M_done false Q) (Q := Q) (x3 := x3) (x4 := x4) (y1 := y1) (y2 := y2) (σ := σ) (h))
theorem g_M_done_61 {call : Nat → List AV → Mem → (Int → Mem → Prop) → Prop} {cut : Nat → Lo → List AV → Mem → Prop} {Q : Int → Mem → Prop} {x4 : Int} {y1 : Int} {y2 : Int} {σ : Mem} (h :
  (0 ≤ y1 ∧ y1 < (4 : Int)) ∧ (3 < ((mset σ 67 y1.toNat y2) 49 0) →
    cut 82 [some (.inr (.inr 49)), none, none, none, none] [.inr (.inl x4), .inl 3, .inr (.inr 67)] (mset σ 67 y1.toNat y2)) ∧
  (((mset σ 67 y1.toNat y2) 49 0) ≤ 3 →
    cut 82 [some (.inr (.inr 49)), none, none, none, none] [.inr (.inl 0), .inl 3, .inr (.inr 67)] (mset σ 67 y1.toNat y2))) : seg none call c_M_done false Q cut 2000 true (toPc 61 c_M_done) [some (.inr (.inr 49)), none, none, none, some (.inl x4)] [.inr (.inl y2), .inl y1, .inr (.inr 67)] σ := h
theorem e_M_done_61 {d : Nat} {Q : Int → Mem → Prop} {x4 : Int} {y1 : Int} {y2 : Int} {σ : Mem} (h :
  (0 ≤ y1 ∧ y1 < (4 : Int)) ∧ (3 < ((mset σ 67 y1.toNat y2) 49 0) → K_M_done_82 d Q 3 x4 (mset σ 67 y1.toNat y2)) ∧
  (((mset σ 67 y1.toNat y2) 49 0) ≤ 3 → K_M_done_82 d Q 3 0 (mset σ 67 y1.toNat y2))) : K_M_done_61 d Q x4 y1 y2 σ := XX_intro (g_M_done_61 (call := wp d) (cut := XX none (wp d) c_M_done false Q) (Q := Q) (x4 := x4) (y1 := y1) (y2 := y2) (σ := σ) (h))
theorem g_M_done_82 {call : Nat → List AV → Mem → (Int → Mem → Prop) → Prop} {cut : Nat → Lo → List AV → Mem → Prop} {Q : Int → Mem → Prop} {y1 : Int} {y2 : Int} {σ : Mem} (h :
  (0 ≤ y1 ∧ y1 < (4 : Int)) ∧ (0 ≤ (0 : Int) ∧ 0 < (4 : Int)) ∧ (((mset σ 67 y1.toNat y2) 67 0) = 0 →
    (0 ≤ (1 : Int) ∧ 1 < (4 : Int)) ∧ (((mset σ 67 y1.toNat y2) 67 1) = 0 →
      (0 ≤ (2 : Int) ∧ 2 < (4 : Int)) ∧ (((mset σ 67 y1.toNat y2) 67 2) = 0 →
        (0 ≤ (3 : Int) ∧ 3 < (4 : Int)) ∧ (((mset σ 67 y1.toNat y2) 67 3) = 0 →
          call m_M_refuse [.inr (.inr 49), .inl (-3)] (mset σ 67 y1.toNat y2) (fun (r1 : Int) (s2 : Mem) => Q r1 s2)) ∧
        (¬ ((mset σ 67 y1.toNat y2) 67 3) = 0 →
          cut 134 [some (.inr (.inr 49)), none, none, none, none] [] (mset σ 67 y1.toNat y2))) ∧
      (¬ ((mset σ 67 y1.toNat y2) 67 2) = 0 →
        cut 134 [some (.inr (.inr 49)), none, none, none, none] [] (mset σ 67 y1.toNat y2))) ∧
    (¬ ((mset σ 67 y1.toNat y2) 67 1) = 0 →
      cut 134 [some (.inr (.inr 49)), none, none, none, none] [] (mset σ 67 y1.toNat y2))) ∧
  (¬ ((mset σ 67 y1.toNat y2) 67 0) = 0 →
    cut 134 [some (.inr (.inr 49)), none, none, none, none] [] (mset σ 67 y1.toNat y2))) : seg none call c_M_done false Q cut 2000 true (toPc 82 c_M_done) [some (.inr (.inr 49)), none, none, none, none] [.inr (.inl y2), .inl y1, .inr (.inr 67)] σ := h
theorem e_M_done_82 {d : Nat} {Q : Int → Mem → Prop} {y1 : Int} {y2 : Int} {σ : Mem} (h :
  (0 ≤ y1 ∧ y1 < (4 : Int)) ∧ (((mset σ 67 y1.toNat y2) 67 0) = 0 →
    (((mset σ 67 y1.toNat y2) 67 1) = 0 →
      (((mset σ 67 y1.toNat y2) 67 2) = 0 →
        (((mset σ 67 y1.toNat y2) 67 3) = 0 →
          wp d m_M_refuse [.inr (.inr 49), .inl (-3)] (mset σ 67 y1.toNat y2) (fun (r1 : Int) (s2 : Mem) => Q r1 s2)) ∧
        (¬ ((mset σ 67 y1.toNat y2) 67 3) = 0 → K_M_done_134 d Q  (mset σ 67 y1.toNat y2))) ∧
      (¬ ((mset σ 67 y1.toNat y2) 67 2) = 0 → K_M_done_134 d Q  (mset σ 67 y1.toNat y2))) ∧
    (¬ ((mset σ 67 y1.toNat y2) 67 1) = 0 → K_M_done_134 d Q  (mset σ 67 y1.toNat y2))) ∧
  (¬ ((mset σ 67 y1.toNat y2) 67 0) = 0 → K_M_done_134 d Q  (mset σ 67 y1.toNat y2))) : K_M_done_82 d Q y1 y2 σ := XX_intro (g_M_done_82 (call := wp d) (cut := XX none (wp d) c_M_done false Q) (Q := Q) (y1 := y1) (y2 := y2) (σ := σ) (⟨(h).1, ⟨⟨by decide, by decide⟩, ⟨fun z3 => ⟨⟨by decide, by decide⟩, ⟨fun z2 => ⟨⟨by decide, by decide⟩, ⟨fun z1 => ⟨⟨by decide, by decide⟩, (((((((h).2).1 z3)).1 z2)).1 z1)⟩, fun z1 => ((((((h).2).1 z3)).1 z2)).2 z1⟩⟩, fun z2 => ((((h).2).1 z3)).2 z2⟩⟩, fun z3 => ((h).2).2 z3⟩⟩⟩))
theorem g_M_done_134 {call : Nat → List AV → Mem → (Int → Mem → Prop) → Prop} {cut : Nat → Lo → List AV → Mem → Prop} {Q : Int → Mem → Prop}  {σ : Mem} (h :
  (0 ≤ (0 : Int) ∧ 0 < (4 : Int)) ∧ ((σ 67 0) < 0 → cut 178 [some (.inr (.inr 49)), none, none, none, none] [] σ) ∧
  (0 ≤ (σ 67 0) →
    (0 ≤ (1 : Int) ∧ 1 < (4 : Int)) ∧ ((σ 67 1) < 0 → cut 178 [some (.inr (.inr 49)), none, none, none, none] [] σ) ∧
    (0 ≤ (σ 67 1) →
      (0 ≤ (2 : Int) ∧ 2 < (4 : Int)) ∧ ((σ 67 2) < 0 → cut 178 [some (.inr (.inr 49)), none, none, none, none] [] σ) ∧
      (0 ≤ (σ 67 2) →
        (0 ≤ (3 : Int) ∧ 3 < (4 : Int)) ∧ ((σ 67 3) < 0 → cut 178 [some (.inr (.inr 49)), none, none, none, none] [] σ) ∧
        (0 ≤ (σ 67 3) →
          (0 ≤ (0 : Int) ∧ 0 < (4 : Int)) ∧ (9999 < (σ 67 0) → cut 237 [some (.inr (.inr 49)), none, none, none, none] [] σ) ∧
          ((σ 67 0) ≤ 9999 →
            (0 ≤ (1 : Int) ∧ 1 < (4 : Int)) ∧ (9999 < (σ 67 1) → cut 237 [some (.inr (.inr 49)), none, none, none, none] [] σ) ∧
            ((σ 67 1) ≤ 9999 →
              (0 ≤ (2 : Int) ∧ 2 < (4 : Int)) ∧ (9999 < (σ 67 2) → cut 237 [some (.inr (.inr 49)), none, none, none, none] [] σ) ∧
              ((σ 67 2) ≤ 9999 →
                (0 ≤ (3 : Int) ∧ 3 < (4 : Int)) ∧ (9999 < (σ 67 3) → cut 237 [some (.inr (.inr 49)), none, none, none, none] [] σ) ∧
                ((σ 67 3) ≤ 9999 →
                  call m_M_doneBy [.inr (.inr 49), .inl 0] σ (fun (r1 : Int) (s2 : Mem) => Q r1 s2)))))))))) : seg none call c_M_done false Q cut 2000 true (toPc 134 c_M_done) [some (.inr (.inr 49)), none, none, none, none] [] σ := h
theorem e_M_done_134 {d : Nat} {Q : Int → Mem → Prop}  {σ : Mem} (h :
  ((σ 67 0) < 0 → K_M_done_178 d Q  σ) ∧
  (0 ≤ (σ 67 0) →
    ((σ 67 1) < 0 → K_M_done_178 d Q  σ) ∧
    (0 ≤ (σ 67 1) →
      ((σ 67 2) < 0 → K_M_done_178 d Q  σ) ∧
      (0 ≤ (σ 67 2) →
        ((σ 67 3) < 0 → K_M_done_178 d Q  σ) ∧
        (0 ≤ (σ 67 3) →
          (9999 < (σ 67 0) → K_M_done_237 d Q  σ) ∧
          ((σ 67 0) ≤ 9999 →
            (9999 < (σ 67 1) → K_M_done_237 d Q  σ) ∧
            ((σ 67 1) ≤ 9999 →
              (9999 < (σ 67 2) → K_M_done_237 d Q  σ) ∧
              ((σ 67 2) ≤ 9999 →
                (9999 < (σ 67 3) → K_M_done_237 d Q  σ) ∧
                ((σ 67 3) ≤ 9999 →
                  wp d m_M_doneBy [.inr (.inr 49), .inl 0] σ (fun (r1 : Int) (s2 : Mem) => Q r1 s2)))))))))) : K_M_done_134 d Q  σ := XX_intro (g_M_done_134 (call := wp d) (cut := XX none (wp d) c_M_done false Q) (Q := Q)  (σ := σ) (⟨⟨by decide, by decide⟩, ⟨fun z7 => (h).1 z7, fun z7 => ⟨⟨by decide, by decide⟩, ⟨fun z6 => (((h).2 z7)).1 z6, fun z6 => ⟨⟨by decide, by decide⟩, ⟨fun z5 => (((((h).2 z7)).2 z6)).1 z5, fun z5 => ⟨⟨by decide, by decide⟩, ⟨fun z4 => (((((((h).2 z7)).2 z6)).2 z5)).1 z4, fun z4 => ⟨⟨by decide, by decide⟩, ⟨fun z3 => (((((((((h).2 z7)).2 z6)).2 z5)).2 z4)).1 z3, fun z3 => ⟨⟨by decide, by decide⟩, ⟨fun z2 => (((((((((((h).2 z7)).2 z6)).2 z5)).2 z4)).2 z3)).1 z2, fun z2 => ⟨⟨by decide, by decide⟩, ⟨fun z1 => (((((((((((((h).2 z7)).2 z6)).2 z5)).2 z4)).2 z3)).2 z2)).1 z1, fun z1 => ⟨⟨by decide, by decide⟩, ((((((((((((((h).2 z7)).2 z6)).2 z5)).2 z4)).2 z3)).2 z2)).2 z1)⟩⟩⟩⟩⟩⟩⟩⟩⟩⟩⟩⟩⟩⟩⟩))
theorem g_M_done_178 {call : Nat → List AV → Mem → (Int → Mem → Prop) → Prop} {cut : Nat → Lo → List AV → Mem → Prop} {Q : Int → Mem → Prop}  {σ : Mem} (h :
  call m_M_refuse [.inr (.inr 49), .inl (-4)] σ (fun (r1 : Int) (s2 : Mem) => Q r1 s2)) : seg none call c_M_done false Q cut 2000 true (toPc 178 c_M_done) [some (.inr (.inr 49)), none, none, none, none] [] σ := h
theorem e_M_done_178 {d : Nat} {Q : Int → Mem → Prop}  {σ : Mem} (h :
  wp d m_M_refuse [.inr (.inr 49), .inl (-4)] σ (fun (r1 : Int) (s2 : Mem) => Q r1 s2)) : K_M_done_178 d Q  σ := XX_intro (g_M_done_178 (call := wp d) (cut := XX none (wp d) c_M_done false Q) (Q := Q)  (σ := σ) (h))
theorem g_M_done_237 {call : Nat → List AV → Mem → (Int → Mem → Prop) → Prop} {cut : Nat → Lo → List AV → Mem → Prop} {Q : Int → Mem → Prop}  {σ : Mem} (h :
  call m_M_refuse [.inr (.inr 49), .inl (-6)] σ (fun (r1 : Int) (s2 : Mem) => Q r1 s2)) : seg none call c_M_done false Q cut 2000 true (toPc 237 c_M_done) [some (.inr (.inr 49)), none, none, none, none] [] σ := h
theorem e_M_done_237 {d : Nat} {Q : Int → Mem → Prop}  {σ : Mem} (h :
  wp d m_M_refuse [.inr (.inr 49), .inl (-6)] σ (fun (r1 : Int) (s2 : Mem) => Q r1 s2)) : K_M_done_237 d Q  σ := XX_intro (g_M_done_237 (call := wp d) (cut := XX none (wp d) c_M_done false Q) (Q := Q)  (σ := σ) (h))
theorem g_M_put {call : Nat → List AV → Mem → (Int → Mem → Prop) → Prop} {cut : Nat → Lo → List AV → Mem → Prop} {Q : Int → Mem → Prop} {a1 : Int} {σ : Mem} (h :
  (a1 < 0 →
    call m_M_refuse [.inr (.inr 49), .inl (-4)] σ (fun (r5 : Int) (s6 : Mem) => Q r5 s6)) ∧
  (0 ≤ a1 →
    (60 < a1 →
      call m_M_refuse [.inr (.inr 49), .inl (-6)] σ (fun (r1 : Int) (s2 : Mem) => Q r1 s2)) ∧
    (a1 ≤ 60 →
      ((σ 49 16) = 24 →
        call m_M_refuse [.inr (.inr 49), .inl (-6)] σ (fun (r3 : Int) (s4 : Mem) => Q r3 s4)) ∧
      (¬ (σ 49 16) = 24 →
        (0 ≤ (σ 49 16) ∧ (σ 49 16) < (24 : Int)) ∧ Q ((mset (mset σ 59 (σ 49 16).toNat a1) 49 16 (w32 (((mset σ 59 (σ 49 16).toNat a1) 49 16) + 1))) 49 16) (mset (mset σ 59 (σ 49 16).toNat a1) 49 16 (w32 (((mset σ 59 (σ 49 16).toNat a1) 49 16) + 1))))))) : seg none call c_M_put false Q cut 2000 true (toPc 0 c_M_put) [some (.inr (.inr 49)), some (.inl a1)] [] σ := h
theorem e_M_put {d : Nat} {Q : Int → Mem → Prop} {a1 : Int} {σ : Mem} (h :
  (a1 < 0 →
    wp d m_M_refuse [.inr (.inr 49), .inl (-4)] σ (fun (r5 : Int) (s6 : Mem) => Q r5 s6)) ∧
  (0 ≤ a1 →
    (60 < a1 →
      wp d m_M_refuse [.inr (.inr 49), .inl (-6)] σ (fun (r1 : Int) (s2 : Mem) => Q r1 s2)) ∧
    (a1 ≤ 60 →
      ((σ 49 16) = 24 →
        wp d m_M_refuse [.inr (.inr 49), .inl (-6)] σ (fun (r3 : Int) (s4 : Mem) => Q r3 s4)) ∧
      (¬ (σ 49 16) = 24 →
        (0 ≤ (σ 49 16) ∧ (σ 49 16) < (24 : Int)) ∧ Q ((mset (mset σ 59 (σ 49 16).toNat a1) 49 16 (w32 (((mset σ 59 (σ 49 16).toNat a1) 49 16) + 1))) 49 16) (mset (mset σ 59 (σ 49 16).toNat a1) 49 16 (w32 (((mset σ 59 (σ 49 16).toNat a1) 49 16) + 1))))))) : wp (d + 1) m_M_put [.inr (.inr 49), .inl a1] σ Q := wp_in rfl (XX_intro (g_M_put (call := wp d) (cut := XX none (wp d) c_M_put false Q) (Q := Q) (a1 := a1) (σ := σ) (h)))
theorem g_M_place {call : Nat → List AV → Mem → (Int → Mem → Prop) → Prop} {cut : Nat → Lo → List AV → Mem → Prop} {Q : Int → Mem → Prop} {a0 : Int} {a1 : Int} {a2 : Int} {σ : Mem} (h :
  Q (w32 ((w32 ((w32 (24 * a0)) + (w32 (6 * a1)))) + a2)) σ) : seg none call c_M_place false Q cut 2000 true (toPc 0 c_M_place) [some (.inl a0), some (.inl a1), some (.inl a2)] [] σ := h
theorem e_M_place {d : Nat} {Q : Int → Mem → Prop} {a0 : Int} {a1 : Int} {a2 : Int} {σ : Mem} (h :
  Q (w32 ((w32 ((w32 (24 * a0)) + (w32 (6 * a1)))) + a2)) σ) : wp (d + 1) m_M_place [.inl a0, .inl a1, .inl a2] σ Q := wp_in rfl (XX_intro (g_M_place (call := wp d) (cut := XX none (wp d) c_M_place false Q) (Q := Q) (a0 := a0) (a1 := a1) (a2 := a2) (σ := σ) (h)))
theorem g_M_newLook {call : Nat → List AV → Mem → (Int → Mem → Prop) → Prop} {cut : Nat → Lo → List AV → Mem → Prop} {Q : Int → Mem → Prop} {a1 : Int} {σ : Mem} (h :
  (0 ≤ (σ 49 6) ∧ (σ 49 6) < (13 : Int)) ∧ call m_M_keepBack [.inr (.inr 49), .inl 0, .inl 0, .inl 0] (mset σ 53 (σ 49 6).toNat a1) (fun (r1 : Int) (s2 : Mem) =>
  Q (w32 (((mset s2 49 6 (w32 ((s2 49 6) + 1))) 49 6) - 1)) (mset s2 49 6 (w32 ((s2 49 6) + 1))))) : seg none call c_M_newLook false Q cut 2000 true (toPc 0 c_M_newLook) [some (.inr (.inr 49)), some (.inl a1)] [] σ := h
theorem e_M_newLook {d : Nat} {Q : Int → Mem → Prop} {a1 : Int} {σ : Mem} (h :
  (0 ≤ (σ 49 6) ∧ (σ 49 6) < (13 : Int)) ∧ wp d m_M_keepBack [.inr (.inr 49), .inl 0, .inl 0, .inl 0] (mset σ 53 (σ 49 6).toNat a1) (fun (r1 : Int) (s2 : Mem) =>
  Q (w32 (((mset s2 49 6 (w32 ((s2 49 6) + 1))) 49 6) - 1)) (mset s2 49 6 (w32 ((s2 49 6) + 1))))) : wp (d + 1) m_M_newLook [.inr (.inr 49), .inl a1] σ Q := wp_in rfl (XX_intro (g_M_newLook (call := wp d) (cut := XX none (wp d) c_M_newLook false Q) (Q := Q) (a1 := a1) (σ := σ) (h)))
abbrev K_M_clearLook_2 (d : Nat) (Q : Int → Mem → Prop) (x1 : Int) (σ : Mem) : Prop := XX none (wp d) c_M_clearLook false Q 2 [some (.inr (.inr 49)), some (.inl x1)] [] σ
theorem g_M_clearLook {call : Nat → List AV → Mem → (Int → Mem → Prop) → Prop} {cut : Nat → Lo → List AV → Mem → Prop} {Q : Int → Mem → Prop}  {σ : Mem} (h :
  cut 2 [some (.inr (.inr 49)), some (.inl 0)] [] σ) : seg none call c_M_clearLook false Q cut 2000 true (toPc 0 c_M_clearLook) [some (.inr (.inr 49)), none] [] σ := h
theorem e_M_clearLook {d : Nat} {Q : Int → Mem → Prop}  {σ : Mem} (h :
  K_M_clearLook_2 d Q 0 σ) : wp (d + 1) m_M_clearLook [.inr (.inr 49)] σ Q := wp_in rfl (XX_intro (g_M_clearLook (call := wp d) (cut := XX none (wp d) c_M_clearLook false Q) (Q := Q)  (σ := σ) (h)))
theorem g_M_clearLook_2 {call : Nat → List AV → Mem → (Int → Mem → Prop) → Prop} {cut : Nat → Lo → List AV → Mem → Prop} {Q : Int → Mem → Prop} {x1 : Int} {σ : Mem} (h :
  (x1 < 24 →
    (0 ≤ (w32 ((w32 (24 * (σ 49 6))) + x1)) ∧ (w32 ((w32 (24 * (σ 49 6))) + x1)) < (312 : Int)) ∧ cut 2 [some (.inr (.inr 49)), some (.inl (w32 (x1 + 1)))] [] (mset σ 54 (w32 ((w32 (24 * (σ 49 6))) + x1)).toNat 0)) ∧
  (24 ≤ x1 → Q 0 σ)) : seg none call c_M_clearLook false Q cut 2000 true (toPc 2 c_M_clearLook) [some (.inr (.inr 49)), some (.inl x1)] [] σ := h
theorem e_M_clearLook_2 {d : Nat} {Q : Int → Mem → Prop} {x1 : Int} {σ : Mem} (h :
  (x1 < 24 →
    (0 ≤ (w32 ((w32 (24 * (σ 49 6))) + x1)) ∧ (w32 ((w32 (24 * (σ 49 6))) + x1)) < (312 : Int)) ∧ K_M_clearLook_2 d Q (w32 (x1 + 1)) (mset σ 54 (w32 ((w32 (24 * (σ 49 6))) + x1)).toNat 0)) ∧
  (24 ≤ x1 → Q 0 σ)) : K_M_clearLook_2 d Q x1 σ := XX_intro (g_M_clearLook_2 (call := wp d) (cut := XX none (wp d) c_M_clearLook false Q) (Q := Q) (x1 := x1) (σ := σ) (h))
abbrev K_M_look_69 (d : Nat) (Q : Int → Mem → Prop) (x1 : Int) (x2 : Int) (x3 : Int) (σ : Mem) : Prop := XX none (wp d) c_M_look false Q 69 [some (.inr (.inr 49)), some (.inl x1), some (.inl x2), some (.inl x3), none, none] [] σ
abbrev K_M_look_87 (d : Nat) (Q : Int → Mem → Prop) (x1 : Int) (x3 : Int) (x4 : Int) (x5 : Int) (σ : Mem) : Prop := XX none (wp d) c_M_look false Q 87 [some (.inr (.inr 49)), some (.inl x1), none, some (.inl x3), some (.inl x4), some (.inl x5)] [] σ
abbrev K_M_look_151 (d : Nat) (Q : Int → Mem → Prop) (x1 : Int) (x3 : Int) (σ : Mem) : Prop := XX none (wp d) c_M_look false Q 151 [some (.inr (.inr 49)), some (.inl x1), none, some (.inl x3), none, none] [] σ
abbrev K_M_look_162 (d : Nat) (Q : Int → Mem → Prop) (x1 : Int) (x3 : Int) (x4 : Int) (σ : Mem) : Prop := XX none (wp d) c_M_look false Q 162 [some (.inr (.inr 49)), some (.inl x1), none, some (.inl x3), some (.inl x4), none] [] σ
theorem g_M_look {call : Nat → List AV → Mem → (Int → Mem → Prop) → Prop} {cut : Nat → Lo → List AV → Mem → Prop} {Q : Int → Mem → Prop} {a1 : Int} {σ : Mem} (h :
  ((σ 49 0) = 0 →
    call m_M_refuse [.inr (.inr 49), .inl (-3)] σ (fun (r7 : Int) (s8 : Mem) => Q r7 s8)) ∧
  (¬ (σ 49 0) = 0 →
    (a1 < 1 →
      call m_M_refuse [.inr (.inr 49), .inl (-4)] σ (fun (r5 : Int) (s6 : Mem) => Q r5 s6)) ∧
    (1 ≤ a1 →
      (6 < a1 →
        call m_M_refuse [.inr (.inr 49), .inl (-6)] σ (fun (r1 : Int) (s2 : Mem) => Q r1 s2)) ∧
      (a1 ≤ 6 →
        ((σ 49 6) = 12 →
          call m_M_refuse [.inr (.inr 49), .inl (-6)] σ (fun (r3 : Int) (s4 : Mem) => Q r3 s4)) ∧
        (¬ (σ 49 6) = 12 →
          ((σ 49 16) = (w32 (a1 * (σ 49 0))) →
            cut 69 [some (.inr (.inr 49)), some (.inl a1), some (.inl 1), some (.inl 0), none, none] [] σ) ∧
          (¬ (σ 49 16) = (w32 (a1 * (σ 49 0))) →
            cut 69 [some (.inr (.inr 49)), some (.inl a1), some (.inl 0), some (.inl 0), none, none] [] σ)))))) : seg none call c_M_look false Q cut 2000 true (toPc 0 c_M_look) [some (.inr (.inr 49)), some (.inl a1), none, none, none, none] [] σ := h
theorem e_M_look {d : Nat} {Q : Int → Mem → Prop} {a1 : Int} {σ : Mem} (h :
  ((σ 49 0) = 0 →
    wp d m_M_refuse [.inr (.inr 49), .inl (-3)] σ (fun (r7 : Int) (s8 : Mem) => Q r7 s8)) ∧
  (¬ (σ 49 0) = 0 →
    (a1 < 1 →
      wp d m_M_refuse [.inr (.inr 49), .inl (-4)] σ (fun (r5 : Int) (s6 : Mem) => Q r5 s6)) ∧
    (1 ≤ a1 →
      (6 < a1 →
        wp d m_M_refuse [.inr (.inr 49), .inl (-6)] σ (fun (r1 : Int) (s2 : Mem) => Q r1 s2)) ∧
      (a1 ≤ 6 →
        ((σ 49 6) = 12 →
          wp d m_M_refuse [.inr (.inr 49), .inl (-6)] σ (fun (r3 : Int) (s4 : Mem) => Q r3 s4)) ∧
        (¬ (σ 49 6) = 12 →
          ((σ 49 16) = (w32 (a1 * (σ 49 0))) → K_M_look_69 d Q a1 1 0 σ) ∧
          (¬ (σ 49 16) = (w32 (a1 * (σ 49 0))) → K_M_look_69 d Q a1 0 0 σ)))))) : wp (d + 1) m_M_look [.inr (.inr 49), .inl a1] σ Q := wp_in rfl (XX_intro (g_M_look (call := wp d) (cut := XX none (wp d) c_M_look false Q) (Q := Q) (a1 := a1) (σ := σ) (h)))
theorem g_M_look_69 {call : Nat → List AV → Mem → (Int → Mem → Prop) → Prop} {cut : Nat → Lo → List AV → Mem → Prop} {Q : Int → Mem → Prop} {x1 : Int} {x2 : Int} {x3 : Int} {σ : Mem} (h :
  (x3 < (σ 49 0) →
    (x2 = 0 →
      (x2 = 0 →
        call m_M_refuse [.inr (.inr 49), .inl (-3)] σ (fun (r7 : Int) (s8 : Mem) => Q r7 s8)) ∧
      (¬ x2 = 0 →
        call m_M_clearLook [.inr (.inr 49)] σ (fun (r5 : Int) (s6 : Mem) =>
        cut 151 [some (.inr (.inr 49)), some (.inl x1), none, some (.inl 0), none, none] [] s6))) ∧
    (¬ x2 = 0 →
      cut 87 [some (.inr (.inr 49)), some (.inl x1), none, some (.inl x3), some (.inl 0), some (.inl 0)] [] σ)) ∧
  ((σ 49 0) ≤ x3 →
    (x2 = 0 →
      call m_M_refuse [.inr (.inr 49), .inl (-3)] σ (fun (r3 : Int) (s4 : Mem) => Q r3 s4)) ∧
    (¬ x2 = 0 →
      call m_M_clearLook [.inr (.inr 49)] σ (fun (r1 : Int) (s2 : Mem) =>
      cut 151 [some (.inr (.inr 49)), some (.inl x1), none, some (.inl 0), none, none] [] s2)))) : seg none call c_M_look false Q cut 2000 true (toPc 69 c_M_look) [some (.inr (.inr 49)), some (.inl x1), some (.inl x2), some (.inl x3), none, none] [] σ := h
theorem e_M_look_69 {d : Nat} {Q : Int → Mem → Prop} {x1 : Int} {x2 : Int} {x3 : Int} {σ : Mem} (h :
  (x3 < (σ 49 0) →
    (x2 = 0 →
      (x2 = 0 →
        wp d m_M_refuse [.inr (.inr 49), .inl (-3)] σ (fun (r7 : Int) (s8 : Mem) => Q r7 s8)) ∧
      (¬ x2 = 0 →
        wp d m_M_clearLook [.inr (.inr 49)] σ (fun (r5 : Int) (s6 : Mem) => K_M_look_151 d Q x1 0 s6))) ∧
    (¬ x2 = 0 → K_M_look_87 d Q x1 x3 0 0 σ)) ∧
  ((σ 49 0) ≤ x3 →
    (x2 = 0 →
      wp d m_M_refuse [.inr (.inr 49), .inl (-3)] σ (fun (r3 : Int) (s4 : Mem) => Q r3 s4)) ∧
    (¬ x2 = 0 →
      wp d m_M_clearLook [.inr (.inr 49)] σ (fun (r1 : Int) (s2 : Mem) => K_M_look_151 d Q x1 0 s2)))) : K_M_look_69 d Q x1 x2 x3 σ := XX_intro (g_M_look_69 (call := wp d) (cut := XX none (wp d) c_M_look false Q) (Q := Q) (x1 := x1) (x2 := x2) (x3 := x3) (σ := σ) (h))
theorem g_M_look_87 {call : Nat → List AV → Mem → (Int → Mem → Prop) → Prop} {cut : Nat → Lo → List AV → Mem → Prop} {Q : Int → Mem → Prop} {x1 : Int} {x3 : Int} {x4 : Int} {x5 : Int} {σ : Mem} (h :
  (x5 < x1 →
    (0 ≤ (w32 ((w32 (x1 * x3)) + x5)) ∧ (w32 ((w32 (x1 * x3)) + x5)) < (24 : Int)) ∧ cut 87 [some (.inr (.inr 49)), some (.inl x1), none, some (.inl x3), some (.inl (w32 (x4 + (σ 59 (w32 ((w32 (x1 * x3)) + x5)).toNat)))), some (.inl (w32 (x5 + 1)))] [] σ) ∧
  (x1 ≤ x5 →
    (x4 = 60 →
      cut 69 [some (.inr (.inr 49)), some (.inl x1), some (.inl 1), some (.inl (w32 (x3 + 1))), none, none] [] σ) ∧
    (¬ x4 = 60 →
      cut 69 [some (.inr (.inr 49)), some (.inl x1), some (.inl 0), some (.inl (w32 (x3 + 1))), none, none] [] σ))) : seg none call c_M_look false Q cut 2000 true (toPc 87 c_M_look) [some (.inr (.inr 49)), some (.inl x1), none, some (.inl x3), some (.inl x4), some (.inl x5)] [] σ := h
theorem e_M_look_87 {d : Nat} {Q : Int → Mem → Prop} {x1 : Int} {x3 : Int} {x4 : Int} {x5 : Int} {σ : Mem} (h :
  (x5 < x1 →
    (0 ≤ (w32 ((w32 (x1 * x3)) + x5)) ∧ (w32 ((w32 (x1 * x3)) + x5)) < (24 : Int)) ∧ K_M_look_87 d Q x1 x3 (w32 (x4 + (σ 59 (w32 ((w32 (x1 * x3)) + x5)).toNat))) (w32 (x5 + 1)) σ) ∧
  (x1 ≤ x5 →
    (x4 = 60 → K_M_look_69 d Q x1 1 (w32 (x3 + 1)) σ) ∧
    (¬ x4 = 60 → K_M_look_69 d Q x1 0 (w32 (x3 + 1)) σ))) : K_M_look_87 d Q x1 x3 x4 x5 σ := XX_intro (g_M_look_87 (call := wp d) (cut := XX none (wp d) c_M_look false Q) (Q := Q) (x1 := x1) (x3 := x3) (x4 := x4) (x5 := x5) (σ := σ) (h))
theorem g_M_look_151 {call : Nat → List AV → Mem → (Int → Mem → Prop) → Prop} {cut : Nat → Lo → List AV → Mem → Prop} {Q : Int → Mem → Prop} {x1 : Int} {x3 : Int} {σ : Mem} (h :
  (x3 < (σ 49 0) →
    cut 162 [some (.inr (.inr 49)), some (.inl x1), none, some (.inl x3), some (.inl 0), none] [] σ) ∧
  ((σ 49 0) ≤ x3 →
    call m_M_newLook [.inr (.inr 49), .inl x1] (mset σ 49 16 0) (fun (r1 : Int) (s2 : Mem) => Q r1 s2))) : seg none call c_M_look false Q cut 2000 true (toPc 151 c_M_look) [some (.inr (.inr 49)), some (.inl x1), none, some (.inl x3), none, none] [] σ := h
theorem e_M_look_151 {d : Nat} {Q : Int → Mem → Prop} {x1 : Int} {x3 : Int} {σ : Mem} (h :
  (x3 < (σ 49 0) → K_M_look_162 d Q x1 x3 0 σ) ∧
  ((σ 49 0) ≤ x3 →
    wp d m_M_newLook [.inr (.inr 49), .inl x1] (mset σ 49 16 0) (fun (r1 : Int) (s2 : Mem) => Q r1 s2))) : K_M_look_151 d Q x1 x3 σ := XX_intro (g_M_look_151 (call := wp d) (cut := XX none (wp d) c_M_look false Q) (Q := Q) (x1 := x1) (x3 := x3) (σ := σ) (h))
theorem g_M_look_162 {call : Nat → List AV → Mem → (Int → Mem → Prop) → Prop} {cut : Nat → Lo → List AV → Mem → Prop} {Q : Int → Mem → Prop} {x1 : Int} {x3 : Int} {x4 : Int} {σ : Mem} (h :
  (x4 < x1 →
    call m_M_place [.inl (σ 49 6), .inl x3, .inl x4] σ (fun (r1 : Int) (s2 : Mem) =>
    (0 ≤ (w32 ((w32 (x1 * x3)) + x4)) ∧ (w32 ((w32 (x1 * x3)) + x4)) < (24 : Int)) ∧ (0 ≤ r1 ∧ r1 < (312 : Int)) ∧ cut 162 [some (.inr (.inr 49)), some (.inl x1), none, some (.inl x3), some (.inl (w32 (x4 + 1))), none] [] (mset s2 54 r1.toNat (s2 59 (w32 ((w32 (x1 * x3)) + x4)).toNat)))) ∧
  (x1 ≤ x4 →
    cut 151 [some (.inr (.inr 49)), some (.inl x1), none, some (.inl (w32 (x3 + 1))), none, none] [] σ)) : seg none call c_M_look false Q cut 2000 true (toPc 162 c_M_look) [some (.inr (.inr 49)), some (.inl x1), none, some (.inl x3), some (.inl x4), none] [] σ := h
theorem e_M_look_162 {d : Nat} {Q : Int → Mem → Prop} {x1 : Int} {x3 : Int} {x4 : Int} {σ : Mem} (h :
  (x4 < x1 →
    wp d m_M_place [.inl (σ 49 6), .inl x3, .inl x4] σ (fun (r1 : Int) (s2 : Mem) =>
    (0 ≤ (w32 ((w32 (x1 * x3)) + x4)) ∧ (w32 ((w32 (x1 * x3)) + x4)) < (24 : Int)) ∧ (0 ≤ r1 ∧ r1 < (312 : Int)) ∧ K_M_look_162 d Q x1 x3 (w32 (x4 + 1)) (mset s2 54 r1.toNat (s2 59 (w32 ((w32 (x1 * x3)) + x4)).toNat)))) ∧
  (x1 ≤ x4 → K_M_look_151 d Q x1 (w32 (x3 + 1)) σ)) : K_M_look_162 d Q x1 x3 x4 σ := XX_intro (g_M_look_162 (call := wp d) (cut := XX none (wp d) c_M_look false Q) (Q := Q) (x1 := x1) (x3 := x3) (x4 := x4) (σ := σ) (h))
abbrev K_M_plain_53 (d : Nat) (Q : Int → Mem → Prop) (x1 : Int) (x2 : Int) (σ : Mem) : Prop := XX none (wp d) c_M_plain false Q 53 [some (.inr (.inr 49)), some (.inl x1), some (.inl x2)] [] σ
theorem g_M_plain {call : Nat → List AV → Mem → (Int → Mem → Prop) → Prop} {cut : Nat → Lo → List AV → Mem → Prop} {Q : Int → Mem → Prop} {a1 : Int} {σ : Mem} (h :
  call m_M_in [.inr (.inl a1), .inr (.inl 0), .inr (.inl 1)] σ (fun (r1 : Int) (s2 : Mem) =>
  (r1 = 0 →
      call m_M_refuse [.inr (.inr 49), .inl (-2)] s2 (fun (r9 : Int) (s10 : Mem) => Q r9 s10)) ∧
    (¬ r1 = 0 →
      ((s2 49 0) = 0 →
        call m_M_refuse [.inr (.inr 49), .inl (-3)] s2 (fun (r7 : Int) (s8 : Mem) => Q r7 s8)) ∧
      (¬ (s2 49 0) = 0 →
        ((s2 49 6) = 12 →
          call m_M_refuse [.inr (.inr 49), .inl (-6)] s2 (fun (r5 : Int) (s6 : Mem) => Q r5 s6)) ∧
        (¬ (s2 49 6) = 12 →
          call m_M_clearLook [.inr (.inr 49)] s2 (fun (r3 : Int) (s4 : Mem) =>
          cut 53 [some (.inr (.inr 49)), some (.inl a1), some (.inl 0)] [] s4)))))) : seg none call c_M_plain false Q cut 2000 true (toPc 0 c_M_plain) [some (.inr (.inr 49)), some (.inl a1), none] [] σ := h
theorem e_M_plain {d : Nat} {Q : Int → Mem → Prop} {a1 : Int} {σ : Mem} (h :
  wp d m_M_in [.inr (.inl a1), .inr (.inl 0), .inr (.inl 1)] σ (fun (r1 : Int) (s2 : Mem) =>
  (r1 = 0 →
      wp d m_M_refuse [.inr (.inr 49), .inl (-2)] s2 (fun (r9 : Int) (s10 : Mem) => Q r9 s10)) ∧
    (¬ r1 = 0 →
      ((s2 49 0) = 0 →
        wp d m_M_refuse [.inr (.inr 49), .inl (-3)] s2 (fun (r7 : Int) (s8 : Mem) => Q r7 s8)) ∧
      (¬ (s2 49 0) = 0 →
        ((s2 49 6) = 12 →
          wp d m_M_refuse [.inr (.inr 49), .inl (-6)] s2 (fun (r5 : Int) (s6 : Mem) => Q r5 s6)) ∧
        (¬ (s2 49 6) = 12 →
          wp d m_M_clearLook [.inr (.inr 49)] s2 (fun (r3 : Int) (s4 : Mem) => K_M_plain_53 d Q a1 0 s4)))))) : wp (d + 1) m_M_plain [.inr (.inr 49), .inl a1] σ Q := wp_in rfl (XX_intro (g_M_plain (call := wp d) (cut := XX none (wp d) c_M_plain false Q) (Q := Q) (a1 := a1) (σ := σ) (h)))
theorem g_M_plain_53 {call : Nat → List AV → Mem → (Int → Mem → Prop) → Prop} {cut : Nat → Lo → List AV → Mem → Prop} {Q : Int → Mem → Prop} {x1 : Int} {x2 : Int} {σ : Mem} (h :
  (x2 < (σ 49 0) →
    (x1 = 0 →
      call m_M_place [.inl (σ 49 6), .inl x2, .inl 0] σ (fun (r7 : Int) (s8 : Mem) =>
      (0 ≤ r7 ∧ r7 < (312 : Int)) ∧ cut 53 [some (.inr (.inr 49)), some (.inl x1), some (.inl (w32 (x2 + 1)))] [] (mset s8 54 r7.toNat 60))) ∧
    (¬ x1 = 0 →
      call m_M_place [.inl (σ 49 6), .inl x2, .inl x2] σ (fun (r5 : Int) (s6 : Mem) =>
      (0 ≤ r5 ∧ r5 < (312 : Int)) ∧ cut 53 [some (.inr (.inr 49)), some (.inl x1), some (.inl (w32 (x2 + 1)))] [] (mset s6 54 r5.toNat 60)))) ∧
  ((σ 49 0) ≤ x2 →
    (x1 = 0 →
      call m_M_newLook [.inr (.inr 49), .inl 1] σ (fun (r3 : Int) (s4 : Mem) => Q r3 s4)) ∧
    (¬ x1 = 0 →
      call m_M_newLook [.inr (.inr 49), .inl (σ 49 0)] σ (fun (r1 : Int) (s2 : Mem) => Q r1 s2)))) : seg none call c_M_plain false Q cut 2000 true (toPc 53 c_M_plain) [some (.inr (.inr 49)), some (.inl x1), some (.inl x2)] [] σ := h
theorem e_M_plain_53 {d : Nat} {Q : Int → Mem → Prop} {x1 : Int} {x2 : Int} {σ : Mem} (h :
  (x2 < (σ 49 0) →
    (x1 = 0 →
      wp d m_M_place [.inl (σ 49 6), .inl x2, .inl 0] σ (fun (r7 : Int) (s8 : Mem) =>
      (0 ≤ r7 ∧ r7 < (312 : Int)) ∧ K_M_plain_53 d Q x1 (w32 (x2 + 1)) (mset s8 54 r7.toNat 60))) ∧
    (¬ x1 = 0 →
      wp d m_M_place [.inl (σ 49 6), .inl x2, .inl x2] σ (fun (r5 : Int) (s6 : Mem) =>
      (0 ≤ r5 ∧ r5 < (312 : Int)) ∧ K_M_plain_53 d Q x1 (w32 (x2 + 1)) (mset s6 54 r5.toNat 60)))) ∧
  ((σ 49 0) ≤ x2 →
    (x1 = 0 →
      wp d m_M_newLook [.inr (.inr 49), .inl 1] σ (fun (r3 : Int) (s4 : Mem) => Q r3 s4)) ∧
    (¬ x1 = 0 →
      wp d m_M_newLook [.inr (.inr 49), .inl (σ 49 0)] σ (fun (r1 : Int) (s2 : Mem) => Q r1 s2)))) : K_M_plain_53 d Q x1 x2 σ := XX_intro (g_M_plain_53 (call := wp d) (cut := XX none (wp d) c_M_plain false Q) (Q := Q) (x1 := x1) (x2 := x2) (σ := σ) (h))
abbrev K_M_bar_58 (d : Nat) (Q : Int → Mem → Prop) (x1 : Int) (x2 : Int) (σ : Mem) : Prop := XX none (wp d) c_M_bar false Q 58 [some (.inr (.inr 49)), some (.inl x1), some (.inl x2)] [] σ
theorem g_M_bar {call : Nat → List AV → Mem → (Int → Mem → Prop) → Prop} {cut : Nat → Lo → List AV → Mem → Prop} {Q : Int → Mem → Prop} {a1 : Int} {σ : Mem} (h :
  ((σ 49 0) = 0 →
    call m_M_refuse [.inr (.inr 49), .inl (-3)] σ (fun (r9 : Int) (s10 : Mem) => Q r9 s10)) ∧
  (¬ (σ 49 0) = 0 →
    (a1 < 1 →
      call m_M_refuse [.inr (.inr 49), .inl (-4)] σ (fun (r7 : Int) (s8 : Mem) => Q r7 s8)) ∧
    (1 ≤ a1 →
      ((w32 ((σ 49 0) - 1)) < a1 →
        call m_M_refuse [.inr (.inr 49), .inl (-6)] σ (fun (r1 : Int) (s2 : Mem) => Q r1 s2)) ∧
      (a1 ≤ (w32 ((σ 49 0) - 1)) →
        ((σ 49 6) = 12 →
          call m_M_refuse [.inr (.inr 49), .inl (-6)] σ (fun (r5 : Int) (s6 : Mem) => Q r5 s6)) ∧
        (¬ (σ 49 6) = 12 →
          call m_M_clearLook [.inr (.inr 49)] σ (fun (r3 : Int) (s4 : Mem) =>
          cut 58 [some (.inr (.inr 49)), some (.inl a1), some (.inl 0)] [] s4)))))) : seg none call c_M_bar false Q cut 2000 true (toPc 0 c_M_bar) [some (.inr (.inr 49)), some (.inl a1), none] [] σ := h
theorem e_M_bar {d : Nat} {Q : Int → Mem → Prop} {a1 : Int} {σ : Mem} (h :
  ((σ 49 0) = 0 →
    wp d m_M_refuse [.inr (.inr 49), .inl (-3)] σ (fun (r9 : Int) (s10 : Mem) => Q r9 s10)) ∧
  (¬ (σ 49 0) = 0 →
    (a1 < 1 →
      wp d m_M_refuse [.inr (.inr 49), .inl (-4)] σ (fun (r7 : Int) (s8 : Mem) => Q r7 s8)) ∧
    (1 ≤ a1 →
      ((w32 ((σ 49 0) - 1)) < a1 →
        wp d m_M_refuse [.inr (.inr 49), .inl (-6)] σ (fun (r1 : Int) (s2 : Mem) => Q r1 s2)) ∧
      (a1 ≤ (w32 ((σ 49 0) - 1)) →
        ((σ 49 6) = 12 →
          wp d m_M_refuse [.inr (.inr 49), .inl (-6)] σ (fun (r5 : Int) (s6 : Mem) => Q r5 s6)) ∧
        (¬ (σ 49 6) = 12 →
          wp d m_M_clearLook [.inr (.inr 49)] σ (fun (r3 : Int) (s4 : Mem) => K_M_bar_58 d Q a1 0 s4)))))) : wp (d + 1) m_M_bar [.inr (.inr 49), .inl a1] σ Q := wp_in rfl (XX_intro (g_M_bar (call := wp d) (cut := XX none (wp d) c_M_bar false Q) (Q := Q) (a1 := a1) (σ := σ) (h)))
theorem g_M_bar_58 {call : Nat → List AV → Mem → (Int → Mem → Prop) → Prop} {cut : Nat → Lo → List AV → Mem → Prop} {Q : Int → Mem → Prop} {x1 : Int} {x2 : Int} {σ : Mem} (h :
  (x2 < (σ 49 0) →
    (x2 < x1 →
      call m_M_place [.inl (σ 49 6), .inl x2, .inl 0] σ (fun (r3 : Int) (s4 : Mem) =>
      (0 ≤ r3 ∧ r3 < (312 : Int)) ∧ cut 58 [some (.inr (.inr 49)), some (.inl x1), some (.inl (w32 (x2 + 1)))] [] (mset s4 54 r3.toNat 60))) ∧
    (x1 ≤ x2 →
      call m_M_place [.inl (σ 49 6), .inl x2, .inl 1] σ (fun (r5 : Int) (s6 : Mem) =>
      (0 ≤ r5 ∧ r5 < (312 : Int)) ∧ cut 58 [some (.inr (.inr 49)), some (.inl x1), some (.inl (w32 (x2 + 1)))] [] (mset s6 54 r5.toNat 60)))) ∧
  ((σ 49 0) ≤ x2 →
    call m_M_newLook [.inr (.inr 49), .inl 2] σ (fun (r1 : Int) (s2 : Mem) => Q r1 s2))) : seg none call c_M_bar false Q cut 2000 true (toPc 58 c_M_bar) [some (.inr (.inr 49)), some (.inl x1), some (.inl x2)] [] σ := h
theorem e_M_bar_58 {d : Nat} {Q : Int → Mem → Prop} {x1 : Int} {x2 : Int} {σ : Mem} (h :
  (x2 < (σ 49 0) →
    (x2 < x1 →
      wp d m_M_place [.inl (σ 49 6), .inl x2, .inl 0] σ (fun (r3 : Int) (s4 : Mem) =>
      (0 ≤ r3 ∧ r3 < (312 : Int)) ∧ K_M_bar_58 d Q x1 (w32 (x2 + 1)) (mset s4 54 r3.toNat 60))) ∧
    (x1 ≤ x2 →
      wp d m_M_place [.inl (σ 49 6), .inl x2, .inl 1] σ (fun (r5 : Int) (s6 : Mem) =>
      (0 ≤ r5 ∧ r5 < (312 : Int)) ∧ K_M_bar_58 d Q x1 (w32 (x2 + 1)) (mset s6 54 r5.toNat 60)))) ∧
  ((σ 49 0) ≤ x2 →
    wp d m_M_newLook [.inr (.inr 49), .inl 2] σ (fun (r1 : Int) (s2 : Mem) => Q r1 s2))) : K_M_bar_58 d Q x1 x2 σ := XX_intro (g_M_bar_58 (call := wp d) (cut := XX none (wp d) c_M_bar false Q) (Q := Q) (x1 := x1) (x2 := x2) (σ := σ) (h))
abbrev K_M_mix_98 (d : Nat) (Q : Int → Mem → Prop) (x1 : Int) (x2 : Int) (x3 : Int) (x4 : Int) (x5 : Int) (σ : Mem) : Prop := XX none (wp d) c_M_mix false Q 98 [some (.inr (.inr 49)), some (.inl x1), some (.inl x2), some (.inl x3), some (.inl x4), some (.inl x5), none, none] [] σ
abbrev K_M_mix_110 (d : Nat) (Q : Int → Mem → Prop) (x1 : Int) (x2 : Int) (x3 : Int) (x4 : Int) (x5 : Int) (x6 : Int) (σ : Mem) : Prop := XX none (wp d) c_M_mix false Q 110 [some (.inr (.inr 49)), some (.inl x1), some (.inl x2), some (.inl x3), some (.inl x4), some (.inl x5), some (.inl x6), none] [] σ
abbrev K_M_mix_188 (d : Nat) (Q : Int → Mem → Prop) (x1 : Int) (x2 : Int) (x3 : Int) (x4 : Int) (x5 : Int) (x6 : Int) (σ : Mem) : Prop := XX none (wp d) c_M_mix false Q 188 [some (.inr (.inr 49)), some (.inl x1), some (.inl x2), some (.inl x3), some (.inl x4), some (.inl x5), some (.inl x6), none] [] σ
theorem g_M_mix {call : Nat → List AV → Mem → (Int → Mem → Prop) → Prop} {cut : Nat → Lo → List AV → Mem → Prop} {Q : Int → Mem → Prop} {a1 : Int} {a2 : Int} {a3 : Int} {σ : Mem} (h :
  ((σ 49 0) = 0 →
    call m_M_refuse [.inr (.inr 49), .inl (-3)] σ (fun (r19 : Int) (s20 : Mem) => Q r19 s20)) ∧
  (¬ (σ 49 0) = 0 →
    call m_M_isLook [.inr (.inr 49), .inl a1] σ (fun (r1 : Int) (s2 : Mem) =>
    (r1 = 0 →
        call m_M_refuse [.inr (.inr 49), .inl (-1)] s2 (fun (r3 : Int) (s4 : Mem) => Q r3 s4)) ∧
      (¬ r1 = 0 →
        call m_M_isLook [.inr (.inr 49), .inl a2] s2 (fun (r5 : Int) (s6 : Mem) =>
        (r5 = 0 →
            call m_M_refuse [.inr (.inr 49), .inl (-1)] s6 (fun (r17 : Int) (s18 : Mem) => Q r17 s18)) ∧
          (¬ r5 = 0 →
            (a3 < 1 →
              call m_M_refuse [.inr (.inr 49), .inl (-4)] s6 (fun (r15 : Int) (s16 : Mem) => Q r15 s16)) ∧
            (1 ≤ a3 →
              (11 < a3 →
                call m_M_refuse [.inr (.inr 49), .inl (-6)] s6 (fun (r7 : Int) (s8 : Mem) => Q r7 s8)) ∧
              (a3 ≤ 11 →
                (0 ≤ a1 ∧ a1 < (13 : Int)) ∧ (0 ≤ a2 ∧ a2 < (13 : Int)) ∧ (6 < (w32 ((s6 53 a1.toNat) + (s6 53 a2.toNat))) →
                  call m_M_refuse [.inr (.inr 49), .inl (-6)] s6 (fun (r9 : Int) (s10 : Mem) => Q r9 s10)) ∧
                ((w32 ((s6 53 a1.toNat) + (s6 53 a2.toNat))) ≤ 6 →
                  ((s6 49 6) = 12 →
                    call m_M_refuse [.inr (.inr 49), .inl (-6)] s6 (fun (r13 : Int) (s14 : Mem) => Q r13 s14)) ∧
                  (¬ (s6 49 6) = 12 →
                    call m_M_clearLook [.inr (.inr 49)] s6 (fun (r11 : Int) (s12 : Mem) =>
                    cut 98 [some (.inr (.inr 49)), some (.inl a1), some (.inl a2), some (.inl a3), some (.inl 1), some (.inl 0), none, none] [] s12))))))))))) : seg none call c_M_mix false Q cut 2000 true (toPc 0 c_M_mix) [some (.inr (.inr 49)), some (.inl a1), some (.inl a2), some (.inl a3), none, none, none, none] [] σ := h
theorem e_M_mix {d : Nat} {Q : Int → Mem → Prop} {a1 : Int} {a2 : Int} {a3 : Int} {σ : Mem} (h :
  ((σ 49 0) = 0 →
    wp d m_M_refuse [.inr (.inr 49), .inl (-3)] σ (fun (r19 : Int) (s20 : Mem) => Q r19 s20)) ∧
  (¬ (σ 49 0) = 0 →
    wp d m_M_isLook [.inr (.inr 49), .inl a1] σ (fun (r1 : Int) (s2 : Mem) =>
    (r1 = 0 →
        wp d m_M_refuse [.inr (.inr 49), .inl (-1)] s2 (fun (r3 : Int) (s4 : Mem) => Q r3 s4)) ∧
      (¬ r1 = 0 →
        wp d m_M_isLook [.inr (.inr 49), .inl a2] s2 (fun (r5 : Int) (s6 : Mem) =>
        (r5 = 0 →
            wp d m_M_refuse [.inr (.inr 49), .inl (-1)] s6 (fun (r17 : Int) (s18 : Mem) => Q r17 s18)) ∧
          (¬ r5 = 0 →
            (a3 < 1 →
              wp d m_M_refuse [.inr (.inr 49), .inl (-4)] s6 (fun (r15 : Int) (s16 : Mem) => Q r15 s16)) ∧
            (1 ≤ a3 →
              (11 < a3 →
                wp d m_M_refuse [.inr (.inr 49), .inl (-6)] s6 (fun (r7 : Int) (s8 : Mem) => Q r7 s8)) ∧
              (a3 ≤ 11 →
                (0 ≤ a1 ∧ a1 < (13 : Int)) ∧ (0 ≤ a2 ∧ a2 < (13 : Int)) ∧ (6 < (w32 ((s6 53 a1.toNat) + (s6 53 a2.toNat))) →
                  wp d m_M_refuse [.inr (.inr 49), .inl (-6)] s6 (fun (r9 : Int) (s10 : Mem) => Q r9 s10)) ∧
                ((w32 ((s6 53 a1.toNat) + (s6 53 a2.toNat))) ≤ 6 →
                  ((s6 49 6) = 12 →
                    wp d m_M_refuse [.inr (.inr 49), .inl (-6)] s6 (fun (r13 : Int) (s14 : Mem) => Q r13 s14)) ∧
                  (¬ (s6 49 6) = 12 →
                    wp d m_M_clearLook [.inr (.inr 49)] s6 (fun (r11 : Int) (s12 : Mem) => K_M_mix_98 d Q a1 a2 a3 1 0 s12))))))))))) : wp (d + 1) m_M_mix [.inr (.inr 49), .inl a1, .inl a2, .inl a3] σ Q := wp_in rfl (XX_intro (g_M_mix (call := wp d) (cut := XX none (wp d) c_M_mix false Q) (Q := Q) (a1 := a1) (a2 := a2) (a3 := a3) (σ := σ) (h)))
theorem g_M_mix_98 {call : Nat → List AV → Mem → (Int → Mem → Prop) → Prop} {cut : Nat → Lo → List AV → Mem → Prop} {Q : Int → Mem → Prop} {x1 : Int} {x2 : Int} {x3 : Int} {x4 : Int} {x5 : Int} {σ : Mem} (h :
  (x5 < (σ 49 0) →
    cut 110 [some (.inr (.inr 49)), some (.inl x1), some (.inl x2), some (.inl x3), some (.inl x4), some (.inl x5), some (.inl 0), none] [] σ) ∧
  ((σ 49 0) ≤ x5 →
    (x4 = 0 →
      call m_M_refuse [.inr (.inr 49), .inl (-3)] σ (fun (r1 : Int) (s2 : Mem) => Q r1 s2)) ∧
    (¬ x4 = 0 →
      (0 ≤ x1 ∧ x1 < (13 : Int)) ∧ (0 ≤ x2 ∧ x2 < (13 : Int)) ∧ call m_M_newLook [.inr (.inr 49), .inl (w32 ((σ 53 x1.toNat) + (σ 53 x2.toNat)))] σ (fun (r3 : Int) (s4 : Mem) => Q r3 s4)))) : seg none call c_M_mix false Q cut 2000 true (toPc 98 c_M_mix) [some (.inr (.inr 49)), some (.inl x1), some (.inl x2), some (.inl x3), some (.inl x4), some (.inl x5), none, none] [] σ := h
theorem e_M_mix_98 {d : Nat} {Q : Int → Mem → Prop} {x1 : Int} {x2 : Int} {x3 : Int} {x4 : Int} {x5 : Int} {σ : Mem} (h :
  (x5 < (σ 49 0) → K_M_mix_110 d Q x1 x2 x3 x4 x5 0 σ) ∧
  ((σ 49 0) ≤ x5 →
    (x4 = 0 →
      wp d m_M_refuse [.inr (.inr 49), .inl (-3)] σ (fun (r1 : Int) (s2 : Mem) => Q r1 s2)) ∧
    (¬ x4 = 0 →
      (0 ≤ x1 ∧ x1 < (13 : Int)) ∧ (0 ≤ x2 ∧ x2 < (13 : Int)) ∧ wp d m_M_newLook [.inr (.inr 49), .inl (w32 ((σ 53 x1.toNat) + (σ 53 x2.toNat)))] σ (fun (r3 : Int) (s4 : Mem) => Q r3 s4)))) : K_M_mix_98 d Q x1 x2 x3 x4 x5 σ := XX_intro (g_M_mix_98 (call := wp d) (cut := XX none (wp d) c_M_mix false Q) (Q := Q) (x1 := x1) (x2 := x2) (x3 := x3) (x4 := x4) (x5 := x5) (σ := σ) (h))
theorem g_M_mix_110 {call : Nat → List AV → Mem → (Int → Mem → Prop) → Prop} {cut : Nat → Lo → List AV → Mem → Prop} {Q : Int → Mem → Prop} {x1 : Int} {x2 : Int} {x3 : Int} {x4 : Int} {x5 : Int} {x6 : Int} {σ : Mem} (h :
  (0 ≤ x1 ∧ x1 < (13 : Int)) ∧ (x6 < (σ 53 x1.toNat) →
    call m_M_place [.inl x1, .inl x5, .inl x6] σ (fun (r1 : Int) (s2 : Mem) =>
    (0 ≤ r1 ∧ r1 < (312 : Int)) ∧ (x4 = 0 →
        call m_M_place [.inl (s2 49 6), .inl x5, .inl x6] s2 (fun (r3 : Int) (s4 : Mem) =>
        (¬ (12 : Int) = 0) ∧ (0 ≤ r3 ∧ r3 < (312 : Int)) ∧ cut 110 [some (.inr (.inr 49)), some (.inl x1), some (.inl x2), some (.inl x3), some (.inl 0), some (.inl x5), some (.inl (w32 (x6 + 1))), none] [] (mset s4 54 r3.toNat (w32 (Int.tdiv (w32 ((s2 54 r1.toNat) * x3)) 12))))) ∧
      (¬ x4 = 0 →
        (¬ (12 : Int) = 0) ∧ ((Int.tmod (w32 ((s2 54 r1.toNat) * x3)) 12) = 0 →
          call m_M_place [.inl (s2 49 6), .inl x5, .inl x6] s2 (fun (r7 : Int) (s8 : Mem) =>
          (¬ (12 : Int) = 0) ∧ (0 ≤ r7 ∧ r7 < (312 : Int)) ∧ cut 110 [some (.inr (.inr 49)), some (.inl x1), some (.inl x2), some (.inl x3), some (.inl 1), some (.inl x5), some (.inl (w32 (x6 + 1))), none] [] (mset s8 54 r7.toNat (w32 (Int.tdiv (w32 ((s2 54 r1.toNat) * x3)) 12))))) ∧
        (¬ (Int.tmod (w32 ((s2 54 r1.toNat) * x3)) 12) = 0 →
          call m_M_place [.inl (s2 49 6), .inl x5, .inl x6] s2 (fun (r5 : Int) (s6 : Mem) =>
          (¬ (12 : Int) = 0) ∧ (0 ≤ r5 ∧ r5 < (312 : Int)) ∧ cut 110 [some (.inr (.inr 49)), some (.inl x1), some (.inl x2), some (.inl x3), some (.inl 0), some (.inl x5), some (.inl (w32 (x6 + 1))), none] [] (mset s6 54 r5.toNat (w32 (Int.tdiv (w32 ((s2 54 r1.toNat) * x3)) 12)))))))) ∧
  ((σ 53 x1.toNat) ≤ x6 →
    cut 188 [some (.inr (.inr 49)), some (.inl x1), some (.inl x2), some (.inl x3), some (.inl x4), some (.inl x5), some (.inl 0), none] [] σ)) : seg none call c_M_mix false Q cut 2000 true (toPc 110 c_M_mix) [some (.inr (.inr 49)), some (.inl x1), some (.inl x2), some (.inl x3), some (.inl x4), some (.inl x5), some (.inl x6), none] [] σ := h
theorem e_M_mix_110 {d : Nat} {Q : Int → Mem → Prop} {x1 : Int} {x2 : Int} {x3 : Int} {x4 : Int} {x5 : Int} {x6 : Int} {σ : Mem} (h :
  (0 ≤ x1 ∧ x1 < (13 : Int)) ∧ (x6 < (σ 53 x1.toNat) →
    wp d m_M_place [.inl x1, .inl x5, .inl x6] σ (fun (r1 : Int) (s2 : Mem) =>
    (0 ≤ r1 ∧ r1 < (312 : Int)) ∧ (x4 = 0 →
        wp d m_M_place [.inl (s2 49 6), .inl x5, .inl x6] s2 (fun (r3 : Int) (s4 : Mem) =>
        (0 ≤ r3 ∧ r3 < (312 : Int)) ∧ K_M_mix_110 d Q x1 x2 x3 0 x5 (w32 (x6 + 1)) (mset s4 54 r3.toNat (w32 (Int.tdiv (w32 ((s2 54 r1.toNat) * x3)) 12))))) ∧
      (¬ x4 = 0 →
        ((Int.tmod (w32 ((s2 54 r1.toNat) * x3)) 12) = 0 →
          wp d m_M_place [.inl (s2 49 6), .inl x5, .inl x6] s2 (fun (r7 : Int) (s8 : Mem) =>
          (0 ≤ r7 ∧ r7 < (312 : Int)) ∧ K_M_mix_110 d Q x1 x2 x3 1 x5 (w32 (x6 + 1)) (mset s8 54 r7.toNat (w32 (Int.tdiv (w32 ((s2 54 r1.toNat) * x3)) 12))))) ∧
        (¬ (Int.tmod (w32 ((s2 54 r1.toNat) * x3)) 12) = 0 →
          wp d m_M_place [.inl (s2 49 6), .inl x5, .inl x6] s2 (fun (r5 : Int) (s6 : Mem) =>
          (0 ≤ r5 ∧ r5 < (312 : Int)) ∧ K_M_mix_110 d Q x1 x2 x3 0 x5 (w32 (x6 + 1)) (mset s6 54 r5.toNat (w32 (Int.tdiv (w32 ((s2 54 r1.toNat) * x3)) 12)))))))) ∧
  ((σ 53 x1.toNat) ≤ x6 → K_M_mix_188 d Q x1 x2 x3 x4 x5 0 σ)) : K_M_mix_110 d Q x1 x2 x3 x4 x5 x6 σ := XX_intro (g_M_mix_110 (call := wp d) (cut := XX none (wp d) c_M_mix false Q) (Q := Q) (x1 := x1) (x2 := x2) (x3 := x3) (x4 := x4) (x5 := x5) (x6 := x6) (σ := σ) (⟨(h).1, ⟨fun z7 => wp_conseq (fun _ _ z6 => ⟨(z6).1, ⟨fun z5 => wp_conseq (fun _ _ z1 => ⟨(by decide), z1⟩) ((((z6).2).1 z5)), fun z5 => ⟨(by decide), ⟨fun z4 => wp_conseq (fun _ _ z3 => ⟨(by decide), z3⟩) ((((((z6).2).2 z5)).1 z4)), fun z4 => wp_conseq (fun _ _ z2 => ⟨(by decide), z2⟩) ((((((z6).2).2 z5)).2 z4))⟩⟩⟩⟩) ((((h).2).1 z7)), fun z7 => ((h).2).2 z7⟩⟩))
theorem g_M_mix_188 {call : Nat → List AV → Mem → (Int → Mem → Prop) → Prop} {cut : Nat → Lo → List AV → Mem → Prop} {Q : Int → Mem → Prop} {x1 : Int} {x2 : Int} {x3 : Int} {x4 : Int} {x5 : Int} {x6 : Int} {σ : Mem} (h :
  (0 ≤ x2 ∧ x2 < (13 : Int)) ∧ (x6 < (σ 53 x2.toNat) →
    call m_M_place [.inl x2, .inl x5, .inl x6] σ (fun (r1 : Int) (s2 : Mem) =>
    (0 ≤ r1 ∧ r1 < (312 : Int)) ∧ (x4 = 0 →
        (0 ≤ x1 ∧ x1 < (13 : Int)) ∧ call m_M_place [.inl (s2 49 6), .inl x5, .inl (w32 ((s2 53 x1.toNat) + x6))] s2 (fun (r3 : Int) (s4 : Mem) =>
        (¬ (12 : Int) = 0) ∧ (0 ≤ r3 ∧ r3 < (312 : Int)) ∧ cut 188 [some (.inr (.inr 49)), some (.inl x1), some (.inl x2), some (.inl x3), some (.inl 0), some (.inl x5), some (.inl (w32 (x6 + 1))), none] [] (mset s4 54 r3.toNat (w32 (Int.tdiv (w32 ((s2 54 r1.toNat) * (w32 (12 - x3)))) 12))))) ∧
      (¬ x4 = 0 →
        (¬ (12 : Int) = 0) ∧ ((Int.tmod (w32 ((s2 54 r1.toNat) * (w32 (12 - x3)))) 12) = 0 →
          (0 ≤ x1 ∧ x1 < (13 : Int)) ∧ call m_M_place [.inl (s2 49 6), .inl x5, .inl (w32 ((s2 53 x1.toNat) + x6))] s2 (fun (r7 : Int) (s8 : Mem) =>
          (¬ (12 : Int) = 0) ∧ (0 ≤ r7 ∧ r7 < (312 : Int)) ∧ cut 188 [some (.inr (.inr 49)), some (.inl x1), some (.inl x2), some (.inl x3), some (.inl 1), some (.inl x5), some (.inl (w32 (x6 + 1))), none] [] (mset s8 54 r7.toNat (w32 (Int.tdiv (w32 ((s2 54 r1.toNat) * (w32 (12 - x3)))) 12))))) ∧
        (¬ (Int.tmod (w32 ((s2 54 r1.toNat) * (w32 (12 - x3)))) 12) = 0 →
          (0 ≤ x1 ∧ x1 < (13 : Int)) ∧ call m_M_place [.inl (s2 49 6), .inl x5, .inl (w32 ((s2 53 x1.toNat) + x6))] s2 (fun (r5 : Int) (s6 : Mem) =>
          (¬ (12 : Int) = 0) ∧ (0 ≤ r5 ∧ r5 < (312 : Int)) ∧ cut 188 [some (.inr (.inr 49)), some (.inl x1), some (.inl x2), some (.inl x3), some (.inl 0), some (.inl x5), some (.inl (w32 (x6 + 1))), none] [] (mset s6 54 r5.toNat (w32 (Int.tdiv (w32 ((s2 54 r1.toNat) * (w32 (12 - x3)))) 12)))))))) ∧
  ((σ 53 x2.toNat) ≤ x6 →
    cut 98 [some (.inr (.inr 49)), some (.inl x1), some (.inl x2), some (.inl x3), some (.inl x4), some (.inl (w32 (x5 + 1))), none, none] [] σ)) : seg none call c_M_mix false Q cut 2000 true (toPc 188 c_M_mix) [some (.inr (.inr 49)), some (.inl x1), some (.inl x2), some (.inl x3), some (.inl x4), some (.inl x5), some (.inl x6), none] [] σ := h
theorem e_M_mix_188 {d : Nat} {Q : Int → Mem → Prop} {x1 : Int} {x2 : Int} {x3 : Int} {x4 : Int} {x5 : Int} {x6 : Int} {σ : Mem} (h :
  (0 ≤ x2 ∧ x2 < (13 : Int)) ∧ (x6 < (σ 53 x2.toNat) →
    wp d m_M_place [.inl x2, .inl x5, .inl x6] σ (fun (r1 : Int) (s2 : Mem) =>
    (0 ≤ r1 ∧ r1 < (312 : Int)) ∧ (x4 = 0 →
        (0 ≤ x1 ∧ x1 < (13 : Int)) ∧ wp d m_M_place [.inl (s2 49 6), .inl x5, .inl (w32 ((s2 53 x1.toNat) + x6))] s2 (fun (r3 : Int) (s4 : Mem) =>
        (0 ≤ r3 ∧ r3 < (312 : Int)) ∧ K_M_mix_188 d Q x1 x2 x3 0 x5 (w32 (x6 + 1)) (mset s4 54 r3.toNat (w32 (Int.tdiv (w32 ((s2 54 r1.toNat) * (w32 (12 - x3)))) 12))))) ∧
      (¬ x4 = 0 →
        ((Int.tmod (w32 ((s2 54 r1.toNat) * (w32 (12 - x3)))) 12) = 0 →
          (0 ≤ x1 ∧ x1 < (13 : Int)) ∧ wp d m_M_place [.inl (s2 49 6), .inl x5, .inl (w32 ((s2 53 x1.toNat) + x6))] s2 (fun (r7 : Int) (s8 : Mem) =>
          (0 ≤ r7 ∧ r7 < (312 : Int)) ∧ K_M_mix_188 d Q x1 x2 x3 1 x5 (w32 (x6 + 1)) (mset s8 54 r7.toNat (w32 (Int.tdiv (w32 ((s2 54 r1.toNat) * (w32 (12 - x3)))) 12))))) ∧
        (¬ (Int.tmod (w32 ((s2 54 r1.toNat) * (w32 (12 - x3)))) 12) = 0 →
          (0 ≤ x1 ∧ x1 < (13 : Int)) ∧ wp d m_M_place [.inl (s2 49 6), .inl x5, .inl (w32 ((s2 53 x1.toNat) + x6))] s2 (fun (r5 : Int) (s6 : Mem) =>
          (0 ≤ r5 ∧ r5 < (312 : Int)) ∧ K_M_mix_188 d Q x1 x2 x3 0 x5 (w32 (x6 + 1)) (mset s6 54 r5.toNat (w32 (Int.tdiv (w32 ((s2 54 r1.toNat) * (w32 (12 - x3)))) 12)))))))) ∧
  ((σ 53 x2.toNat) ≤ x6 → K_M_mix_98 d Q x1 x2 x3 x4 (w32 (x5 + 1)) σ)) : K_M_mix_188 d Q x1 x2 x3 x4 x5 x6 σ := XX_intro (g_M_mix_188 (call := wp d) (cut := XX none (wp d) c_M_mix false Q) (Q := Q) (x1 := x1) (x2 := x2) (x3 := x3) (x4 := x4) (x5 := x5) (x6 := x6) (σ := σ) (⟨(h).1, ⟨fun z7 => wp_conseq (fun _ _ z6 => ⟨(z6).1, ⟨fun z5 => ⟨((((z6).2).1 z5)).1, wp_conseq (fun _ _ z1 => ⟨(by decide), z1⟩) (((((z6).2).1 z5)).2)⟩, fun z5 => ⟨(by decide), ⟨fun z4 => ⟨((((((z6).2).2 z5)).1 z4)).1, wp_conseq (fun _ _ z3 => ⟨(by decide), z3⟩) (((((((z6).2).2 z5)).1 z4)).2)⟩, fun z4 => ⟨((((((z6).2).2 z5)).2 z4)).1, wp_conseq (fun _ _ z2 => ⟨(by decide), z2⟩) (((((((z6).2).2 z5)).2 z4)).2)⟩⟩⟩⟩⟩) ((((h).2).1 z7)), fun z7 => ((h).2).2 z7⟩⟩))
abbrev K_M_meld_90 (d : Nat) (Q : Int → Mem → Prop) (x1 : Int) (x4 : Int) (x5 : Int) (x6 : Int) (σ : Mem) : Prop := XX none (wp d) c_M_meld false Q 90 [some (.inr (.inr 49)), some (.inl x1), none, none, some (.inl x4), some (.inl x5), some (.inl x6), none, none] [] σ
abbrev K_M_meld_102 (d : Nat) (Q : Int → Mem → Prop) (x1 : Int) (x4 : Int) (x5 : Int) (x6 : Int) (x7 : Int) (σ : Mem) : Prop := XX none (wp d) c_M_meld false Q 102 [some (.inr (.inr 49)), some (.inl x1), none, none, some (.inl x4), some (.inl x5), some (.inl x6), some (.inl x7), none] [] σ
theorem g_M_meld {call : Nat → List AV → Mem → (Int → Mem → Prop) → Prop} {cut : Nat → Lo → List AV → Mem → Prop} {Q : Int → Mem → Prop} {a1 : Int} {a2 : Int} {a3 : Int} {σ : Mem} (h :
  ((σ 49 0) = 0 →
    call m_M_refuse [.inr (.inr 49), .inl (-3)] σ (fun (r21 : Int) (s22 : Mem) => Q r21 s22)) ∧
  (¬ (σ 49 0) = 0 →
    call m_M_isSign [.inr (.inr 49), .inl a1, .inl a2] σ (fun (r1 : Int) (s2 : Mem) =>
    (r1 = 0 →
        call m_M_refuse [.inr (.inr 49), .inl (-1)] s2 (fun (r3 : Int) (s4 : Mem) => Q r3 s4)) ∧
      (¬ r1 = 0 →
        call m_M_isSign [.inr (.inr 49), .inl a1, .inl a3] s2 (fun (r5 : Int) (s6 : Mem) =>
        (r5 = 0 →
            call m_M_refuse [.inr (.inr 49), .inl (-1)] s6 (fun (r7 : Int) (s8 : Mem) => Q r7 s8)) ∧
          (¬ r5 = 0 →
            (a2 = a3 →
              call m_M_refuse [.inr (.inr 49), .inl (-1)] s6 (fun (r19 : Int) (s20 : Mem) => Q r19 s20)) ∧
            (¬ a2 = a3 →
              ((s6 49 6) = 12 →
                call m_M_refuse [.inr (.inr 49), .inl (-6)] s6 (fun (r17 : Int) (s18 : Mem) => Q r17 s18)) ∧
              (¬ (s6 49 6) = 12 →
                (a2 < a3 →
                  (a2 < a3 →
                    call m_M_clearLook [.inr (.inr 49)] s6 (fun (r15 : Int) (s16 : Mem) =>
                    cut 90 [some (.inr (.inr 49)), some (.inl a1), none, none, some (.inl a2), some (.inl a3), some (.inl 0), none, none] [] s16)) ∧
                  (a3 ≤ a2 →
                    call m_M_clearLook [.inr (.inr 49)] s6 (fun (r13 : Int) (s14 : Mem) =>
                    cut 90 [some (.inr (.inr 49)), some (.inl a1), none, none, some (.inl a2), some (.inl a2), some (.inl 0), none, none] [] s14))) ∧
                (a3 ≤ a2 →
                  (a2 < a3 →
                    call m_M_clearLook [.inr (.inr 49)] s6 (fun (r11 : Int) (s12 : Mem) =>
                    cut 90 [some (.inr (.inr 49)), some (.inl a1), none, none, some (.inl a3), some (.inl a3), some (.inl 0), none, none] [] s12)) ∧
                  (a3 ≤ a2 →
                    call m_M_clearLook [.inr (.inr 49)] s6 (fun (r9 : Int) (s10 : Mem) =>
                    cut 90 [some (.inr (.inr 49)), some (.inl a1), none, none, some (.inl a3), some (.inl a2), some (.inl 0), none, none] [] s10))))))))))) : seg none call c_M_meld false Q cut 2000 true (toPc 0 c_M_meld) [some (.inr (.inr 49)), some (.inl a1), some (.inl a2), some (.inl a3), none, none, none, none, none] [] σ := h
theorem e_M_meld {d : Nat} {Q : Int → Mem → Prop} {a1 : Int} {a2 : Int} {a3 : Int} {σ : Mem} (h :
  ((σ 49 0) = 0 →
    wp d m_M_refuse [.inr (.inr 49), .inl (-3)] σ (fun (r21 : Int) (s22 : Mem) => Q r21 s22)) ∧
  (¬ (σ 49 0) = 0 →
    wp d m_M_isSign [.inr (.inr 49), .inl a1, .inl a2] σ (fun (r1 : Int) (s2 : Mem) =>
    (r1 = 0 →
        wp d m_M_refuse [.inr (.inr 49), .inl (-1)] s2 (fun (r3 : Int) (s4 : Mem) => Q r3 s4)) ∧
      (¬ r1 = 0 →
        wp d m_M_isSign [.inr (.inr 49), .inl a1, .inl a3] s2 (fun (r5 : Int) (s6 : Mem) =>
        (r5 = 0 →
            wp d m_M_refuse [.inr (.inr 49), .inl (-1)] s6 (fun (r7 : Int) (s8 : Mem) => Q r7 s8)) ∧
          (¬ r5 = 0 →
            (a2 = a3 →
              wp d m_M_refuse [.inr (.inr 49), .inl (-1)] s6 (fun (r19 : Int) (s20 : Mem) => Q r19 s20)) ∧
            (¬ a2 = a3 →
              ((s6 49 6) = 12 →
                wp d m_M_refuse [.inr (.inr 49), .inl (-6)] s6 (fun (r17 : Int) (s18 : Mem) => Q r17 s18)) ∧
              (¬ (s6 49 6) = 12 →
                (a2 < a3 →
                  (a2 < a3 →
                    wp d m_M_clearLook [.inr (.inr 49)] s6 (fun (r15 : Int) (s16 : Mem) => K_M_meld_90 d Q a1 a2 a3 0 s16)) ∧
                  (a3 ≤ a2 →
                    wp d m_M_clearLook [.inr (.inr 49)] s6 (fun (r13 : Int) (s14 : Mem) => K_M_meld_90 d Q a1 a2 a2 0 s14))) ∧
                (a3 ≤ a2 →
                  (a2 < a3 →
                    wp d m_M_clearLook [.inr (.inr 49)] s6 (fun (r11 : Int) (s12 : Mem) => K_M_meld_90 d Q a1 a3 a3 0 s12)) ∧
                  (a3 ≤ a2 →
                    wp d m_M_clearLook [.inr (.inr 49)] s6 (fun (r9 : Int) (s10 : Mem) => K_M_meld_90 d Q a1 a3 a2 0 s10))))))))))) : wp (d + 1) m_M_meld [.inr (.inr 49), .inl a1, .inl a2, .inl a3] σ Q := wp_in rfl (XX_intro (g_M_meld (call := wp d) (cut := XX none (wp d) c_M_meld false Q) (Q := Q) (a1 := a1) (a2 := a2) (a3 := a3) (σ := σ) (h)))
theorem g_M_meld_90 {call : Nat → List AV → Mem → (Int → Mem → Prop) → Prop} {cut : Nat → Lo → List AV → Mem → Prop} {Q : Int → Mem → Prop} {x1 : Int} {x4 : Int} {x5 : Int} {x6 : Int} {σ : Mem} (h :
  (x6 < (σ 49 0) →
    cut 102 [some (.inr (.inr 49)), some (.inl x1), none, none, some (.inl x4), some (.inl x5), some (.inl x6), some (.inl 0), none] [] σ) ∧
  ((σ 49 0) ≤ x6 →
    (0 ≤ x1 ∧ x1 < (13 : Int)) ∧ call m_M_newLook [.inr (.inr 49), .inl (w32 ((σ 53 x1.toNat) - 1))] σ (fun (r1 : Int) (s2 : Mem) => Q r1 s2))) : seg none call c_M_meld false Q cut 2000 true (toPc 90 c_M_meld) [some (.inr (.inr 49)), some (.inl x1), none, none, some (.inl x4), some (.inl x5), some (.inl x6), none, none] [] σ := h
theorem e_M_meld_90 {d : Nat} {Q : Int → Mem → Prop} {x1 : Int} {x4 : Int} {x5 : Int} {x6 : Int} {σ : Mem} (h :
  (x6 < (σ 49 0) → K_M_meld_102 d Q x1 x4 x5 x6 0 σ) ∧
  ((σ 49 0) ≤ x6 →
    (0 ≤ x1 ∧ x1 < (13 : Int)) ∧ wp d m_M_newLook [.inr (.inr 49), .inl (w32 ((σ 53 x1.toNat) - 1))] σ (fun (r1 : Int) (s2 : Mem) => Q r1 s2))) : K_M_meld_90 d Q x1 x4 x5 x6 σ := XX_intro (g_M_meld_90 (call := wp d) (cut := XX none (wp d) c_M_meld false Q) (Q := Q) (x1 := x1) (x4 := x4) (x5 := x5) (x6 := x6) (σ := σ) (h))
theorem g_M_meld_102 {call : Nat → List AV → Mem → (Int → Mem → Prop) → Prop} {cut : Nat → Lo → List AV → Mem → Prop} {Q : Int → Mem → Prop} {x1 : Int} {x4 : Int} {x5 : Int} {x6 : Int} {x7 : Int} {σ : Mem} (h :
  (0 ≤ x1 ∧ x1 < (13 : Int)) ∧ (x7 < (σ 53 x1.toNat) →
    (x7 = x5 →
      call m_M_place [.inl (σ 49 6), .inl x6, .inl x4] σ (fun (r9 : Int) (s10 : Mem) =>
      (0 ≤ r9 ∧ r9 < (312 : Int)) ∧ call m_M_place [.inl x1, .inl x6, .inl x7] s10 (fun (r11 : Int) (s12 : Mem) =>
        (0 ≤ r11 ∧ r11 < (312 : Int)) ∧ (0 ≤ r9 ∧ r9 < (312 : Int)) ∧ cut 102 [some (.inr (.inr 49)), some (.inl x1), none, none, some (.inl x4), some (.inl x5), some (.inl x6), some (.inl (w32 (x7 + 1))), none] [] (mset s12 54 r9.toNat (w32 ((s10 54 r9.toNat) + (s12 54 r11.toNat))))))) ∧
    (¬ x7 = x5 →
      (x5 < x7 →
        call m_M_place [.inl (σ 49 6), .inl x6, .inl (w32 (x7 - 1))] σ (fun (r5 : Int) (s6 : Mem) =>
        (0 ≤ r5 ∧ r5 < (312 : Int)) ∧ call m_M_place [.inl x1, .inl x6, .inl x7] s6 (fun (r7 : Int) (s8 : Mem) =>
          (0 ≤ r7 ∧ r7 < (312 : Int)) ∧ (0 ≤ r5 ∧ r5 < (312 : Int)) ∧ cut 102 [some (.inr (.inr 49)), some (.inl x1), none, none, some (.inl x4), some (.inl x5), some (.inl x6), some (.inl (w32 (x7 + 1))), none] [] (mset s8 54 r5.toNat (w32 ((s6 54 r5.toNat) + (s8 54 r7.toNat))))))) ∧
      (x7 ≤ x5 →
        call m_M_place [.inl (σ 49 6), .inl x6, .inl x7] σ (fun (r1 : Int) (s2 : Mem) =>
        (0 ≤ r1 ∧ r1 < (312 : Int)) ∧ call m_M_place [.inl x1, .inl x6, .inl x7] s2 (fun (r3 : Int) (s4 : Mem) =>
          (0 ≤ r3 ∧ r3 < (312 : Int)) ∧ (0 ≤ r1 ∧ r1 < (312 : Int)) ∧ cut 102 [some (.inr (.inr 49)), some (.inl x1), none, none, some (.inl x4), some (.inl x5), some (.inl x6), some (.inl (w32 (x7 + 1))), none] [] (mset s4 54 r1.toNat (w32 ((s2 54 r1.toNat) + (s4 54 r3.toNat))))))))) ∧
  ((σ 53 x1.toNat) ≤ x7 →
    cut 90 [some (.inr (.inr 49)), some (.inl x1), none, none, some (.inl x4), some (.inl x5), some (.inl (w32 (x6 + 1))), none, none] [] σ)) : seg none call c_M_meld false Q cut 2000 true (toPc 102 c_M_meld) [some (.inr (.inr 49)), some (.inl x1), none, none, some (.inl x4), some (.inl x5), some (.inl x6), some (.inl x7), none] [] σ := h
theorem e_M_meld_102 {d : Nat} {Q : Int → Mem → Prop} {x1 : Int} {x4 : Int} {x5 : Int} {x6 : Int} {x7 : Int} {σ : Mem} (h :
  (0 ≤ x1 ∧ x1 < (13 : Int)) ∧ (x7 < (σ 53 x1.toNat) →
    (x7 = x5 →
      wp d m_M_place [.inl (σ 49 6), .inl x6, .inl x4] σ (fun (r9 : Int) (s10 : Mem) =>
      (0 ≤ r9 ∧ r9 < (312 : Int)) ∧ wp d m_M_place [.inl x1, .inl x6, .inl x7] s10 (fun (r11 : Int) (s12 : Mem) =>
        (0 ≤ r11 ∧ r11 < (312 : Int)) ∧ (0 ≤ r9 ∧ r9 < (312 : Int)) ∧ K_M_meld_102 d Q x1 x4 x5 x6 (w32 (x7 + 1)) (mset s12 54 r9.toNat (w32 ((s10 54 r9.toNat) + (s12 54 r11.toNat))))))) ∧
    (¬ x7 = x5 →
      (x5 < x7 →
        wp d m_M_place [.inl (σ 49 6), .inl x6, .inl (w32 (x7 - 1))] σ (fun (r5 : Int) (s6 : Mem) =>
        (0 ≤ r5 ∧ r5 < (312 : Int)) ∧ wp d m_M_place [.inl x1, .inl x6, .inl x7] s6 (fun (r7 : Int) (s8 : Mem) =>
          (0 ≤ r7 ∧ r7 < (312 : Int)) ∧ (0 ≤ r5 ∧ r5 < (312 : Int)) ∧ K_M_meld_102 d Q x1 x4 x5 x6 (w32 (x7 + 1)) (mset s8 54 r5.toNat (w32 ((s6 54 r5.toNat) + (s8 54 r7.toNat))))))) ∧
      (x7 ≤ x5 →
        wp d m_M_place [.inl (σ 49 6), .inl x6, .inl x7] σ (fun (r1 : Int) (s2 : Mem) =>
        (0 ≤ r1 ∧ r1 < (312 : Int)) ∧ wp d m_M_place [.inl x1, .inl x6, .inl x7] s2 (fun (r3 : Int) (s4 : Mem) =>
          (0 ≤ r3 ∧ r3 < (312 : Int)) ∧ (0 ≤ r1 ∧ r1 < (312 : Int)) ∧ K_M_meld_102 d Q x1 x4 x5 x6 (w32 (x7 + 1)) (mset s4 54 r1.toNat (w32 ((s2 54 r1.toNat) + (s4 54 r3.toNat))))))))) ∧
  ((σ 53 x1.toNat) ≤ x7 → K_M_meld_90 d Q x1 x4 x5 (w32 (x6 + 1)) σ)) : K_M_meld_102 d Q x1 x4 x5 x6 x7 σ := XX_intro (g_M_meld_102 (call := wp d) (cut := XX none (wp d) c_M_meld false Q) (Q := Q) (x1 := x1) (x4 := x4) (x5 := x5) (x6 := x6) (x7 := x7) (σ := σ) (h))
theorem g_M_signs {call : Nat → List AV → Mem → (Int → Mem → Prop) → Prop} {cut : Nat → Lo → List AV → Mem → Prop} {Q : Int → Mem → Prop} {a1 : Int} {σ : Mem} (h :
  ((σ 49 0) = 0 →
    call m_M_refuse [.inr (.inr 49), .inl (-3)] σ (fun (r5 : Int) (s6 : Mem) => Q r5 s6)) ∧
  (¬ (σ 49 0) = 0 →
    call m_M_isLook [.inr (.inr 49), .inl a1] σ (fun (r1 : Int) (s2 : Mem) =>
    (r1 = 0 →
        call m_M_refuse [.inr (.inr 49), .inl (-1)] s2 (fun (r3 : Int) (s4 : Mem) => Q r3 s4)) ∧
      (¬ r1 = 0 → (0 ≤ a1 ∧ a1 < (13 : Int)) ∧ Q (s2 53 a1.toNat) s2)))) : seg none call c_M_signs false Q cut 2000 true (toPc 0 c_M_signs) [some (.inr (.inr 49)), some (.inl a1)] [] σ := h
theorem e_M_signs {d : Nat} {Q : Int → Mem → Prop} {a1 : Int} {σ : Mem} (h :
  ((σ 49 0) = 0 →
    wp d m_M_refuse [.inr (.inr 49), .inl (-3)] σ (fun (r5 : Int) (s6 : Mem) => Q r5 s6)) ∧
  (¬ (σ 49 0) = 0 →
    wp d m_M_isLook [.inr (.inr 49), .inl a1] σ (fun (r1 : Int) (s2 : Mem) =>
    (r1 = 0 →
        wp d m_M_refuse [.inr (.inr 49), .inl (-1)] s2 (fun (r3 : Int) (s4 : Mem) => Q r3 s4)) ∧
      (¬ r1 = 0 → (0 ≤ a1 ∧ a1 < (13 : Int)) ∧ Q (s2 53 a1.toNat) s2)))) : wp (d + 1) m_M_signs [.inr (.inr 49), .inl a1] σ Q := wp_in rfl (XX_intro (g_M_signs (call := wp d) (cut := XX none (wp d) c_M_signs false Q) (Q := Q) (a1 := a1) (σ := σ) (h)))
theorem g_M_parts {call : Nat → List AV → Mem → (Int → Mem → Prop) → Prop} {cut : Nat → Lo → List AV → Mem → Prop} {Q : Int → Mem → Prop} {a1 : Int} {a2 : Int} {a3 : Int} {σ : Mem} (h :
  ((σ 49 0) = 0 →
    call m_M_refuse [.inr (.inr 49), .inl (-3)] σ (fun (r11 : Int) (s12 : Mem) => Q r11 s12)) ∧
  (¬ (σ 49 0) = 0 →
    call m_M_isSign [.inr (.inr 49), .inl a1, .inl a3] σ (fun (r1 : Int) (s2 : Mem) =>
    (r1 = 0 →
        call m_M_refuse [.inr (.inr 49), .inl (-1)] s2 (fun (r3 : Int) (s4 : Mem) => Q r3 s4)) ∧
      (¬ r1 = 0 →
        call m_M_isTruth [.inr (.inr 49), .inl a2] s2 (fun (r5 : Int) (s6 : Mem) =>
        (r5 = 0 →
            call m_M_refuse [.inr (.inr 49), .inl (-1)] s6 (fun (r7 : Int) (s8 : Mem) => Q r7 s8)) ∧
          (¬ r5 = 0 →
            call m_M_place [.inl a1, .inl a2, .inl a3] s6 (fun (r9 : Int) (s10 : Mem) => (0 ≤ r9 ∧ r9 < (312 : Int)) ∧ Q (s10 54 r9.toNat) s10))))))) : seg none call c_M_parts false Q cut 2000 true (toPc 0 c_M_parts) [some (.inr (.inr 49)), some (.inl a1), some (.inl a2), some (.inl a3)] [] σ := h
theorem e_M_parts {d : Nat} {Q : Int → Mem → Prop} {a1 : Int} {a2 : Int} {a3 : Int} {σ : Mem} (h :
  ((σ 49 0) = 0 →
    wp d m_M_refuse [.inr (.inr 49), .inl (-3)] σ (fun (r11 : Int) (s12 : Mem) => Q r11 s12)) ∧
  (¬ (σ 49 0) = 0 →
    wp d m_M_isSign [.inr (.inr 49), .inl a1, .inl a3] σ (fun (r1 : Int) (s2 : Mem) =>
    (r1 = 0 →
        wp d m_M_refuse [.inr (.inr 49), .inl (-1)] s2 (fun (r3 : Int) (s4 : Mem) => Q r3 s4)) ∧
      (¬ r1 = 0 →
        wp d m_M_isTruth [.inr (.inr 49), .inl a2] s2 (fun (r5 : Int) (s6 : Mem) =>
        (r5 = 0 →
            wp d m_M_refuse [.inr (.inr 49), .inl (-1)] s6 (fun (r7 : Int) (s8 : Mem) => Q r7 s8)) ∧
          (¬ r5 = 0 →
            wp d m_M_place [.inl a1, .inl a2, .inl a3] s6 (fun (r9 : Int) (s10 : Mem) => (0 ≤ r9 ∧ r9 < (312 : Int)) ∧ Q (s10 54 r9.toNat) s10))))))) : wp (d + 1) m_M_parts [.inr (.inr 49), .inl a1, .inl a2, .inl a3] σ Q := wp_in rfl (XX_intro (g_M_parts (call := wp d) (cut := XX none (wp d) c_M_parts false Q) (Q := Q) (a1 := a1) (a2 := a2) (a3 := a3) (σ := σ) (h)))
abbrev K_M_leave_2 (d : Nat) (Q : Int → Mem → Prop) (x1 : Int) (x2 : Int) (x3 : Int) (σ : Mem) : Prop := XX none (wp d) c_M_leave true Q 2 [some (.inr (.inr 49)), some (.inl x1), some (.inl x2), some (.inl x3)] [] σ
theorem g_M_leave {call : Nat → List AV → Mem → (Int → Mem → Prop) → Prop} {cut : Nat → Lo → List AV → Mem → Prop} {Q : Int → Mem → Prop} {a1 : Int} {a2 : Int} {σ : Mem} (h :
  cut 2 [some (.inr (.inr 49)), some (.inl a1), some (.inl a2), some (.inl 0)] [] σ) : seg none call c_M_leave true Q cut 2000 true (toPc 0 c_M_leave) [some (.inr (.inr 49)), some (.inl a1), some (.inl a2), none] [] σ := h
theorem e_M_leave {d : Nat} {Q : Int → Mem → Prop} {a1 : Int} {a2 : Int} {σ : Mem} (h :
  K_M_leave_2 d Q a1 a2 0 σ) : wp (d + 1) m_M_leave [.inr (.inr 49), .inl a1, .inl a2] σ Q := wp_in rfl (XX_intro (g_M_leave (call := wp d) (cut := XX none (wp d) c_M_leave true Q) (Q := Q) (a1 := a1) (a2 := a2) (σ := σ) (h)))
theorem g_M_leave_2 {call : Nat → List AV → Mem → (Int → Mem → Prop) → Prop} {cut : Nat → Lo → List AV → Mem → Prop} {Q : Int → Mem → Prop} {x1 : Int} {x2 : Int} {x3 : Int} {σ : Mem} (h :
  (x3 < 4 →
    (x3 < (σ 49 0) →
      (0 ≤ x3 ∧ x3 < (4 : Int)) ∧ call m_M_place [.inl x1, .inl x3, .inl x2] σ (fun (r3 : Int) (s4 : Mem) =>
      (0 ≤ r3 ∧ r3 < (312 : Int)) ∧ (0 ≤ x3 ∧ x3 < (4 : Int)) ∧ cut 2 [some (.inr (.inr 49)), some (.inl x1), some (.inl x2), some (.inl (w32 (x3 + 1)))] [] (mset s4 67 x3.toNat (w64 ((σ 51 x3.toNat) * (s4 54 r3.toNat)))))) ∧
    ((σ 49 0) ≤ x3 →
      (0 ≤ x3 ∧ x3 < (4 : Int)) ∧ cut 2 [some (.inr (.inr 49)), some (.inl x1), some (.inl x2), some (.inl (w32 (x3 + 1)))] [] (mset σ 67 x3.toNat 0))) ∧
  (4 ≤ x3 →
    call m_M_allMass [.inr (.inr 49)] σ (fun (r1 : Int) (s2 : Mem) => (0 < r1 → isB 1 ∧ Q 1 s2) ∧
      (r1 ≤ 0 → isB 0 ∧ Q 0 s2)))) : seg none call c_M_leave true Q cut 2000 true (toPc 2 c_M_leave) [some (.inr (.inr 49)), some (.inl x1), some (.inl x2), some (.inl x3)] [] σ := h
theorem e_M_leave_2 {d : Nat} {Q : Int → Mem → Prop} {x1 : Int} {x2 : Int} {x3 : Int} {σ : Mem} (h :
  (x3 < 4 →
    (x3 < (σ 49 0) →
      (0 ≤ x3 ∧ x3 < (4 : Int)) ∧ wp d m_M_place [.inl x1, .inl x3, .inl x2] σ (fun (r3 : Int) (s4 : Mem) =>
      (0 ≤ r3 ∧ r3 < (312 : Int)) ∧ (0 ≤ x3 ∧ x3 < (4 : Int)) ∧ K_M_leave_2 d Q x1 x2 (w32 (x3 + 1)) (mset s4 67 x3.toNat (w64 ((σ 51 x3.toNat) * (s4 54 r3.toNat)))))) ∧
    ((σ 49 0) ≤ x3 →
      (0 ≤ x3 ∧ x3 < (4 : Int)) ∧ K_M_leave_2 d Q x1 x2 (w32 (x3 + 1)) (mset σ 67 x3.toNat 0))) ∧
  (4 ≤ x3 →
    wp d m_M_allMass [.inr (.inr 49)] σ (fun (r1 : Int) (s2 : Mem) => (0 < r1 → Q 1 s2) ∧
      (r1 ≤ 0 → Q 0 s2)))) : K_M_leave_2 d Q x1 x2 x3 σ := XX_intro (g_M_leave_2 (call := wp d) (cut := XX none (wp d) c_M_leave true Q) (Q := Q) (x1 := x1) (x2 := x2) (x3 := x3) (σ := σ) (⟨fun z3 => (h).1 z3, fun z3 => wp_conseq (fun _ _ z2 => ⟨fun z1 => ⟨isB1, ((z2).1 z1)⟩, fun z1 => ⟨isB0, ((z2).2 z1)⟩⟩) (((h).2 z3))⟩))
abbrev K_M_leaves_55 (d : Nat) (Q : Int → Mem → Prop) (x3 : Int) (x4 : Int) (x6 : Int) (σ : Mem) : Prop := XX none (wp d) c_M_leaves false Q 55 [some (.inr (.inr 49)), none, none, some (.inl x3), some (.inr (.inl x4)), none, some (.inl x6)] [] σ
theorem g_M_leaves {call : Nat → List AV → Mem → (Int → Mem → Prop) → Prop} {cut : Nat → Lo → List AV → Mem → Prop} {Q : Int → Mem → Prop} {a1 : Int} {a2 : Int} {a3 : Int} {σ : Mem} (h :
  ((σ 49 0) = 0 →
    call m_M_refuse [.inr (.inr 49), .inl (-3)] σ (fun (r11 : Int) (s12 : Mem) => Q r11 s12)) ∧
  (¬ (σ 49 0) = 0 →
    call m_M_isSign [.inr (.inr 49), .inl a1, .inl a2] σ (fun (r1 : Int) (s2 : Mem) =>
    (r1 = 0 →
        call m_M_refuse [.inr (.inr 49), .inl (-1)] s2 (fun (r3 : Int) (s4 : Mem) => Q r3 s4)) ∧
      (¬ r1 = 0 →
        call m_M_isTruth [.inr (.inr 49), .inl a3] s2 (fun (r5 : Int) (s6 : Mem) =>
        (r5 = 0 →
            call m_M_refuse [.inr (.inr 49), .inl (-1)] s6 (fun (r9 : Int) (s10 : Mem) => Q r9 s10)) ∧
          (¬ r5 = 0 →
            call m_M_leave [.inr (.inr 49), .inl a1, .inl a2] s6 (fun (r7 : Int) (s8 : Mem) =>
            (r7 = 0 → Q (-9) s8) ∧
              (¬ r7 = 0 →
                cut 55 [some (.inr (.inr 49)), none, none, some (.inl a3), some (.inr (.inl 0)), none, some (.inl 0)] [] s8)))))))) : seg none call c_M_leaves false Q cut 2000 true (toPc 0 c_M_leaves) [some (.inr (.inr 49)), some (.inl a1), some (.inl a2), some (.inl a3), none, none, none] [] σ := h
theorem e_M_leaves {d : Nat} {Q : Int → Mem → Prop} {a1 : Int} {a2 : Int} {a3 : Int} {σ : Mem} (h :
  ((σ 49 0) = 0 →
    wp d m_M_refuse [.inr (.inr 49), .inl (-3)] σ (fun (r11 : Int) (s12 : Mem) => Q r11 s12)) ∧
  (¬ (σ 49 0) = 0 →
    wp d m_M_isSign [.inr (.inr 49), .inl a1, .inl a2] σ (fun (r1 : Int) (s2 : Mem) =>
    (r1 = 0 →
        wp d m_M_refuse [.inr (.inr 49), .inl (-1)] s2 (fun (r3 : Int) (s4 : Mem) => Q r3 s4)) ∧
      (¬ r1 = 0 →
        wp d m_M_isTruth [.inr (.inr 49), .inl a3] s2 (fun (r5 : Int) (s6 : Mem) =>
        (r5 = 0 →
            wp d m_M_refuse [.inr (.inr 49), .inl (-1)] s6 (fun (r9 : Int) (s10 : Mem) => Q r9 s10)) ∧
          (¬ r5 = 0 →
            wp d m_M_leave [.inr (.inr 49), .inl a1, .inl a2] s6 (fun (r7 : Int) (s8 : Mem) =>
            (r7 = 0 → Q (-9) s8) ∧
              (¬ r7 = 0 → K_M_leaves_55 d Q a3 0 0 s8)))))))) : wp (d + 1) m_M_leaves [.inr (.inr 49), .inl a1, .inl a2, .inl a3] σ Q := wp_in rfl (XX_intro (g_M_leaves (call := wp d) (cut := XX none (wp d) c_M_leaves false Q) (Q := Q) (a1 := a1) (a2 := a2) (a3 := a3) (σ := σ) (h)))
theorem g_M_leaves_55 {call : Nat → List AV → Mem → (Int → Mem → Prop) → Prop} {cut : Nat → Lo → List AV → Mem → Prop} {Q : Int → Mem → Prop} {x3 : Int} {x4 : Int} {x6 : Int} {σ : Mem} (h :
  (x6 < (σ 49 0) →
    (0 ≤ x6 ∧ x6 < (4 : Int)) ∧ call m_M_divisor [.inr (.inl x4), .inr (.inl (σ 67 x6.toNat))] σ (fun (r1 : Int) (s2 : Mem) =>
    cut 55 [some (.inr (.inr 49)), none, none, some (.inl x3), some (.inr (.inl r1)), none, some (.inl (w32 (x6 + 1)))] [] s2)) ∧
  ((σ 49 0) ≤ x6 →
    (0 ≤ x3 ∧ x3 < (4 : Int)) ∧ (¬ x4 = 0) ∧ Q (w32 (w64 (Int.tdiv (σ 67 x3.toNat) x4))) σ)) : seg none call c_M_leaves false Q cut 2000 true (toPc 55 c_M_leaves) [some (.inr (.inr 49)), none, none, some (.inl x3), some (.inr (.inl x4)), none, some (.inl x6)] [] σ := h
theorem e_M_leaves_55 {d : Nat} {Q : Int → Mem → Prop} {x3 : Int} {x4 : Int} {x6 : Int} {σ : Mem} (h :
  (x6 < (σ 49 0) →
    (0 ≤ x6 ∧ x6 < (4 : Int)) ∧ wp d m_M_divisor [.inr (.inl x4), .inr (.inl (σ 67 x6.toNat))] σ (fun (r1 : Int) (s2 : Mem) => K_M_leaves_55 d Q x3 r1 (w32 (x6 + 1)) s2)) ∧
  ((σ 49 0) ≤ x6 →
    (0 ≤ x3 ∧ x3 < (4 : Int)) ∧ (¬ x4 = 0) ∧ Q (w32 (w64 (Int.tdiv (σ 67 x3.toNat) x4))) σ)) : K_M_leaves_55 d Q x3 x4 x6 σ := XX_intro (g_M_leaves_55 (call := wp d) (cut := XX none (wp d) c_M_leaves false Q) (Q := Q) (x3 := x3) (x4 := x4) (x6 := x6) (σ := σ) (h))
theorem g_M_does {call : Nat → List AV → Mem → (Int → Mem → Prop) → Prop} {cut : Nat → Lo → List AV → Mem → Prop} {Q : Int → Mem → Prop} {a1 : Int} {a2 : Int} {σ : Mem} (h :
  ((σ 49 0) = 0 →
    call m_M_refuse [.inr (.inr 49), .inl (-3)] σ (fun (r9 : Int) (s10 : Mem) => Q r9 s10)) ∧
  (¬ (σ 49 0) = 0 →
    call m_M_isSign [.inr (.inr 49), .inl a1, .inl a2] σ (fun (r1 : Int) (s2 : Mem) =>
    (r1 = 0 →
        call m_M_refuse [.inr (.inr 49), .inl (-1)] s2 (fun (r7 : Int) (s8 : Mem) => Q r7 s8)) ∧
      (¬ r1 = 0 →
        call m_M_leave [.inr (.inr 49), .inl a1, .inl a2] s2 (fun (r3 : Int) (s4 : Mem) =>
        (r3 = 0 → Q (-9) s4) ∧
          (¬ r3 = 0 →
            call m_M_doneBy [.inr (.inr 49), .inl 0] s4 (fun (r5 : Int) (s6 : Mem) => Q r5 s6))))))) : seg none call c_M_does false Q cut 2000 true (toPc 0 c_M_does) [some (.inr (.inr 49)), some (.inl a1), some (.inl a2)] [] σ := h
theorem e_M_does {d : Nat} {Q : Int → Mem → Prop} {a1 : Int} {a2 : Int} {σ : Mem} (h :
  ((σ 49 0) = 0 →
    wp d m_M_refuse [.inr (.inr 49), .inl (-3)] σ (fun (r9 : Int) (s10 : Mem) => Q r9 s10)) ∧
  (¬ (σ 49 0) = 0 →
    wp d m_M_isSign [.inr (.inr 49), .inl a1, .inl a2] σ (fun (r1 : Int) (s2 : Mem) =>
    (r1 = 0 →
        wp d m_M_refuse [.inr (.inr 49), .inl (-1)] s2 (fun (r7 : Int) (s8 : Mem) => Q r7 s8)) ∧
      (¬ r1 = 0 →
        wp d m_M_leave [.inr (.inr 49), .inl a1, .inl a2] s2 (fun (r3 : Int) (s4 : Mem) =>
        (r3 = 0 → Q (-9) s4) ∧
          (¬ r3 = 0 →
            wp d m_M_doneBy [.inr (.inr 49), .inl 0] s4 (fun (r5 : Int) (s6 : Mem) => Q r5 s6))))))) : wp (d + 1) m_M_does [.inr (.inr 49), .inl a1, .inl a2] σ Q := wp_in rfl (XX_intro (g_M_does (call := wp d) (cut := XX none (wp d) c_M_does false Q) (Q := Q) (a1 := a1) (a2 := a2) (σ := σ) (h)))
abbrev K_M_allBefore_4 (d : Nat) (Q : Int → Mem → Prop) (x1 : Int) (x3 : Int) (σ : Mem) : Prop := XX none (wp d) c_M_allBefore false Q 4 [some (.inr (.inr 49)), some (.inr (.inl x1)), none, some (.inl x3)] [] σ
theorem g_M_allBefore {call : Nat → List AV → Mem → (Int → Mem → Prop) → Prop} {cut : Nat → Lo → List AV → Mem → Prop} {Q : Int → Mem → Prop}  {σ : Mem} (h :
  cut 4 [some (.inr (.inr 49)), some (.inr (.inl 0)), none, some (.inl 0)] [] σ) : seg none call c_M_allBefore false Q cut 2000 true (toPc 0 c_M_allBefore) [some (.inr (.inr 49)), none, none, none] [] σ := h
theorem e_M_allBefore {d : Nat} {Q : Int → Mem → Prop}  {σ : Mem} (h :
  K_M_allBefore_4 d Q 0 0 σ) : wp (d + 1) m_M_allBefore [.inr (.inr 49)] σ Q := wp_in rfl (XX_intro (g_M_allBefore (call := wp d) (cut := XX none (wp d) c_M_allBefore false Q) (Q := Q)  (σ := σ) (h)))
theorem g_M_allBefore_4 {call : Nat → List AV → Mem → (Int → Mem → Prop) → Prop} {cut : Nat → Lo → List AV → Mem → Prop} {Q : Int → Mem → Prop} {x1 : Int} {x3 : Int} {σ : Mem} (h :
  (x3 < (σ 49 0) →
    (0 ≤ x3 ∧ x3 < (4 : Int)) ∧ cut 4 [some (.inr (.inr 49)), some (.inr (.inl (w64 (x1 + (σ 51 x3.toNat))))), none, some (.inl (w32 (x3 + 1)))] [] σ) ∧
  ((σ 49 0) ≤ x3 → Q x1 σ)) : seg none call c_M_allBefore false Q cut 2000 true (toPc 4 c_M_allBefore) [some (.inr (.inr 49)), some (.inr (.inl x1)), none, some (.inl x3)] [] σ := h
theorem e_M_allBefore_4 {d : Nat} {Q : Int → Mem → Prop} {x1 : Int} {x3 : Int} {σ : Mem} (h :
  (x3 < (σ 49 0) →
    (0 ≤ x3 ∧ x3 < (4 : Int)) ∧ K_M_allBefore_4 d Q (w64 (x1 + (σ 51 x3.toNat))) (w32 (x3 + 1)) σ) ∧
  ((σ 49 0) ≤ x3 → Q x1 σ)) : K_M_allBefore_4 d Q x1 x3 σ := XX_intro (g_M_allBefore_4 (call := wp d) (cut := XX none (wp d) c_M_allBefore false Q) (Q := Q) (x1 := x1) (x3 := x3) (σ := σ) (h))
abbrev K_M_gotOf_6 (d : Nat) (Q : Int → Mem → Prop) (x1 : Int) (x2 : Int) (x3 : Int) (x4 : Int) (x6 : Int) (σ : Mem) : Prop := XX none (wp d) c_M_gotOf false Q 6 [some (.inr (.inr 49)), some (.inl x1), some (.inl x2), some (.inl x3), some (.inr (.inl x4)), none, some (.inl x6)] [] σ
theorem g_M_gotOf {call : Nat → List AV → Mem → (Int → Mem → Prop) → Prop} {cut : Nat → Lo → List AV → Mem → Prop} {Q : Int → Mem → Prop} {a1 : Int} {a2 : Int} {a3 : Int} {σ : Mem} (h :
  cut 6 [some (.inr (.inr 49)), some (.inl a1), some (.inl a2), some (.inl a3), some (.inr (.inl 0)), none, some (.inl 0)] [] σ) : seg none call c_M_gotOf false Q cut 2000 true (toPc 0 c_M_gotOf) [some (.inr (.inr 49)), some (.inl a1), some (.inl a2), some (.inl a3), none, none, none] [] σ := h
theorem e_M_gotOf {d : Nat} {Q : Int → Mem → Prop} {a1 : Int} {a2 : Int} {a3 : Int} {σ : Mem} (h :
  K_M_gotOf_6 d Q a1 a2 a3 0 0 σ) : wp (d + 1) m_M_gotOf [.inr (.inr 49), .inl a1, .inl a2, .inl a3] σ Q := wp_in rfl (XX_intro (g_M_gotOf (call := wp d) (cut := XX none (wp d) c_M_gotOf false Q) (Q := Q) (a1 := a1) (a2 := a2) (a3 := a3) (σ := σ) (h)))
theorem g_M_gotOf_6 {call : Nat → List AV → Mem → (Int → Mem → Prop) → Prop} {cut : Nat → Lo → List AV → Mem → Prop} {Q : Int → Mem → Prop} {x1 : Int} {x2 : Int} {x3 : Int} {x4 : Int} {x6 : Int} {σ : Mem} (h :
  (0 ≤ x1 ∧ x1 < (13 : Int)) ∧ (x6 < (σ 53 x1.toNat) →
    call m_M_leave [.inr (.inr 49), .inl x1, .inl x6] σ (fun (r1 : Int) (s2 : Mem) =>
    (r1 = 0 →
        cut 6 [some (.inr (.inr 49)), some (.inl x1), some (.inl x2), some (.inl x3), some (.inr (.inl (w64 (x4 + 0)))), none, some (.inl (w32 (x6 + 1)))] [] s2) ∧
      (¬ r1 = 0 →
        call m_M_doneBy [.inr (.inr 49), .inl x2] s2 (fun (r3 : Int) (s4 : Mem) =>
        call m_M_sumOf [.inr (.inr 49), .inl x3, .inl r3] s4 (fun (r5 : Int) (s6 : Mem) =>
          cut 6 [some (.inr (.inr 49)), some (.inl x1), some (.inl x2), some (.inl x3), some (.inr (.inl (w64 (x4 + r5)))), none, some (.inl (w32 (x6 + 1)))] [] s6))))) ∧
  ((σ 53 x1.toNat) ≤ x6 → Q x4 σ)) : seg none call c_M_gotOf false Q cut 2000 true (toPc 6 c_M_gotOf) [some (.inr (.inr 49)), some (.inl x1), some (.inl x2), some (.inl x3), some (.inr (.inl x4)), none, some (.inl x6)] [] σ := h
theorem e_M_gotOf_6 {d : Nat} {Q : Int → Mem → Prop} {x1 : Int} {x2 : Int} {x3 : Int} {x4 : Int} {x6 : Int} {σ : Mem} (h :
  (0 ≤ x1 ∧ x1 < (13 : Int)) ∧ (x6 < (σ 53 x1.toNat) →
    wp d m_M_leave [.inr (.inr 49), .inl x1, .inl x6] σ (fun (r1 : Int) (s2 : Mem) =>
    (r1 = 0 → K_M_gotOf_6 d Q x1 x2 x3 (w64 (x4 + 0)) (w32 (x6 + 1)) s2) ∧
      (¬ r1 = 0 →
        wp d m_M_doneBy [.inr (.inr 49), .inl x2] s2 (fun (r3 : Int) (s4 : Mem) =>
        wp d m_M_sumOf [.inr (.inr 49), .inl x3, .inl r3] s4 (fun (r5 : Int) (s6 : Mem) => K_M_gotOf_6 d Q x1 x2 x3 (w64 (x4 + r5)) (w32 (x6 + 1)) s6))))) ∧
  ((σ 53 x1.toNat) ≤ x6 → Q x4 σ)) : K_M_gotOf_6 d Q x1 x2 x3 x4 x6 σ := XX_intro (g_M_gotOf_6 (call := wp d) (cut := XX none (wp d) c_M_gotOf false Q) (Q := Q) (x1 := x1) (x2 := x2) (x3 := x3) (x4 := x4) (x6 := x6) (σ := σ) (h))
abbrev K_M_gotPlain_2 (d : Nat) (Q : Int → Mem → Prop) (x1 : Int) (x2 : Int) (x3 : Int) (σ : Mem) : Prop := XX none (wp d) c_M_gotPlain false Q 2 [some (.inr (.inr 49)), some (.inl x1), some (.inl x2), some (.inl x3)] [] σ
theorem g_M_gotPlain {call : Nat → List AV → Mem → (Int → Mem → Prop) → Prop} {cut : Nat → Lo → List AV → Mem → Prop} {Q : Int → Mem → Prop} {a1 : Int} {a2 : Int} {σ : Mem} (h :
  cut 2 [some (.inr (.inr 49)), some (.inl a1), some (.inl a2), some (.inl 0)] [] σ) : seg none call c_M_gotPlain false Q cut 2000 true (toPc 0 c_M_gotPlain) [some (.inr (.inr 49)), some (.inl a1), some (.inl a2), none] [] σ := h
theorem e_M_gotPlain {d : Nat} {Q : Int → Mem → Prop} {a1 : Int} {a2 : Int} {σ : Mem} (h :
  K_M_gotPlain_2 d Q a1 a2 0 σ) : wp (d + 1) m_M_gotPlain [.inr (.inr 49), .inl a1, .inl a2] σ Q := wp_in rfl (XX_intro (g_M_gotPlain (call := wp d) (cut := XX none (wp d) c_M_gotPlain false Q) (Q := Q) (a1 := a1) (a2 := a2) (σ := σ) (h)))
theorem g_M_gotPlain_2 {call : Nat → List AV → Mem → (Int → Mem → Prop) → Prop} {cut : Nat → Lo → List AV → Mem → Prop} {Q : Int → Mem → Prop} {x1 : Int} {x2 : Int} {x3 : Int} {σ : Mem} (h :
  (x3 < 4 →
    (x3 < (σ 49 0) →
      (0 ≤ x3 ∧ x3 < (4 : Int)) ∧ (0 ≤ x3 ∧ x3 < (4 : Int)) ∧ cut 2 [some (.inr (.inr 49)), some (.inl x1), some (.inl x2), some (.inl (w32 (x3 + 1)))] [] (mset σ 67 x3.toNat (w64 (60 * (σ 51 x3.toNat))))) ∧
    ((σ 49 0) ≤ x3 →
      (0 ≤ x3 ∧ x3 < (4 : Int)) ∧ cut 2 [some (.inr (.inr 49)), some (.inl x1), some (.inl x2), some (.inl (w32 (x3 + 1)))] [] (mset σ 67 x3.toNat 0))) ∧
  (4 ≤ x3 →
    call m_M_doneBy [.inr (.inr 49), .inl x1] σ (fun (r1 : Int) (s2 : Mem) =>
    call m_M_sumOf [.inr (.inr 49), .inl x2, .inl r1] s2 (fun (r3 : Int) (s4 : Mem) => Q r3 s4)))) : seg none call c_M_gotPlain false Q cut 2000 true (toPc 2 c_M_gotPlain) [some (.inr (.inr 49)), some (.inl x1), some (.inl x2), some (.inl x3)] [] σ := h
theorem e_M_gotPlain_2 {d : Nat} {Q : Int → Mem → Prop} {x1 : Int} {x2 : Int} {x3 : Int} {σ : Mem} (h :
  (x3 < 4 →
    (x3 < (σ 49 0) →
      (0 ≤ x3 ∧ x3 < (4 : Int)) ∧ (0 ≤ x3 ∧ x3 < (4 : Int)) ∧ K_M_gotPlain_2 d Q x1 x2 (w32 (x3 + 1)) (mset σ 67 x3.toNat (w64 (60 * (σ 51 x3.toNat))))) ∧
    ((σ 49 0) ≤ x3 →
      (0 ≤ x3 ∧ x3 < (4 : Int)) ∧ K_M_gotPlain_2 d Q x1 x2 (w32 (x3 + 1)) (mset σ 67 x3.toNat 0))) ∧
  (4 ≤ x3 →
    wp d m_M_doneBy [.inr (.inr 49), .inl x1] σ (fun (r1 : Int) (s2 : Mem) =>
    wp d m_M_sumOf [.inr (.inr 49), .inl x2, .inl r1] s2 (fun (r3 : Int) (s4 : Mem) => Q r3 s4)))) : K_M_gotPlain_2 d Q x1 x2 x3 σ := XX_intro (g_M_gotPlain_2 (call := wp d) (cut := XX none (wp d) c_M_gotPlain false Q) (Q := Q) (x1 := x1) (x2 := x2) (x3 := x3) (σ := σ) (h))
theorem g_M_wrongLook {call : Nat → List AV → Mem → (Int → Mem → Prop) → Prop} {cut : Nat → Lo → List AV → Mem → Prop} {Q : Int → Mem → Prop} {a1 : Int} {a2 : Int} {σ : Mem} (h :
  call m_M_isPart [.inl a2] σ (fun (r1 : Int) (s2 : Mem) =>
  (r1 = 0 → Q (-2) s2) ∧
    (¬ r1 = 0 →
      ((s2 49 0) = 0 → Q (-3) s2) ∧
      (¬ (s2 49 0) = 0 →
        call m_M_isLook [.inr (.inr 49), .inl a1] s2 (fun (r3 : Int) (s4 : Mem) => (r3 = 0 → Q (-1) s4) ∧
          (¬ r3 = 0 → Q 0 s4)))))) : seg none call c_M_wrongLook false Q cut 2000 true (toPc 0 c_M_wrongLook) [some (.inr (.inr 49)), some (.inl a1), some (.inl a2)] [] σ := h
theorem e_M_wrongLook {d : Nat} {Q : Int → Mem → Prop} {a1 : Int} {a2 : Int} {σ : Mem} (h :
  wp d m_M_isPart [.inl a2] σ (fun (r1 : Int) (s2 : Mem) =>
  (r1 = 0 → Q (-2) s2) ∧
    (¬ r1 = 0 →
      ((s2 49 0) = 0 → Q (-3) s2) ∧
      (¬ (s2 49 0) = 0 →
        wp d m_M_isLook [.inr (.inr 49), .inl a1] s2 (fun (r3 : Int) (s4 : Mem) => (r3 = 0 → Q (-1) s4) ∧
          (¬ r3 = 0 → Q 0 s4)))))) : wp (d + 1) m_M_wrongLook [.inr (.inr 49), .inl a1, .inl a2] σ Q := wp_in rfl (XX_intro (g_M_wrongLook (call := wp d) (cut := XX none (wp d) c_M_wrongLook false Q) (Q := Q) (a1 := a1) (a2 := a2) (σ := σ) (h)))
theorem g_M_worth {call : Nat → List AV → Mem → (Int → Mem → Prop) → Prop} {cut : Nat → Lo → List AV → Mem → Prop} {Q : Int → Mem → Prop} {a1 : Int} {a2 : Int} {a3 : Int} {σ : Mem} (h :
  call m_M_wrongLook [.inr (.inr 49), .inl a1, .inl a3] σ (fun (r1 : Int) (s2 : Mem) =>
  (r1 < 0 →
      call m_M_refuseFar [.inr (.inr 49), .inl r1] s2 (fun (r15 : Int) (s16 : Mem) => Q r15 s16)) ∧
    (0 ≤ r1 →
      (a2 = 0 →
        call m_M_gotOf [.inr (.inr 49), .inl a1, .inl 0, .inl 1] s2 (fun (r3 : Int) (s4 : Mem) =>
        call m_M_allBefore [.inr (.inr 49)] s4 (fun (r5 : Int) (s6 : Mem) =>
          call m_M_fraction [.inr (.inl r3), .inr (.inl (w64 (60 * r5))), .inl a3] s6 (fun (r7 : Int) (s8 : Mem) => Q r7 s8)))) ∧
      (¬ a2 = 0 →
        call m_M_gotOf [.inr (.inr 49), .inl a1, .inl 0, .inl 0] s2 (fun (r9 : Int) (s10 : Mem) =>
        call m_M_allBefore [.inr (.inr 49)] s10 (fun (r11 : Int) (s12 : Mem) =>
          call m_M_fraction [.inr (.inl r9), .inr (.inl (w64 (60 * r11))), .inl a3] s12 (fun (r13 : Int) (s14 : Mem) => Q r13 s14))))))) : seg none call c_M_worth false Q cut 2000 true (toPc 0 c_M_worth) [some (.inr (.inr 49)), some (.inl a1), some (.inl a2), some (.inl a3), none] [] σ := h
theorem e_M_worth {d : Nat} {Q : Int → Mem → Prop} {a1 : Int} {a2 : Int} {a3 : Int} {σ : Mem} (h :
  wp d m_M_wrongLook [.inr (.inr 49), .inl a1, .inl a3] σ (fun (r1 : Int) (s2 : Mem) =>
  (r1 < 0 →
      wp d m_M_refuseFar [.inr (.inr 49), .inl r1] s2 (fun (r15 : Int) (s16 : Mem) => Q r15 s16)) ∧
    (0 ≤ r1 →
      (a2 = 0 →
        wp d m_M_gotOf [.inr (.inr 49), .inl a1, .inl 0, .inl 1] s2 (fun (r3 : Int) (s4 : Mem) =>
        wp d m_M_allBefore [.inr (.inr 49)] s4 (fun (r5 : Int) (s6 : Mem) =>
          wp d m_M_fraction [.inr (.inl r3), .inr (.inl (w64 (60 * r5))), .inl a3] s6 (fun (r7 : Int) (s8 : Mem) => Q r7 s8)))) ∧
      (¬ a2 = 0 →
        wp d m_M_gotOf [.inr (.inr 49), .inl a1, .inl 0, .inl 0] s2 (fun (r9 : Int) (s10 : Mem) =>
        wp d m_M_allBefore [.inr (.inr 49)] s10 (fun (r11 : Int) (s12 : Mem) =>
          wp d m_M_fraction [.inr (.inl r9), .inr (.inl (w64 (60 * r11))), .inl a3] s12 (fun (r13 : Int) (s14 : Mem) => Q r13 s14))))))) : wp (d + 1) m_M_worth [.inr (.inr 49), .inl a1, .inl a2, .inl a3] σ Q := wp_in rfl (XX_intro (g_M_worth (call := wp d) (cut := XX none (wp d) c_M_worth false Q) (Q := Q) (a1 := a1) (a2 := a2) (a3 := a3) (σ := σ) (h)))
theorem g_M_harm {call : Nat → List AV → Mem → (Int → Mem → Prop) → Prop} {cut : Nat → Lo → List AV → Mem → Prop} {Q : Int → Mem → Prop} {a1 : Int} {a2 : Int} {σ : Mem} (h :
  call m_M_wrongLook [.inr (.inr 49), .inl a1, .inl a2] σ (fun (r1 : Int) (s2 : Mem) =>
  (r1 < 0 →
      call m_M_refuseFar [.inr (.inr 49), .inl r1] s2 (fun (r11 : Int) (s12 : Mem) => Q r11 s12)) ∧
    (0 ≤ r1 →
      call m_M_gotPlain [.inr (.inr 49), .inl 0, .inl 0] s2 (fun (r3 : Int) (s4 : Mem) =>
      call m_M_gotOf [.inr (.inr 49), .inl a1, .inl 0, .inl 0] s4 (fun (r5 : Int) (s6 : Mem) =>
        call m_M_allBefore [.inr (.inr 49)] s6 (fun (r7 : Int) (s8 : Mem) =>
          call m_M_fraction [.inr (.inl (w64 (r3 - r5))), .inr (.inl (w64 (60 * r7))), .inl a2] s8 (fun (r9 : Int) (s10 : Mem) => Q r9 s10))))))) : seg none call c_M_harm false Q cut 2000 true (toPc 0 c_M_harm) [some (.inr (.inr 49)), some (.inl a1), some (.inl a2), none] [] σ := h
theorem e_M_harm {d : Nat} {Q : Int → Mem → Prop} {a1 : Int} {a2 : Int} {σ : Mem} (h :
  wp d m_M_wrongLook [.inr (.inr 49), .inl a1, .inl a2] σ (fun (r1 : Int) (s2 : Mem) =>
  (r1 < 0 →
      wp d m_M_refuseFar [.inr (.inr 49), .inl r1] s2 (fun (r11 : Int) (s12 : Mem) => Q r11 s12)) ∧
    (0 ≤ r1 →
      wp d m_M_gotPlain [.inr (.inr 49), .inl 0, .inl 0] s2 (fun (r3 : Int) (s4 : Mem) =>
      wp d m_M_gotOf [.inr (.inr 49), .inl a1, .inl 0, .inl 0] s4 (fun (r5 : Int) (s6 : Mem) =>
        wp d m_M_allBefore [.inr (.inr 49)] s6 (fun (r7 : Int) (s8 : Mem) =>
          wp d m_M_fraction [.inr (.inl (w64 (r3 - r5))), .inr (.inl (w64 (60 * r7))), .inl a2] s8 (fun (r9 : Int) (s10 : Mem) => Q r9 s10))))))) : wp (d + 1) m_M_harm [.inr (.inr 49), .inl a1, .inl a2] σ Q := wp_in rfl (XX_intro (g_M_harm (call := wp d) (cut := XX none (wp d) c_M_harm false Q) (Q := Q) (a1 := a1) (a2 := a2) (σ := σ) (h)))
abbrev K_M_think_54 (d : Nat) (Q : Int → Mem → Prop)  (σ : Mem) : Prop := XX none (wp d) c_M_think false Q 54 [some (.inr (.inr 49)), none, none, none, none, none, none, none] [] σ
abbrev K_M_think_61 (d : Nat) (Q : Int → Mem → Prop) (x1 : Int) (x2 : Int) (x3 : Int) (x4 : Int) (x5 : Int) (σ : Mem) : Prop := XX none (wp d) c_M_think false Q 61 [some (.inr (.inr 49)), some (.inl x1), some (.inl x2), some (.inl x3), some (.inl x4), some (.inl x5), none, none] [] σ
abbrev K_M_think_73 (d : Nat) (Q : Int → Mem → Prop) (x1 : Int) (x2 : Int) (x3 : Int) (x4 : Int) (x5 : Int) (σ : Mem) : Prop := XX none (wp d) c_M_think false Q 73 [some (.inr (.inr 49)), some (.inl x1), some (.inl x2), some (.inl x3), some (.inl x4), some (.inl x5), none, none] [] σ
abbrev K_M_think_85 (d : Nat) (Q : Int → Mem → Prop) (x1 : Int) (x2 : Int) (x3 : Int) (x4 : Int) (x5 : Int) (σ : Mem) : Prop := XX none (wp d) c_M_think false Q 85 [some (.inr (.inr 49)), some (.inl x1), some (.inl x2), some (.inl x3), some (.inl x4), some (.inl x5), none, none] [] σ
abbrev K_M_think_98 (d : Nat) (Q : Int → Mem → Prop) (x1 : Int) (x2 : Int) (x3 : Int) (x4 : Int) (x5 : Int) (σ : Mem) : Prop := XX none (wp d) c_M_think false Q 98 [some (.inr (.inr 49)), some (.inl x1), some (.inl x2), some (.inl x3), some (.inl x4), some (.inl x5), none, none] [] σ
abbrev K_M_think_102 (d : Nat) (Q : Int → Mem → Prop) (x1 : Int) (x2 : Int) (x3 : Int) (x4 : Int) (x5 : Int) (σ : Mem) : Prop := XX none (wp d) c_M_think false Q 102 [some (.inr (.inr 49)), some (.inl x1), some (.inl x2), some (.inl x3), some (.inl x4), some (.inl x5), none, none] [] σ
abbrev K_M_think_103 (d : Nat) (Q : Int → Mem → Prop) (x1 : Int) (x2 : Int) (x3 : Int) (x4 : Int) (x5 : Int) (y0 : Int) (σ : Mem) : Prop := XX none (wp d) c_M_think false Q 103 [some (.inr (.inr 49)), some (.inl x1), some (.inl x2), some (.inl x3), some (.inl x4), some (.inl x5), none, none] [.inl y0] σ
abbrev K_M_think_150 (d : Nat) (Q : Int → Mem → Prop)  (σ : Mem) : Prop := XX none (wp d) c_M_think false Q 150 [some (.inr (.inr 49)), none, none, none, none, none, none, none] [] σ
theorem g_M_think {call : Nat → List AV → Mem → (Int → Mem → Prop) → Prop} {cut : Nat → Lo → List AV → Mem → Prop} {Q : Int → Mem → Prop} {a1 : Int} {a2 : Int} {a3 : Int} {a4 : Int} {a5 : Int} {σ : Mem} (h :
  ((σ 49 0) = 0 →
    call m_M_refuse [.inr (.inr 49), .inl (-3)] σ (fun (r1 : Int) (s2 : Mem) => Q r1 s2)) ∧
  (¬ (σ 49 0) = 0 →
    (a1 < 0 → cut 54 [some (.inr (.inr 49)), none, none, none, none, none, none, none] [] σ) ∧
    (0 ≤ a1 →
      (a2 < 0 → cut 54 [some (.inr (.inr 49)), none, none, none, none, none, none, none] [] σ) ∧
      (0 ≤ a2 →
        (a3 < 0 → cut 54 [some (.inr (.inr 49)), none, none, none, none, none, none, none] [] σ) ∧
        (0 ≤ a3 →
          (a4 < 0 → cut 54 [some (.inr (.inr 49)), none, none, none, none, none, none, none] [] σ) ∧
          (0 ≤ a4 →
            (a5 < 1 → cut 54 [some (.inr (.inr 49)), none, none, none, none, none, none, none] [] σ) ∧
            (1 ≤ a5 →
              (a1 = 0 →
                (a2 = 0 →
                  (a3 = 0 →
                    (a4 = 0 → cut 54 [some (.inr (.inr 49)), none, none, none, none, none, none, none] [] σ) ∧
                    (¬ a4 = 0 →
                      cut 61 [some (.inr (.inr 49)), some (.inl a1), some (.inl a2), some (.inl a3), some (.inl a4), some (.inl a5), none, none] [] σ)) ∧
                  (¬ a3 = 0 →
                    cut 61 [some (.inr (.inr 49)), some (.inl a1), some (.inl a2), some (.inl a3), some (.inl a4), some (.inl a5), none, none] [] σ)) ∧
                (¬ a2 = 0 →
                  cut 61 [some (.inr (.inr 49)), some (.inl a1), some (.inl a2), some (.inl a3), some (.inl a4), some (.inl a5), none, none] [] σ)) ∧
              (¬ a1 = 0 →
                cut 61 [some (.inr (.inr 49)), some (.inl a1), some (.inl a2), some (.inl a3), some (.inl a4), some (.inl a5), none, none] [] σ)))))))) : seg none call c_M_think false Q cut 2000 true (toPc 0 c_M_think) [some (.inr (.inr 49)), some (.inl a1), some (.inl a2), some (.inl a3), some (.inl a4), some (.inl a5), none, none] [] σ := h
theorem e_M_think {d : Nat} {Q : Int → Mem → Prop} {a1 : Int} {a2 : Int} {a3 : Int} {a4 : Int} {a5 : Int} {σ : Mem} (h :
  ((σ 49 0) = 0 →
    wp d m_M_refuse [.inr (.inr 49), .inl (-3)] σ (fun (r1 : Int) (s2 : Mem) => Q r1 s2)) ∧
  (¬ (σ 49 0) = 0 →
    (a1 < 0 → K_M_think_54 d Q  σ) ∧
    (0 ≤ a1 →
      (a2 < 0 → K_M_think_54 d Q  σ) ∧
      (0 ≤ a2 →
        (a3 < 0 → K_M_think_54 d Q  σ) ∧
        (0 ≤ a3 →
          (a4 < 0 → K_M_think_54 d Q  σ) ∧
          (0 ≤ a4 →
            (a5 < 1 → K_M_think_54 d Q  σ) ∧
            (1 ≤ a5 →
              (a1 = 0 →
                (a2 = 0 →
                  (a3 = 0 →
                    (a4 = 0 → K_M_think_54 d Q  σ) ∧
                    (¬ a4 = 0 → K_M_think_61 d Q a1 a2 a3 a4 a5 σ)) ∧
                  (¬ a3 = 0 → K_M_think_61 d Q a1 a2 a3 a4 a5 σ)) ∧
                (¬ a2 = 0 → K_M_think_61 d Q a1 a2 a3 a4 a5 σ)) ∧
              (¬ a1 = 0 → K_M_think_61 d Q a1 a2 a3 a4 a5 σ)))))))) : wp (d + 1) m_M_think [.inr (.inr 49), .inl a1, .inl a2, .inl a3, .inl a4, .inl a5] σ Q := wp_in rfl (XX_intro (g_M_think (call := wp d) (cut := XX none (wp d) c_M_think false Q) (Q := Q) (a1 := a1) (a2 := a2) (a3 := a3) (a4 := a4) (a5 := a5) (σ := σ) (h)))
theorem g_M_think_54 {call : Nat → List AV → Mem → (Int → Mem → Prop) → Prop} {cut : Nat → Lo → List AV → Mem → Prop} {Q : Int → Mem → Prop}  {σ : Mem} (h :
  call m_M_refuse [.inr (.inr 49), .inl (-4)] σ (fun (r1 : Int) (s2 : Mem) => Q r1 s2)) : seg none call c_M_think false Q cut 2000 true (toPc 54 c_M_think) [some (.inr (.inr 49)), none, none, none, none, none, none, none] [] σ := h
theorem e_M_think_54 {d : Nat} {Q : Int → Mem → Prop}  {σ : Mem} (h :
  wp d m_M_refuse [.inr (.inr 49), .inl (-4)] σ (fun (r1 : Int) (s2 : Mem) => Q r1 s2)) : K_M_think_54 d Q  σ := XX_intro (g_M_think_54 (call := wp d) (cut := XX none (wp d) c_M_think false Q) (Q := Q)  (σ := σ) (h))
theorem g_M_think_61 {call : Nat → List AV → Mem → (Int → Mem → Prop) → Prop} {cut : Nat → Lo → List AV → Mem → Prop} {Q : Int → Mem → Prop} {x1 : Int} {x2 : Int} {x3 : Int} {x4 : Int} {x5 : Int} {σ : Mem} (h :
  ((σ 49 0) < 2 →
    (0 < x2 →
      cut 98 [some (.inr (.inr 49)), some (.inl x1), some (.inl x2), some (.inl x3), some (.inl x4), some (.inl x5), none, none] [] σ) ∧
    (x2 ≤ 0 →
      cut 73 [some (.inr (.inr 49)), some (.inl x1), some (.inl x2), some (.inl x3), some (.inl x4), some (.inl x5), none, none] [] σ)) ∧
  (2 ≤ (σ 49 0) →
    cut 73 [some (.inr (.inr 49)), some (.inl x1), some (.inl x2), some (.inl x3), some (.inl x4), some (.inl x5), none, none] [] σ)) : seg none call c_M_think false Q cut 2000 true (toPc 61 c_M_think) [some (.inr (.inr 49)), some (.inl x1), some (.inl x2), some (.inl x3), some (.inl x4), some (.inl x5), none, none] [] σ := h
theorem e_M_think_61 {d : Nat} {Q : Int → Mem → Prop} {x1 : Int} {x2 : Int} {x3 : Int} {x4 : Int} {x5 : Int} {σ : Mem} (h :
  ((σ 49 0) < 2 →
    (0 < x2 → K_M_think_98 d Q x1 x2 x3 x4 x5 σ) ∧
    (x2 ≤ 0 → K_M_think_73 d Q x1 x2 x3 x4 x5 σ)) ∧
  (2 ≤ (σ 49 0) → K_M_think_73 d Q x1 x2 x3 x4 x5 σ)) : K_M_think_61 d Q x1 x2 x3 x4 x5 σ := XX_intro (g_M_think_61 (call := wp d) (cut := XX none (wp d) c_M_think false Q) (Q := Q) (x1 := x1) (x2 := x2) (x3 := x3) (x4 := x4) (x5 := x5) (σ := σ) (h))
theorem g_M_think_73 {call : Nat → List AV → Mem → (Int → Mem → Prop) → Prop} {cut : Nat → Lo → List AV → Mem → Prop} {Q : Int → Mem → Prop} {x1 : Int} {x2 : Int} {x3 : Int} {x4 : Int} {x5 : Int} {σ : Mem} (h :
  ((σ 49 0) < 3 →
    (0 < x3 →
      cut 98 [some (.inr (.inr 49)), some (.inl x1), some (.inl x2), some (.inl x3), some (.inl x4), some (.inl x5), none, none] [] σ) ∧
    (x3 ≤ 0 →
      cut 85 [some (.inr (.inr 49)), some (.inl x1), some (.inl x2), some (.inl x3), some (.inl x4), some (.inl x5), none, none] [] σ)) ∧
  (3 ≤ (σ 49 0) →
    cut 85 [some (.inr (.inr 49)), some (.inl x1), some (.inl x2), some (.inl x3), some (.inl x4), some (.inl x5), none, none] [] σ)) : seg none call c_M_think false Q cut 2000 true (toPc 73 c_M_think) [some (.inr (.inr 49)), some (.inl x1), some (.inl x2), some (.inl x3), some (.inl x4), some (.inl x5), none, none] [] σ := h
theorem e_M_think_73 {d : Nat} {Q : Int → Mem → Prop} {x1 : Int} {x2 : Int} {x3 : Int} {x4 : Int} {x5 : Int} {σ : Mem} (h :
  ((σ 49 0) < 3 →
    (0 < x3 → K_M_think_98 d Q x1 x2 x3 x4 x5 σ) ∧
    (x3 ≤ 0 → K_M_think_85 d Q x1 x2 x3 x4 x5 σ)) ∧
  (3 ≤ (σ 49 0) → K_M_think_85 d Q x1 x2 x3 x4 x5 σ)) : K_M_think_73 d Q x1 x2 x3 x4 x5 σ := XX_intro (g_M_think_73 (call := wp d) (cut := XX none (wp d) c_M_think false Q) (Q := Q) (x1 := x1) (x2 := x2) (x3 := x3) (x4 := x4) (x5 := x5) (σ := σ) (h))
theorem g_M_think_85 {call : Nat → List AV → Mem → (Int → Mem → Prop) → Prop} {cut : Nat → Lo → List AV → Mem → Prop} {Q : Int → Mem → Prop} {x1 : Int} {x2 : Int} {x3 : Int} {x4 : Int} {x5 : Int} {σ : Mem} (h :
  ((σ 49 0) < 4 →
    (0 < x4 →
      cut 98 [some (.inr (.inr 49)), some (.inl x1), some (.inl x2), some (.inl x3), some (.inl x4), some (.inl x5), none, none] [] σ) ∧
    (x4 ≤ 0 →
      cut 102 [some (.inr (.inr 49)), some (.inl x1), some (.inl x2), some (.inl x3), some (.inl x4), some (.inl x5), none, none] [] σ)) ∧
  (4 ≤ (σ 49 0) →
    cut 102 [some (.inr (.inr 49)), some (.inl x1), some (.inl x2), some (.inl x3), some (.inl x4), some (.inl x5), none, none] [] σ)) : seg none call c_M_think false Q cut 2000 true (toPc 85 c_M_think) [some (.inr (.inr 49)), some (.inl x1), some (.inl x2), some (.inl x3), some (.inl x4), some (.inl x5), none, none] [] σ := h
theorem e_M_think_85 {d : Nat} {Q : Int → Mem → Prop} {x1 : Int} {x2 : Int} {x3 : Int} {x4 : Int} {x5 : Int} {σ : Mem} (h :
  ((σ 49 0) < 4 →
    (0 < x4 → K_M_think_98 d Q x1 x2 x3 x4 x5 σ) ∧
    (x4 ≤ 0 → K_M_think_102 d Q x1 x2 x3 x4 x5 σ)) ∧
  (4 ≤ (σ 49 0) → K_M_think_102 d Q x1 x2 x3 x4 x5 σ)) : K_M_think_85 d Q x1 x2 x3 x4 x5 σ := XX_intro (g_M_think_85 (call := wp d) (cut := XX none (wp d) c_M_think false Q) (Q := Q) (x1 := x1) (x2 := x2) (x3 := x3) (x4 := x4) (x5 := x5) (σ := σ) (h))
theorem g_M_think_98 {call : Nat → List AV → Mem → (Int → Mem → Prop) → Prop} {cut : Nat → Lo → List AV → Mem → Prop} {Q : Int → Mem → Prop} {x1 : Int} {x2 : Int} {x3 : Int} {x4 : Int} {x5 : Int} {σ : Mem} (h :
  cut 103 [some (.inr (.inr 49)), some (.inl x1), some (.inl x2), some (.inl x3), some (.inl x4), some (.inl x5), none, none] [.inl 1] σ) : seg none call c_M_think false Q cut 2000 true (toPc 98 c_M_think) [some (.inr (.inr 49)), some (.inl x1), some (.inl x2), some (.inl x3), some (.inl x4), some (.inl x5), none, none] [] σ := h
theorem e_M_think_98 {d : Nat} {Q : Int → Mem → Prop} {x1 : Int} {x2 : Int} {x3 : Int} {x4 : Int} {x5 : Int} {σ : Mem} (h :
  K_M_think_103 d Q x1 x2 x3 x4 x5 1 σ) : K_M_think_98 d Q x1 x2 x3 x4 x5 σ := XX_intro (g_M_think_98 (call := wp d) (cut := XX none (wp d) c_M_think false Q) (Q := Q) (x1 := x1) (x2 := x2) (x3 := x3) (x4 := x4) (x5 := x5) (σ := σ) (h))
theorem g_M_think_102 {call : Nat → List AV → Mem → (Int → Mem → Prop) → Prop} {cut : Nat → Lo → List AV → Mem → Prop} {Q : Int → Mem → Prop} {x1 : Int} {x2 : Int} {x3 : Int} {x4 : Int} {x5 : Int} {σ : Mem} (h :
  cut 103 [some (.inr (.inr 49)), some (.inl x1), some (.inl x2), some (.inl x3), some (.inl x4), some (.inl x5), none, none] [.inl 0] σ) : seg none call c_M_think false Q cut 2000 true (toPc 102 c_M_think) [some (.inr (.inr 49)), some (.inl x1), some (.inl x2), some (.inl x3), some (.inl x4), some (.inl x5), none, none] [] σ := h
theorem e_M_think_102 {d : Nat} {Q : Int → Mem → Prop} {x1 : Int} {x2 : Int} {x3 : Int} {x4 : Int} {x5 : Int} {σ : Mem} (h :
  K_M_think_103 d Q x1 x2 x3 x4 x5 0 σ) : K_M_think_102 d Q x1 x2 x3 x4 x5 σ := XX_intro (g_M_think_102 (call := wp d) (cut := XX none (wp d) c_M_think false Q) (Q := Q) (x1 := x1) (x2 := x2) (x3 := x3) (x4 := x4) (x5 := x5) (σ := σ) (h))
theorem g_M_think_103 {call : Nat → List AV → Mem → (Int → Mem → Prop) → Prop} {cut : Nat → Lo → List AV → Mem → Prop} {Q : Int → Mem → Prop} {x1 : Int} {x2 : Int} {x3 : Int} {x4 : Int} {x5 : Int} {y0 : Int} {σ : Mem} (h :
  (99 < x1 → cut 150 [some (.inr (.inr 49)), none, none, none, none, none, none, none] [] σ) ∧
  (x1 ≤ 99 →
    (99 < x2 → cut 150 [some (.inr (.inr 49)), none, none, none, none, none, none, none] [] σ) ∧
    (x2 ≤ 99 →
      (99 < x3 → cut 150 [some (.inr (.inr 49)), none, none, none, none, none, none, none] [] σ) ∧
      (x3 ≤ 99 →
        (99 < x4 → cut 150 [some (.inr (.inr 49)), none, none, none, none, none, none, none] [] σ) ∧
        (x4 ≤ 99 →
          (99 < x5 → cut 150 [some (.inr (.inr 49)), none, none, none, none, none, none, none] [] σ) ∧
          (x5 ≤ 99 →
            (y0 = 0 →
              ((σ 49 12) = 4 → cut 150 [some (.inr (.inr 49)), none, none, none, none, none, none, none] [] σ) ∧
              (¬ (σ 49 12) = 4 →
                call m_M_divisor [.inr (.inl x1), .inr (.inl x2)] σ (fun (r1 : Int) (s2 : Mem) =>
                call m_M_divisor [.inr (.inl x3), .inr (.inl x4)] s2 (fun (r3 : Int) (s4 : Mem) =>
                  call m_M_divisor [.inr (.inl r1), .inr (.inl r3)] s4 (fun (r5 : Int) (s6 : Mem) =>
                    (¬ (w32 r5) = 0) ∧ (0 ≤ (w32 (4 * (s6 49 12))) ∧ (w32 (4 * (s6 49 12))) < (24 : Int)) ∧ (¬ (w32 r5) = 0) ∧ (0 ≤ (w32 ((w32 (4 * ((mset s6 57 (w32 (4 * (s6 49 12))).toNat (w32 (Int.tdiv x1 (w32 r5)))) 49 12))) + 1)) ∧ (w32 ((w32 (4 * ((mset s6 57 (w32 (4 * (s6 49 12))).toNat (w32 (Int.tdiv x1 (w32 r5)))) 49 12))) + 1)) < (24 : Int)) ∧ (¬ (w32 r5) = 0) ∧ (0 ≤ (w32 ((w32 (4 * ((mset (mset s6 57 (w32 (4 * (s6 49 12))).toNat (w32 (Int.tdiv x1 (w32 r5)))) 57 (w32 ((w32 (4 * ((mset s6 57 (w32 (4 * (s6 49 12))).toNat (w32 (Int.tdiv x1 (w32 r5)))) 49 12))) + 1)).toNat (w32 (Int.tdiv x2 (w32 r5)))) 49 12))) + 2)) ∧ (w32 ((w32 (4 * ((mset (mset s6 57 (w32 (4 * (s6 49 12))).toNat (w32 (Int.tdiv x1 (w32 r5)))) 57 (w32 ((w32 (4 * ((mset s6 57 (w32 (4 * (s6 49 12))).toNat (w32 (Int.tdiv x1 (w32 r5)))) 49 12))) + 1)).toNat (w32 (Int.tdiv x2 (w32 r5)))) 49 12))) + 2)) < (24 : Int)) ∧ (¬ (w32 r5) = 0) ∧ (0 ≤ (w32 ((w32 (4 * ((mset (mset (mset s6 57 (w32 (4 * (s6 49 12))).toNat (w32 (Int.tdiv x1 (w32 r5)))) 57 (w32 ((w32 (4 * ((mset s6 57 (w32 (4 * (s6 49 12))).toNat (w32 (Int.tdiv x1 (w32 r5)))) 49 12))) + 1)).toNat (w32 (Int.tdiv x2 (w32 r5)))) 57 (w32 ((w32 (4 * ((mset (mset s6 57 (w32 (4 * (s6 49 12))).toNat (w32 (Int.tdiv x1 (w32 r5)))) 57 (w32 ((w32 (4 * ((mset s6 57 (w32 (4 * (s6 49 12))).toNat (w32 (Int.tdiv x1 (w32 r5)))) 49 12))) + 1)).toNat (w32 (Int.tdiv x2 (w32 r5)))) 49 12))) + 2)).toNat (w32 (Int.tdiv x3 (w32 r5)))) 49 12))) + 3)) ∧ (w32 ((w32 (4 * ((mset (mset (mset s6 57 (w32 (4 * (s6 49 12))).toNat (w32 (Int.tdiv x1 (w32 r5)))) 57 (w32 ((w32 (4 * ((mset s6 57 (w32 (4 * (s6 49 12))).toNat (w32 (Int.tdiv x1 (w32 r5)))) 49 12))) + 1)).toNat (w32 (Int.tdiv x2 (w32 r5)))) 57 (w32 ((w32 (4 * ((mset (mset s6 57 (w32 (4 * (s6 49 12))).toNat (w32 (Int.tdiv x1 (w32 r5)))) 57 (w32 ((w32 (4 * ((mset s6 57 (w32 (4 * (s6 49 12))).toNat (w32 (Int.tdiv x1 (w32 r5)))) 49 12))) + 1)).toNat (w32 (Int.tdiv x2 (w32 r5)))) 49 12))) + 2)).toNat (w32 (Int.tdiv x3 (w32 r5)))) 49 12))) + 3)) < (24 : Int)) ∧ (0 ≤ ((mset (mset (mset (mset s6 57 (w32 (4 * (s6 49 12))).toNat (w32 (Int.tdiv x1 (w32 r5)))) 57 (w32 ((w32 (4 * ((mset s6 57 (w32 (4 * (s6 49 12))).toNat (w32 (Int.tdiv x1 (w32 r5)))) 49 12))) + 1)).toNat (w32 (Int.tdiv x2 (w32 r5)))) 57 (w32 ((w32 (4 * ((mset (mset s6 57 (w32 (4 * (s6 49 12))).toNat (w32 (Int.tdiv x1 (w32 r5)))) 57 (w32 ((w32 (4 * ((mset s6 57 (w32 (4 * (s6 49 12))).toNat (w32 (Int.tdiv x1 (w32 r5)))) 49 12))) + 1)).toNat (w32 (Int.tdiv x2 (w32 r5)))) 49 12))) + 2)).toNat (w32 (Int.tdiv x3 (w32 r5)))) 57 (w32 ((w32 (4 * ((mset (mset (mset s6 57 (w32 (4 * (s6 49 12))).toNat (w32 (Int.tdiv x1 (w32 r5)))) 57 (w32 ((w32 (4 * ((mset s6 57 (w32 (4 * (s6 49 12))).toNat (w32 (Int.tdiv x1 (w32 r5)))) 49 12))) + 1)).toNat (w32 (Int.tdiv x2 (w32 r5)))) 57 (w32 ((w32 (4 * ((mset (mset s6 57 (w32 (4 * (s6 49 12))).toNat (w32 (Int.tdiv x1 (w32 r5)))) 57 (w32 ((w32 (4 * ((mset s6 57 (w32 (4 * (s6 49 12))).toNat (w32 (Int.tdiv x1 (w32 r5)))) 49 12))) + 1)).toNat (w32 (Int.tdiv x2 (w32 r5)))) 49 12))) + 2)).toNat (w32 (Int.tdiv x3 (w32 r5)))) 49 12))) + 3)).toNat (w32 (Int.tdiv x4 (w32 r5)))) 49 12) ∧ ((mset (mset (mset (mset s6 57 (w32 (4 * (s6 49 12))).toNat (w32 (Int.tdiv x1 (w32 r5)))) 57 (w32 ((w32 (4 * ((mset s6 57 (w32 (4 * (s6 49 12))).toNat (w32 (Int.tdiv x1 (w32 r5)))) 49 12))) + 1)).toNat (w32 (Int.tdiv x2 (w32 r5)))) 57 (w32 ((w32 (4 * ((mset (mset s6 57 (w32 (4 * (s6 49 12))).toNat (w32 (Int.tdiv x1 (w32 r5)))) 57 (w32 ((w32 (4 * ((mset s6 57 (w32 (4 * (s6 49 12))).toNat (w32 (Int.tdiv x1 (w32 r5)))) 49 12))) + 1)).toNat (w32 (Int.tdiv x2 (w32 r5)))) 49 12))) + 2)).toNat (w32 (Int.tdiv x3 (w32 r5)))) 57 (w32 ((w32 (4 * ((mset (mset (mset s6 57 (w32 (4 * (s6 49 12))).toNat (w32 (Int.tdiv x1 (w32 r5)))) 57 (w32 ((w32 (4 * ((mset s6 57 (w32 (4 * (s6 49 12))).toNat (w32 (Int.tdiv x1 (w32 r5)))) 49 12))) + 1)).toNat (w32 (Int.tdiv x2 (w32 r5)))) 57 (w32 ((w32 (4 * ((mset (mset s6 57 (w32 (4 * (s6 49 12))).toNat (w32 (Int.tdiv x1 (w32 r5)))) 57 (w32 ((w32 (4 * ((mset s6 57 (w32 (4 * (s6 49 12))).toNat (w32 (Int.tdiv x1 (w32 r5)))) 49 12))) + 1)).toNat (w32 (Int.tdiv x2 (w32 r5)))) 49 12))) + 2)).toNat (w32 (Int.tdiv x3 (w32 r5)))) 49 12))) + 3)).toNat (w32 (Int.tdiv x4 (w32 r5)))) 49 12) < (6 : Int)) ∧ Q ((mset (mset (mset (mset (mset (mset s6 57 (w32 (4 * (s6 49 12))).toNat (w32 (Int.tdiv x1 (w32 r5)))) 57 (w32 ((w32 (4 * ((mset s6 57 (w32 (4 * (s6 49 12))).toNat (w32 (Int.tdiv x1 (w32 r5)))) 49 12))) + 1)).toNat (w32 (Int.tdiv x2 (w32 r5)))) 57 (w32 ((w32 (4 * ((mset (mset s6 57 (w32 (4 * (s6 49 12))).toNat (w32 (Int.tdiv x1 (w32 r5)))) 57 (w32 ((w32 (4 * ((mset s6 57 (w32 (4 * (s6 49 12))).toNat (w32 (Int.tdiv x1 (w32 r5)))) 49 12))) + 1)).toNat (w32 (Int.tdiv x2 (w32 r5)))) 49 12))) + 2)).toNat (w32 (Int.tdiv x3 (w32 r5)))) 57 (w32 ((w32 (4 * ((mset (mset (mset s6 57 (w32 (4 * (s6 49 12))).toNat (w32 (Int.tdiv x1 (w32 r5)))) 57 (w32 ((w32 (4 * ((mset s6 57 (w32 (4 * (s6 49 12))).toNat (w32 (Int.tdiv x1 (w32 r5)))) 49 12))) + 1)).toNat (w32 (Int.tdiv x2 (w32 r5)))) 57 (w32 ((w32 (4 * ((mset (mset s6 57 (w32 (4 * (s6 49 12))).toNat (w32 (Int.tdiv x1 (w32 r5)))) 57 (w32 ((w32 (4 * ((mset s6 57 (w32 (4 * (s6 49 12))).toNat (w32 (Int.tdiv x1 (w32 r5)))) 49 12))) + 1)).toNat (w32 (Int.tdiv x2 (w32 r5)))) 49 12))) + 2)).toNat (w32 (Int.tdiv x3 (w32 r5)))) 49 12))) + 3)).toNat (w32 (Int.tdiv x4 (w32 r5)))) 58 ((mset (mset (mset (mset s6 57 (w32 (4 * (s6 49 12))).toNat (w32 (Int.tdiv x1 (w32 r5)))) 57 (w32 ((w32 (4 * ((mset s6 57 (w32 (4 * (s6 49 12))).toNat (w32 (Int.tdiv x1 (w32 r5)))) 49 12))) + 1)).toNat (w32 (Int.tdiv x2 (w32 r5)))) 57 (w32 ((w32 (4 * ((mset (mset s6 57 (w32 (4 * (s6 49 12))).toNat (w32 (Int.tdiv x1 (w32 r5)))) 57 (w32 ((w32 (4 * ((mset s6 57 (w32 (4 * (s6 49 12))).toNat (w32 (Int.tdiv x1 (w32 r5)))) 49 12))) + 1)).toNat (w32 (Int.tdiv x2 (w32 r5)))) 49 12))) + 2)).toNat (w32 (Int.tdiv x3 (w32 r5)))) 57 (w32 ((w32 (4 * ((mset (mset (mset s6 57 (w32 (4 * (s6 49 12))).toNat (w32 (Int.tdiv x1 (w32 r5)))) 57 (w32 ((w32 (4 * ((mset s6 57 (w32 (4 * (s6 49 12))).toNat (w32 (Int.tdiv x1 (w32 r5)))) 49 12))) + 1)).toNat (w32 (Int.tdiv x2 (w32 r5)))) 57 (w32 ((w32 (4 * ((mset (mset s6 57 (w32 (4 * (s6 49 12))).toNat (w32 (Int.tdiv x1 (w32 r5)))) 57 (w32 ((w32 (4 * ((mset s6 57 (w32 (4 * (s6 49 12))).toNat (w32 (Int.tdiv x1 (w32 r5)))) 49 12))) + 1)).toNat (w32 (Int.tdiv x2 (w32 r5)))) 49 12))) + 2)).toNat (w32 (Int.tdiv x3 (w32 r5)))) 49 12))) + 3)).toNat (w32 (Int.tdiv x4 (w32 r5)))) 49 12).toNat x5) 49 12 (w32 (((mset (mset (mset (mset (mset s6 57 (w32 (4 * (s6 49 12))).toNat (w32 (Int.tdiv x1 (w32 r5)))) 57 (w32 ((w32 (4 * ((mset s6 57 (w32 (4 * (s6 49 12))).toNat (w32 (Int.tdiv x1 (w32 r5)))) 49 12))) + 1)).toNat (w32 (Int.tdiv x2 (w32 r5)))) 57 (w32 ((w32 (4 * ((mset (mset s6 57 (w32 (4 * (s6 49 12))).toNat (w32 (Int.tdiv x1 (w32 r5)))) 57 (w32 ((w32 (4 * ((mset s6 57 (w32 (4 * (s6 49 12))).toNat (w32 (Int.tdiv x1 (w32 r5)))) 49 12))) + 1)).toNat (w32 (Int.tdiv x2 (w32 r5)))) 49 12))) + 2)).toNat (w32 (Int.tdiv x3 (w32 r5)))) 57 (w32 ((w32 (4 * ((mset (mset (mset s6 57 (w32 (4 * (s6 49 12))).toNat (w32 (Int.tdiv x1 (w32 r5)))) 57 (w32 ((w32 (4 * ((mset s6 57 (w32 (4 * (s6 49 12))).toNat (w32 (Int.tdiv x1 (w32 r5)))) 49 12))) + 1)).toNat (w32 (Int.tdiv x2 (w32 r5)))) 57 (w32 ((w32 (4 * ((mset (mset s6 57 (w32 (4 * (s6 49 12))).toNat (w32 (Int.tdiv x1 (w32 r5)))) 57 (w32 ((w32 (4 * ((mset s6 57 (w32 (4 * (s6 49 12))).toNat (w32 (Int.tdiv x1 (w32 r5)))) 49 12))) + 1)).toNat (w32 (Int.tdiv x2 (w32 r5)))) 49 12))) + 2)).toNat (w32 (Int.tdiv x3 (w32 r5)))) 49 12))) + 3)).toNat (w32 (Int.tdiv x4 (w32 r5)))) 58 ((mset (mset (mset (mset s6 57 (w32 (4 * (s6 49 12))).toNat (w32 (Int.tdiv x1 (w32 r5)))) 57 (w32 ((w32 (4 * ((mset s6 57 (w32 (4 * (s6 49 12))).toNat (w32 (Int.tdiv x1 (w32 r5)))) 49 12))) + 1)).toNat (w32 (Int.tdiv x2 (w32 r5)))) 57 (w32 ((w32 (4 * ((mset (mset s6 57 (w32 (4 * (s6 49 12))).toNat (w32 (Int.tdiv x1 (w32 r5)))) 57 (w32 ((w32 (4 * ((mset s6 57 (w32 (4 * (s6 49 12))).toNat (w32 (Int.tdiv x1 (w32 r5)))) 49 12))) + 1)).toNat (w32 (Int.tdiv x2 (w32 r5)))) 49 12))) + 2)).toNat (w32 (Int.tdiv x3 (w32 r5)))) 57 (w32 ((w32 (4 * ((mset (mset (mset s6 57 (w32 (4 * (s6 49 12))).toNat (w32 (Int.tdiv x1 (w32 r5)))) 57 (w32 ((w32 (4 * ((mset s6 57 (w32 (4 * (s6 49 12))).toNat (w32 (Int.tdiv x1 (w32 r5)))) 49 12))) + 1)).toNat (w32 (Int.tdiv x2 (w32 r5)))) 57 (w32 ((w32 (4 * ((mset (mset s6 57 (w32 (4 * (s6 49 12))).toNat (w32 (Int.tdiv x1 (w32 r5)))) 57 (w32 ((w32 (4 * ((mset s6 57 (w32 (4 * (s6 49 12))).toNat (w32 (Int.tdiv x1 (w32 r5)))) 49 12))) + 1)).toNat (w32 (Int.tdiv x2 (w32 r5)))) 49 12))) + 2)).toNat (w32 (Int.tdiv x3 (w32 r5)))) 49 12))) + 3)).toNat (w32 (Int.tdiv x4 (w32 r5)))) 49 12).toNat x5) 49 12) + 1))) 49 12) (mset (mset (mset (mset (mset (mset s6 57 (w32 (4 * (s6 49 12))).toNat (w32 (Int.tdiv x1 (w32 r5)))) 57 (w32 ((w32 (4 * ((mset s6 57 (w32 (4 * (s6 49 12))).toNat (w32 (Int.tdiv x1 (w32 r5)))) 49 12))) + 1)).toNat (w32 (Int.tdiv x2 (w32 r5)))) 57 (w32 ((w32 (4 * ((mset (mset s6 57 (w32 (4 * (s6 49 12))).toNat (w32 (Int.tdiv x1 (w32 r5)))) 57 (w32 ((w32 (4 * ((mset s6 57 (w32 (4 * (s6 49 12))).toNat (w32 (Int.tdiv x1 (w32 r5)))) 49 12))) + 1)).toNat (w32 (Int.tdiv x2 (w32 r5)))) 49 12))) + 2)).toNat (w32 (Int.tdiv x3 (w32 r5)))) 57 (w32 ((w32 (4 * ((mset (mset (mset s6 57 (w32 (4 * (s6 49 12))).toNat (w32 (Int.tdiv x1 (w32 r5)))) 57 (w32 ((w32 (4 * ((mset s6 57 (w32 (4 * (s6 49 12))).toNat (w32 (Int.tdiv x1 (w32 r5)))) 49 12))) + 1)).toNat (w32 (Int.tdiv x2 (w32 r5)))) 57 (w32 ((w32 (4 * ((mset (mset s6 57 (w32 (4 * (s6 49 12))).toNat (w32 (Int.tdiv x1 (w32 r5)))) 57 (w32 ((w32 (4 * ((mset s6 57 (w32 (4 * (s6 49 12))).toNat (w32 (Int.tdiv x1 (w32 r5)))) 49 12))) + 1)).toNat (w32 (Int.tdiv x2 (w32 r5)))) 49 12))) + 2)).toNat (w32 (Int.tdiv x3 (w32 r5)))) 49 12))) + 3)).toNat (w32 (Int.tdiv x4 (w32 r5)))) 58 ((mset (mset (mset (mset s6 57 (w32 (4 * (s6 49 12))).toNat (w32 (Int.tdiv x1 (w32 r5)))) 57 (w32 ((w32 (4 * ((mset s6 57 (w32 (4 * (s6 49 12))).toNat (w32 (Int.tdiv x1 (w32 r5)))) 49 12))) + 1)).toNat (w32 (Int.tdiv x2 (w32 r5)))) 57 (w32 ((w32 (4 * ((mset (mset s6 57 (w32 (4 * (s6 49 12))).toNat (w32 (Int.tdiv x1 (w32 r5)))) 57 (w32 ((w32 (4 * ((mset s6 57 (w32 (4 * (s6 49 12))).toNat (w32 (Int.tdiv x1 (w32 r5)))) 49 12))) + 1)).toNat (w32 (Int.tdiv x2 (w32 r5)))) 49 12))) + 2)).toNat (w32 (Int.tdiv x3 (w32 r5)))) 57 (w32 ((w32 (4 * ((mset (mset (mset s6 57 (w32 (4 * (s6 49 12))).toNat (w32 (Int.tdiv x1 (w32 r5)))) 57 (w32 ((w32 (4 * ((mset s6 57 (w32 (4 * (s6 49 12))).toNat (w32 (Int.tdiv x1 (w32 r5)))) 49 12))) + 1)).toNat (w32 (Int.tdiv x2 (w32 r5)))) 57 (w32 ((w32 (4 * ((mset (mset s6 57 (w32 (4 * (s6 49 12))).toNat (w32 (Int.tdiv x1 (w32 r5)))) 57 (w32 ((w32 (4 * ((mset s6 57 (w32 (4 * (s6 49 12))).toNat (w32 (Int.tdiv x1 (w32 r5)))) 49 12))) + 1)).toNat (w32 (Int.tdiv x2 (w32 r5)))) 49 12))) + 2)).toNat (w32 (Int.tdiv x3 (w32 r5)))) 49 12))) + 3)).toNat (w32 (Int.tdiv x4 (w32 r5)))) 49 12).toNat x5) 49 12 (w32 (((mset (mset (mset (mset (mset s6 57 (w32 (4 * (s6 49 12))).toNat (w32 (Int.tdiv x1 (w32 r5)))) 57 (w32 ((w32 (4 * ((mset s6 57 (w32 (4 * (s6 49 12))).toNat (w32 (Int.tdiv x1 (w32 r5)))) 49 12))) + 1)).toNat (w32 (Int.tdiv x2 (w32 r5)))) 57 (w32 ((w32 (4 * ((mset (mset s6 57 (w32 (4 * (s6 49 12))).toNat (w32 (Int.tdiv x1 (w32 r5)))) 57 (w32 ((w32 (4 * ((mset s6 57 (w32 (4 * (s6 49 12))).toNat (w32 (Int.tdiv x1 (w32 r5)))) 49 12))) + 1)).toNat (w32 (Int.tdiv x2 (w32 r5)))) 49 12))) + 2)).toNat (w32 (Int.tdiv x3 (w32 r5)))) 57 (w32 ((w32 (4 * ((mset (mset (mset s6 57 (w32 (4 * (s6 49 12))).toNat (w32 (Int.tdiv x1 (w32 r5)))) 57 (w32 ((w32 (4 * ((mset s6 57 (w32 (4 * (s6 49 12))).toNat (w32 (Int.tdiv x1 (w32 r5)))) 49 12))) + 1)).toNat (w32 (Int.tdiv x2 (w32 r5)))) 57 (w32 ((w32 (4 * ((mset (mset s6 57 (w32 (4 * (s6 49 12))).toNat (w32 (Int.tdiv x1 (w32 r5)))) 57 (w32 ((w32 (4 * ((mset s6 57 (w32 (4 * (s6 49 12))).toNat (w32 (Int.tdiv x1 (w32 r5)))) 49 12))) + 1)).toNat (w32 (Int.tdiv x2 (w32 r5)))) 49 12))) + 2)).toNat (w32 (Int.tdiv x3 (w32 r5)))) 49 12))) + 3)).toNat (w32 (Int.tdiv x4 (w32 r5)))) 58 ((mset (mset (mset (mset s6 57 (w32 (4 * (s6 49 12))).toNat (w32 (Int.tdiv x1 (w32 r5)))) 57 (w32 ((w32 (4 * ((mset s6 57 (w32 (4 * (s6 49 12))).toNat (w32 (Int.tdiv x1 (w32 r5)))) 49 12))) + 1)).toNat (w32 (Int.tdiv x2 (w32 r5)))) 57 (w32 ((w32 (4 * ((mset (mset s6 57 (w32 (4 * (s6 49 12))).toNat (w32 (Int.tdiv x1 (w32 r5)))) 57 (w32 ((w32 (4 * ((mset s6 57 (w32 (4 * (s6 49 12))).toNat (w32 (Int.tdiv x1 (w32 r5)))) 49 12))) + 1)).toNat (w32 (Int.tdiv x2 (w32 r5)))) 49 12))) + 2)).toNat (w32 (Int.tdiv x3 (w32 r5)))) 57 (w32 ((w32 (4 * ((mset (mset (mset s6 57 (w32 (4 * (s6 49 12))).toNat (w32 (Int.tdiv x1 (w32 r5)))) 57 (w32 ((w32 (4 * ((mset s6 57 (w32 (4 * (s6 49 12))).toNat (w32 (Int.tdiv x1 (w32 r5)))) 49 12))) + 1)).toNat (w32 (Int.tdiv x2 (w32 r5)))) 57 (w32 ((w32 (4 * ((mset (mset s6 57 (w32 (4 * (s6 49 12))).toNat (w32 (Int.tdiv x1 (w32 r5)))) 57 (w32 ((w32 (4 * ((mset s6 57 (w32 (4 * (s6 49 12))).toNat (w32 (Int.tdiv x1 (w32 r5)))) 49 12))) + 1)).toNat (w32 (Int.tdiv x2 (w32 r5)))) 49 12))) + 2)).toNat (w32 (Int.tdiv x3 (w32 r5)))) 49 12))) + 3)).toNat (w32 (Int.tdiv x4 (w32 r5)))) 49 12).toNat x5) 49 12) + 1)))))))) ∧
            (¬ y0 = 0 → cut 150 [some (.inr (.inr 49)), none, none, none, none, none, none, none] [] σ))))))) : seg none call c_M_think false Q cut 2000 true (toPc 103 c_M_think) [some (.inr (.inr 49)), some (.inl x1), some (.inl x2), some (.inl x3), some (.inl x4), some (.inl x5), none, none] [.inl y0] σ := h
theorem e_M_think_103 {d : Nat} {Q : Int → Mem → Prop} {x1 : Int} {x2 : Int} {x3 : Int} {x4 : Int} {x5 : Int} {y0 : Int} {σ : Mem} (h :
  (99 < x1 → K_M_think_150 d Q  σ) ∧
  (x1 ≤ 99 →
    (99 < x2 → K_M_think_150 d Q  σ) ∧
    (x2 ≤ 99 →
      (99 < x3 → K_M_think_150 d Q  σ) ∧
      (x3 ≤ 99 →
        (99 < x4 → K_M_think_150 d Q  σ) ∧
        (x4 ≤ 99 →
          (99 < x5 → K_M_think_150 d Q  σ) ∧
          (x5 ≤ 99 →
            (y0 = 0 →
              ((σ 49 12) = 4 → K_M_think_150 d Q  σ) ∧
              (¬ (σ 49 12) = 4 →
                wp d m_M_divisor [.inr (.inl x1), .inr (.inl x2)] σ (fun (r1 : Int) (s2 : Mem) =>
                wp d m_M_divisor [.inr (.inl x3), .inr (.inl x4)] s2 (fun (r3 : Int) (s4 : Mem) =>
                  wp d m_M_divisor [.inr (.inl r1), .inr (.inl r3)] s4 (fun (r5 : Int) (s6 : Mem) =>
                    (¬ (w32 r5) = 0) ∧ (0 ≤ (w32 (4 * (s6 49 12))) ∧ (w32 (4 * (s6 49 12))) < (24 : Int)) ∧ (¬ (w32 r5) = 0) ∧ (0 ≤ (w32 ((w32 (4 * ((mset s6 57 (w32 (4 * (s6 49 12))).toNat (w32 (Int.tdiv x1 (w32 r5)))) 49 12))) + 1)) ∧ (w32 ((w32 (4 * ((mset s6 57 (w32 (4 * (s6 49 12))).toNat (w32 (Int.tdiv x1 (w32 r5)))) 49 12))) + 1)) < (24 : Int)) ∧ (¬ (w32 r5) = 0) ∧ (0 ≤ (w32 ((w32 (4 * ((mset (mset s6 57 (w32 (4 * (s6 49 12))).toNat (w32 (Int.tdiv x1 (w32 r5)))) 57 (w32 ((w32 (4 * ((mset s6 57 (w32 (4 * (s6 49 12))).toNat (w32 (Int.tdiv x1 (w32 r5)))) 49 12))) + 1)).toNat (w32 (Int.tdiv x2 (w32 r5)))) 49 12))) + 2)) ∧ (w32 ((w32 (4 * ((mset (mset s6 57 (w32 (4 * (s6 49 12))).toNat (w32 (Int.tdiv x1 (w32 r5)))) 57 (w32 ((w32 (4 * ((mset s6 57 (w32 (4 * (s6 49 12))).toNat (w32 (Int.tdiv x1 (w32 r5)))) 49 12))) + 1)).toNat (w32 (Int.tdiv x2 (w32 r5)))) 49 12))) + 2)) < (24 : Int)) ∧ (¬ (w32 r5) = 0) ∧ (0 ≤ (w32 ((w32 (4 * ((mset (mset (mset s6 57 (w32 (4 * (s6 49 12))).toNat (w32 (Int.tdiv x1 (w32 r5)))) 57 (w32 ((w32 (4 * ((mset s6 57 (w32 (4 * (s6 49 12))).toNat (w32 (Int.tdiv x1 (w32 r5)))) 49 12))) + 1)).toNat (w32 (Int.tdiv x2 (w32 r5)))) 57 (w32 ((w32 (4 * ((mset (mset s6 57 (w32 (4 * (s6 49 12))).toNat (w32 (Int.tdiv x1 (w32 r5)))) 57 (w32 ((w32 (4 * ((mset s6 57 (w32 (4 * (s6 49 12))).toNat (w32 (Int.tdiv x1 (w32 r5)))) 49 12))) + 1)).toNat (w32 (Int.tdiv x2 (w32 r5)))) 49 12))) + 2)).toNat (w32 (Int.tdiv x3 (w32 r5)))) 49 12))) + 3)) ∧ (w32 ((w32 (4 * ((mset (mset (mset s6 57 (w32 (4 * (s6 49 12))).toNat (w32 (Int.tdiv x1 (w32 r5)))) 57 (w32 ((w32 (4 * ((mset s6 57 (w32 (4 * (s6 49 12))).toNat (w32 (Int.tdiv x1 (w32 r5)))) 49 12))) + 1)).toNat (w32 (Int.tdiv x2 (w32 r5)))) 57 (w32 ((w32 (4 * ((mset (mset s6 57 (w32 (4 * (s6 49 12))).toNat (w32 (Int.tdiv x1 (w32 r5)))) 57 (w32 ((w32 (4 * ((mset s6 57 (w32 (4 * (s6 49 12))).toNat (w32 (Int.tdiv x1 (w32 r5)))) 49 12))) + 1)).toNat (w32 (Int.tdiv x2 (w32 r5)))) 49 12))) + 2)).toNat (w32 (Int.tdiv x3 (w32 r5)))) 49 12))) + 3)) < (24 : Int)) ∧ (0 ≤ ((mset (mset (mset (mset s6 57 (w32 (4 * (s6 49 12))).toNat (w32 (Int.tdiv x1 (w32 r5)))) 57 (w32 ((w32 (4 * ((mset s6 57 (w32 (4 * (s6 49 12))).toNat (w32 (Int.tdiv x1 (w32 r5)))) 49 12))) + 1)).toNat (w32 (Int.tdiv x2 (w32 r5)))) 57 (w32 ((w32 (4 * ((mset (mset s6 57 (w32 (4 * (s6 49 12))).toNat (w32 (Int.tdiv x1 (w32 r5)))) 57 (w32 ((w32 (4 * ((mset s6 57 (w32 (4 * (s6 49 12))).toNat (w32 (Int.tdiv x1 (w32 r5)))) 49 12))) + 1)).toNat (w32 (Int.tdiv x2 (w32 r5)))) 49 12))) + 2)).toNat (w32 (Int.tdiv x3 (w32 r5)))) 57 (w32 ((w32 (4 * ((mset (mset (mset s6 57 (w32 (4 * (s6 49 12))).toNat (w32 (Int.tdiv x1 (w32 r5)))) 57 (w32 ((w32 (4 * ((mset s6 57 (w32 (4 * (s6 49 12))).toNat (w32 (Int.tdiv x1 (w32 r5)))) 49 12))) + 1)).toNat (w32 (Int.tdiv x2 (w32 r5)))) 57 (w32 ((w32 (4 * ((mset (mset s6 57 (w32 (4 * (s6 49 12))).toNat (w32 (Int.tdiv x1 (w32 r5)))) 57 (w32 ((w32 (4 * ((mset s6 57 (w32 (4 * (s6 49 12))).toNat (w32 (Int.tdiv x1 (w32 r5)))) 49 12))) + 1)).toNat (w32 (Int.tdiv x2 (w32 r5)))) 49 12))) + 2)).toNat (w32 (Int.tdiv x3 (w32 r5)))) 49 12))) + 3)).toNat (w32 (Int.tdiv x4 (w32 r5)))) 49 12) ∧ ((mset (mset (mset (mset s6 57 (w32 (4 * (s6 49 12))).toNat (w32 (Int.tdiv x1 (w32 r5)))) 57 (w32 ((w32 (4 * ((mset s6 57 (w32 (4 * (s6 49 12))).toNat (w32 (Int.tdiv x1 (w32 r5)))) 49 12))) + 1)).toNat (w32 (Int.tdiv x2 (w32 r5)))) 57 (w32 ((w32 (4 * ((mset (mset s6 57 (w32 (4 * (s6 49 12))).toNat (w32 (Int.tdiv x1 (w32 r5)))) 57 (w32 ((w32 (4 * ((mset s6 57 (w32 (4 * (s6 49 12))).toNat (w32 (Int.tdiv x1 (w32 r5)))) 49 12))) + 1)).toNat (w32 (Int.tdiv x2 (w32 r5)))) 49 12))) + 2)).toNat (w32 (Int.tdiv x3 (w32 r5)))) 57 (w32 ((w32 (4 * ((mset (mset (mset s6 57 (w32 (4 * (s6 49 12))).toNat (w32 (Int.tdiv x1 (w32 r5)))) 57 (w32 ((w32 (4 * ((mset s6 57 (w32 (4 * (s6 49 12))).toNat (w32 (Int.tdiv x1 (w32 r5)))) 49 12))) + 1)).toNat (w32 (Int.tdiv x2 (w32 r5)))) 57 (w32 ((w32 (4 * ((mset (mset s6 57 (w32 (4 * (s6 49 12))).toNat (w32 (Int.tdiv x1 (w32 r5)))) 57 (w32 ((w32 (4 * ((mset s6 57 (w32 (4 * (s6 49 12))).toNat (w32 (Int.tdiv x1 (w32 r5)))) 49 12))) + 1)).toNat (w32 (Int.tdiv x2 (w32 r5)))) 49 12))) + 2)).toNat (w32 (Int.tdiv x3 (w32 r5)))) 49 12))) + 3)).toNat (w32 (Int.tdiv x4 (w32 r5)))) 49 12) < (6 : Int)) ∧ Q ((mset (mset (mset (mset (mset (mset s6 57 (w32 (4 * (s6 49 12))).toNat (w32 (Int.tdiv x1 (w32 r5)))) 57 (w32 ((w32 (4 * ((mset s6 57 (w32 (4 * (s6 49 12))).toNat (w32 (Int.tdiv x1 (w32 r5)))) 49 12))) + 1)).toNat (w32 (Int.tdiv x2 (w32 r5)))) 57 (w32 ((w32 (4 * ((mset (mset s6 57 (w32 (4 * (s6 49 12))).toNat (w32 (Int.tdiv x1 (w32 r5)))) 57 (w32 ((w32 (4 * ((mset s6 57 (w32 (4 * (s6 49 12))).toNat (w32 (Int.tdiv x1 (w32 r5)))) 49 12))) + 1)).toNat (w32 (Int.tdiv x2 (w32 r5)))) 49 12))) + 2)).toNat (w32 (Int.tdiv x3 (w32 r5)))) 57 (w32 ((w32 (4 * ((mset (mset (mset s6 57 (w32 (4 * (s6 49 12))).toNat (w32 (Int.tdiv x1 (w32 r5)))) 57 (w32 ((w32 (4 * ((mset s6 57 (w32 (4 * (s6 49 12))).toNat (w32 (Int.tdiv x1 (w32 r5)))) 49 12))) + 1)).toNat (w32 (Int.tdiv x2 (w32 r5)))) 57 (w32 ((w32 (4 * ((mset (mset s6 57 (w32 (4 * (s6 49 12))).toNat (w32 (Int.tdiv x1 (w32 r5)))) 57 (w32 ((w32 (4 * ((mset s6 57 (w32 (4 * (s6 49 12))).toNat (w32 (Int.tdiv x1 (w32 r5)))) 49 12))) + 1)).toNat (w32 (Int.tdiv x2 (w32 r5)))) 49 12))) + 2)).toNat (w32 (Int.tdiv x3 (w32 r5)))) 49 12))) + 3)).toNat (w32 (Int.tdiv x4 (w32 r5)))) 58 ((mset (mset (mset (mset s6 57 (w32 (4 * (s6 49 12))).toNat (w32 (Int.tdiv x1 (w32 r5)))) 57 (w32 ((w32 (4 * ((mset s6 57 (w32 (4 * (s6 49 12))).toNat (w32 (Int.tdiv x1 (w32 r5)))) 49 12))) + 1)).toNat (w32 (Int.tdiv x2 (w32 r5)))) 57 (w32 ((w32 (4 * ((mset (mset s6 57 (w32 (4 * (s6 49 12))).toNat (w32 (Int.tdiv x1 (w32 r5)))) 57 (w32 ((w32 (4 * ((mset s6 57 (w32 (4 * (s6 49 12))).toNat (w32 (Int.tdiv x1 (w32 r5)))) 49 12))) + 1)).toNat (w32 (Int.tdiv x2 (w32 r5)))) 49 12))) + 2)).toNat (w32 (Int.tdiv x3 (w32 r5)))) 57 (w32 ((w32 (4 * ((mset (mset (mset s6 57 (w32 (4 * (s6 49 12))).toNat (w32 (Int.tdiv x1 (w32 r5)))) 57 (w32 ((w32 (4 * ((mset s6 57 (w32 (4 * (s6 49 12))).toNat (w32 (Int.tdiv x1 (w32 r5)))) 49 12))) + 1)).toNat (w32 (Int.tdiv x2 (w32 r5)))) 57 (w32 ((w32 (4 * ((mset (mset s6 57 (w32 (4 * (s6 49 12))).toNat (w32 (Int.tdiv x1 (w32 r5)))) 57 (w32 ((w32 (4 * ((mset s6 57 (w32 (4 * (s6 49 12))).toNat (w32 (Int.tdiv x1 (w32 r5)))) 49 12))) + 1)).toNat (w32 (Int.tdiv x2 (w32 r5)))) 49 12))) + 2)).toNat (w32 (Int.tdiv x3 (w32 r5)))) 49 12))) + 3)).toNat (w32 (Int.tdiv x4 (w32 r5)))) 49 12).toNat x5) 49 12 (w32 (((mset (mset (mset (mset (mset s6 57 (w32 (4 * (s6 49 12))).toNat (w32 (Int.tdiv x1 (w32 r5)))) 57 (w32 ((w32 (4 * ((mset s6 57 (w32 (4 * (s6 49 12))).toNat (w32 (Int.tdiv x1 (w32 r5)))) 49 12))) + 1)).toNat (w32 (Int.tdiv x2 (w32 r5)))) 57 (w32 ((w32 (4 * ((mset (mset s6 57 (w32 (4 * (s6 49 12))).toNat (w32 (Int.tdiv x1 (w32 r5)))) 57 (w32 ((w32 (4 * ((mset s6 57 (w32 (4 * (s6 49 12))).toNat (w32 (Int.tdiv x1 (w32 r5)))) 49 12))) + 1)).toNat (w32 (Int.tdiv x2 (w32 r5)))) 49 12))) + 2)).toNat (w32 (Int.tdiv x3 (w32 r5)))) 57 (w32 ((w32 (4 * ((mset (mset (mset s6 57 (w32 (4 * (s6 49 12))).toNat (w32 (Int.tdiv x1 (w32 r5)))) 57 (w32 ((w32 (4 * ((mset s6 57 (w32 (4 * (s6 49 12))).toNat (w32 (Int.tdiv x1 (w32 r5)))) 49 12))) + 1)).toNat (w32 (Int.tdiv x2 (w32 r5)))) 57 (w32 ((w32 (4 * ((mset (mset s6 57 (w32 (4 * (s6 49 12))).toNat (w32 (Int.tdiv x1 (w32 r5)))) 57 (w32 ((w32 (4 * ((mset s6 57 (w32 (4 * (s6 49 12))).toNat (w32 (Int.tdiv x1 (w32 r5)))) 49 12))) + 1)).toNat (w32 (Int.tdiv x2 (w32 r5)))) 49 12))) + 2)).toNat (w32 (Int.tdiv x3 (w32 r5)))) 49 12))) + 3)).toNat (w32 (Int.tdiv x4 (w32 r5)))) 58 ((mset (mset (mset (mset s6 57 (w32 (4 * (s6 49 12))).toNat (w32 (Int.tdiv x1 (w32 r5)))) 57 (w32 ((w32 (4 * ((mset s6 57 (w32 (4 * (s6 49 12))).toNat (w32 (Int.tdiv x1 (w32 r5)))) 49 12))) + 1)).toNat (w32 (Int.tdiv x2 (w32 r5)))) 57 (w32 ((w32 (4 * ((mset (mset s6 57 (w32 (4 * (s6 49 12))).toNat (w32 (Int.tdiv x1 (w32 r5)))) 57 (w32 ((w32 (4 * ((mset s6 57 (w32 (4 * (s6 49 12))).toNat (w32 (Int.tdiv x1 (w32 r5)))) 49 12))) + 1)).toNat (w32 (Int.tdiv x2 (w32 r5)))) 49 12))) + 2)).toNat (w32 (Int.tdiv x3 (w32 r5)))) 57 (w32 ((w32 (4 * ((mset (mset (mset s6 57 (w32 (4 * (s6 49 12))).toNat (w32 (Int.tdiv x1 (w32 r5)))) 57 (w32 ((w32 (4 * ((mset s6 57 (w32 (4 * (s6 49 12))).toNat (w32 (Int.tdiv x1 (w32 r5)))) 49 12))) + 1)).toNat (w32 (Int.tdiv x2 (w32 r5)))) 57 (w32 ((w32 (4 * ((mset (mset s6 57 (w32 (4 * (s6 49 12))).toNat (w32 (Int.tdiv x1 (w32 r5)))) 57 (w32 ((w32 (4 * ((mset s6 57 (w32 (4 * (s6 49 12))).toNat (w32 (Int.tdiv x1 (w32 r5)))) 49 12))) + 1)).toNat (w32 (Int.tdiv x2 (w32 r5)))) 49 12))) + 2)).toNat (w32 (Int.tdiv x3 (w32 r5)))) 49 12))) + 3)).toNat (w32 (Int.tdiv x4 (w32 r5)))) 49 12).toNat x5) 49 12) + 1))) 49 12) (mset (mset (mset (mset (mset (mset s6 57 (w32 (4 * (s6 49 12))).toNat (w32 (Int.tdiv x1 (w32 r5)))) 57 (w32 ((w32 (4 * ((mset s6 57 (w32 (4 * (s6 49 12))).toNat (w32 (Int.tdiv x1 (w32 r5)))) 49 12))) + 1)).toNat (w32 (Int.tdiv x2 (w32 r5)))) 57 (w32 ((w32 (4 * ((mset (mset s6 57 (w32 (4 * (s6 49 12))).toNat (w32 (Int.tdiv x1 (w32 r5)))) 57 (w32 ((w32 (4 * ((mset s6 57 (w32 (4 * (s6 49 12))).toNat (w32 (Int.tdiv x1 (w32 r5)))) 49 12))) + 1)).toNat (w32 (Int.tdiv x2 (w32 r5)))) 49 12))) + 2)).toNat (w32 (Int.tdiv x3 (w32 r5)))) 57 (w32 ((w32 (4 * ((mset (mset (mset s6 57 (w32 (4 * (s6 49 12))).toNat (w32 (Int.tdiv x1 (w32 r5)))) 57 (w32 ((w32 (4 * ((mset s6 57 (w32 (4 * (s6 49 12))).toNat (w32 (Int.tdiv x1 (w32 r5)))) 49 12))) + 1)).toNat (w32 (Int.tdiv x2 (w32 r5)))) 57 (w32 ((w32 (4 * ((mset (mset s6 57 (w32 (4 * (s6 49 12))).toNat (w32 (Int.tdiv x1 (w32 r5)))) 57 (w32 ((w32 (4 * ((mset s6 57 (w32 (4 * (s6 49 12))).toNat (w32 (Int.tdiv x1 (w32 r5)))) 49 12))) + 1)).toNat (w32 (Int.tdiv x2 (w32 r5)))) 49 12))) + 2)).toNat (w32 (Int.tdiv x3 (w32 r5)))) 49 12))) + 3)).toNat (w32 (Int.tdiv x4 (w32 r5)))) 58 ((mset (mset (mset (mset s6 57 (w32 (4 * (s6 49 12))).toNat (w32 (Int.tdiv x1 (w32 r5)))) 57 (w32 ((w32 (4 * ((mset s6 57 (w32 (4 * (s6 49 12))).toNat (w32 (Int.tdiv x1 (w32 r5)))) 49 12))) + 1)).toNat (w32 (Int.tdiv x2 (w32 r5)))) 57 (w32 ((w32 (4 * ((mset (mset s6 57 (w32 (4 * (s6 49 12))).toNat (w32 (Int.tdiv x1 (w32 r5)))) 57 (w32 ((w32 (4 * ((mset s6 57 (w32 (4 * (s6 49 12))).toNat (w32 (Int.tdiv x1 (w32 r5)))) 49 12))) + 1)).toNat (w32 (Int.tdiv x2 (w32 r5)))) 49 12))) + 2)).toNat (w32 (Int.tdiv x3 (w32 r5)))) 57 (w32 ((w32 (4 * ((mset (mset (mset s6 57 (w32 (4 * (s6 49 12))).toNat (w32 (Int.tdiv x1 (w32 r5)))) 57 (w32 ((w32 (4 * ((mset s6 57 (w32 (4 * (s6 49 12))).toNat (w32 (Int.tdiv x1 (w32 r5)))) 49 12))) + 1)).toNat (w32 (Int.tdiv x2 (w32 r5)))) 57 (w32 ((w32 (4 * ((mset (mset s6 57 (w32 (4 * (s6 49 12))).toNat (w32 (Int.tdiv x1 (w32 r5)))) 57 (w32 ((w32 (4 * ((mset s6 57 (w32 (4 * (s6 49 12))).toNat (w32 (Int.tdiv x1 (w32 r5)))) 49 12))) + 1)).toNat (w32 (Int.tdiv x2 (w32 r5)))) 49 12))) + 2)).toNat (w32 (Int.tdiv x3 (w32 r5)))) 49 12))) + 3)).toNat (w32 (Int.tdiv x4 (w32 r5)))) 49 12).toNat x5) 49 12 (w32 (((mset (mset (mset (mset (mset s6 57 (w32 (4 * (s6 49 12))).toNat (w32 (Int.tdiv x1 (w32 r5)))) 57 (w32 ((w32 (4 * ((mset s6 57 (w32 (4 * (s6 49 12))).toNat (w32 (Int.tdiv x1 (w32 r5)))) 49 12))) + 1)).toNat (w32 (Int.tdiv x2 (w32 r5)))) 57 (w32 ((w32 (4 * ((mset (mset s6 57 (w32 (4 * (s6 49 12))).toNat (w32 (Int.tdiv x1 (w32 r5)))) 57 (w32 ((w32 (4 * ((mset s6 57 (w32 (4 * (s6 49 12))).toNat (w32 (Int.tdiv x1 (w32 r5)))) 49 12))) + 1)).toNat (w32 (Int.tdiv x2 (w32 r5)))) 49 12))) + 2)).toNat (w32 (Int.tdiv x3 (w32 r5)))) 57 (w32 ((w32 (4 * ((mset (mset (mset s6 57 (w32 (4 * (s6 49 12))).toNat (w32 (Int.tdiv x1 (w32 r5)))) 57 (w32 ((w32 (4 * ((mset s6 57 (w32 (4 * (s6 49 12))).toNat (w32 (Int.tdiv x1 (w32 r5)))) 49 12))) + 1)).toNat (w32 (Int.tdiv x2 (w32 r5)))) 57 (w32 ((w32 (4 * ((mset (mset s6 57 (w32 (4 * (s6 49 12))).toNat (w32 (Int.tdiv x1 (w32 r5)))) 57 (w32 ((w32 (4 * ((mset s6 57 (w32 (4 * (s6 49 12))).toNat (w32 (Int.tdiv x1 (w32 r5)))) 49 12))) + 1)).toNat (w32 (Int.tdiv x2 (w32 r5)))) 49 12))) + 2)).toNat (w32 (Int.tdiv x3 (w32 r5)))) 49 12))) + 3)).toNat (w32 (Int.tdiv x4 (w32 r5)))) 58 ((mset (mset (mset (mset s6 57 (w32 (4 * (s6 49 12))).toNat (w32 (Int.tdiv x1 (w32 r5)))) 57 (w32 ((w32 (4 * ((mset s6 57 (w32 (4 * (s6 49 12))).toNat (w32 (Int.tdiv x1 (w32 r5)))) 49 12))) + 1)).toNat (w32 (Int.tdiv x2 (w32 r5)))) 57 (w32 ((w32 (4 * ((mset (mset s6 57 (w32 (4 * (s6 49 12))).toNat (w32 (Int.tdiv x1 (w32 r5)))) 57 (w32 ((w32 (4 * ((mset s6 57 (w32 (4 * (s6 49 12))).toNat (w32 (Int.tdiv x1 (w32 r5)))) 49 12))) + 1)).toNat (w32 (Int.tdiv x2 (w32 r5)))) 49 12))) + 2)).toNat (w32 (Int.tdiv x3 (w32 r5)))) 57 (w32 ((w32 (4 * ((mset (mset (mset s6 57 (w32 (4 * (s6 49 12))).toNat (w32 (Int.tdiv x1 (w32 r5)))) 57 (w32 ((w32 (4 * ((mset s6 57 (w32 (4 * (s6 49 12))).toNat (w32 (Int.tdiv x1 (w32 r5)))) 49 12))) + 1)).toNat (w32 (Int.tdiv x2 (w32 r5)))) 57 (w32 ((w32 (4 * ((mset (mset s6 57 (w32 (4 * (s6 49 12))).toNat (w32 (Int.tdiv x1 (w32 r5)))) 57 (w32 ((w32 (4 * ((mset s6 57 (w32 (4 * (s6 49 12))).toNat (w32 (Int.tdiv x1 (w32 r5)))) 49 12))) + 1)).toNat (w32 (Int.tdiv x2 (w32 r5)))) 49 12))) + 2)).toNat (w32 (Int.tdiv x3 (w32 r5)))) 49 12))) + 3)).toNat (w32 (Int.tdiv x4 (w32 r5)))) 49 12).toNat x5) 49 12) + 1)))))))) ∧
            (¬ y0 = 0 → K_M_think_150 d Q  σ))))))) : K_M_think_103 d Q x1 x2 x3 x4 x5 y0 σ := XX_intro (g_M_think_103 (call := wp d) (cut := XX none (wp d) c_M_think false Q) (Q := Q) (x1 := x1) (x2 := x2) (x3 := x3) (x4 := x4) (x5 := x5) (y0 := y0) (σ := σ) (h))
theorem g_M_think_150 {call : Nat → List AV → Mem → (Int → Mem → Prop) → Prop} {cut : Nat → Lo → List AV → Mem → Prop} {Q : Int → Mem → Prop}  {σ : Mem} (h :
  call m_M_refuse [.inr (.inr 49), .inl (-6)] σ (fun (r1 : Int) (s2 : Mem) => Q r1 s2)) : seg none call c_M_think false Q cut 2000 true (toPc 150 c_M_think) [some (.inr (.inr 49)), none, none, none, none, none, none, none] [] σ := h
theorem e_M_think_150 {d : Nat} {Q : Int → Mem → Prop}  {σ : Mem} (h :
  wp d m_M_refuse [.inr (.inr 49), .inl (-6)] σ (fun (r1 : Int) (s2 : Mem) => Q r1 s2)) : K_M_think_150 d Q  σ := XX_intro (g_M_think_150 (call := wp d) (cut := XX none (wp d) c_M_think false Q) (Q := Q)  (σ := σ) (h))
theorem g_M_forget {call : Nat → List AV → Mem → (Int → Mem → Prop) → Prop} {cut : Nat → Lo → List AV → Mem → Prop} {Q : Int → Mem → Prop}  {σ : Mem} (h :
  Q (σ 49 12) (mset σ 49 12 0)) : seg none call c_M_forget false Q cut 2000 true (toPc 0 c_M_forget) [some (.inr (.inr 49)), none] [] σ := h
theorem e_M_forget {d : Nat} {Q : Int → Mem → Prop}  {σ : Mem} (h :
  Q (σ 49 12) (mset σ 49 12 0)) : wp (d + 1) m_M_forget [.inr (.inr 49)] σ Q := wp_in rfl (XX_intro (g_M_forget (call := wp d) (cut := XX none (wp d) c_M_forget false Q) (Q := Q)  (σ := σ) (h)))
theorem g_M_allOf {call : Nat → List AV → Mem → (Int → Mem → Prop) → Prop} {cut : Nat → Lo → List AV → Mem → Prop} {Q : Int → Mem → Prop} {a1 : Int} {σ : Mem} (h :
  (0 ≤ (w32 (4 * a1)) ∧ (w32 (4 * a1)) < (24 : Int)) ∧ (0 ≤ (w32 ((w32 (4 * a1)) + 1)) ∧ (w32 ((w32 (4 * a1)) + 1)) < (24 : Int)) ∧ (0 ≤ (w32 ((w32 (4 * a1)) + 2)) ∧ (w32 ((w32 (4 * a1)) + 2)) < (24 : Int)) ∧ (0 ≤ (w32 ((w32 (4 * a1)) + 3)) ∧ (w32 ((w32 (4 * a1)) + 3)) < (24 : Int)) ∧ Q (w32 ((w32 ((w32 ((σ 57 (w32 (4 * a1)).toNat) + (σ 57 (w32 ((w32 (4 * a1)) + 1)).toNat))) + (σ 57 (w32 ((w32 (4 * a1)) + 2)).toNat))) + (σ 57 (w32 ((w32 (4 * a1)) + 3)).toNat))) σ) : seg none call c_M_allOf false Q cut 2000 true (toPc 0 c_M_allOf) [some (.inr (.inr 49)), some (.inl a1)] [] σ := h
theorem e_M_allOf {d : Nat} {Q : Int → Mem → Prop} {a1 : Int} {σ : Mem} (h :
  (0 ≤ (w32 (4 * a1)) ∧ (w32 (4 * a1)) < (24 : Int)) ∧ (0 ≤ (w32 ((w32 (4 * a1)) + 1)) ∧ (w32 ((w32 (4 * a1)) + 1)) < (24 : Int)) ∧ (0 ≤ (w32 ((w32 (4 * a1)) + 2)) ∧ (w32 ((w32 (4 * a1)) + 2)) < (24 : Int)) ∧ (0 ≤ (w32 ((w32 (4 * a1)) + 3)) ∧ (w32 ((w32 (4 * a1)) + 3)) < (24 : Int)) ∧ Q (w32 ((w32 ((w32 ((σ 57 (w32 (4 * a1)).toNat) + (σ 57 (w32 ((w32 (4 * a1)) + 1)).toNat))) + (σ 57 (w32 ((w32 (4 * a1)) + 2)).toNat))) + (σ 57 (w32 ((w32 (4 * a1)) + 3)).toNat))) σ) : wp (d + 1) m_M_allOf [.inr (.inr 49), .inl a1] σ Q := wp_in rfl (XX_intro (g_M_allOf (call := wp d) (cut := XX none (wp d) c_M_allOf false Q) (Q := Q) (a1 := a1) (σ := σ) (h)))
abbrev K_M_allShares_4 (d : Nat) (Q : Int → Mem → Prop) (x1 : Int) (x2 : Int) (σ : Mem) : Prop := XX none (wp d) c_M_allShares false Q 4 [some (.inr (.inr 49)), some (.inl x1), some (.inl x2)] [] σ
theorem g_M_allShares {call : Nat → List AV → Mem → (Int → Mem → Prop) → Prop} {cut : Nat → Lo → List AV → Mem → Prop} {Q : Int → Mem → Prop}  {σ : Mem} (h :
  cut 4 [some (.inr (.inr 49)), some (.inl 0), some (.inl 0)] [] σ) : seg none call c_M_allShares false Q cut 2000 true (toPc 0 c_M_allShares) [some (.inr (.inr 49)), none, none] [] σ := h
theorem e_M_allShares {d : Nat} {Q : Int → Mem → Prop}  {σ : Mem} (h :
  K_M_allShares_4 d Q 0 0 σ) : wp (d + 1) m_M_allShares [.inr (.inr 49)] σ Q := wp_in rfl (XX_intro (g_M_allShares (call := wp d) (cut := XX none (wp d) c_M_allShares false Q) (Q := Q)  (σ := σ) (h)))
theorem g_M_allShares_4 {call : Nat → List AV → Mem → (Int → Mem → Prop) → Prop} {cut : Nat → Lo → List AV → Mem → Prop} {Q : Int → Mem → Prop} {x1 : Int} {x2 : Int} {σ : Mem} (h :
  (x2 < (σ 49 12) →
    (0 ≤ x2 ∧ x2 < (6 : Int)) ∧ cut 4 [some (.inr (.inr 49)), some (.inl (w32 (x1 + (σ 58 x2.toNat)))), some (.inl (w32 (x2 + 1)))] [] σ) ∧
  ((σ 49 12) ≤ x2 → Q x1 σ)) : seg none call c_M_allShares false Q cut 2000 true (toPc 4 c_M_allShares) [some (.inr (.inr 49)), some (.inl x1), some (.inl x2)] [] σ := h
theorem e_M_allShares_4 {d : Nat} {Q : Int → Mem → Prop} {x1 : Int} {x2 : Int} {σ : Mem} (h :
  (x2 < (σ 49 12) →
    (0 ≤ x2 ∧ x2 < (6 : Int)) ∧ K_M_allShares_4 d Q (w32 (x1 + (σ 58 x2.toNat))) (w32 (x2 + 1)) σ) ∧
  ((σ 49 12) ≤ x2 → Q x1 σ)) : K_M_allShares_4 d Q x1 x2 σ := XX_intro (g_M_allShares_4 (call := wp d) (cut := XX none (wp d) c_M_allShares false Q) (Q := Q) (x1 := x1) (x2 := x2) (σ := σ) (h))
abbrev K_M_begin_2 (d : Nat) (Q : Int → Mem → Prop) (x1 : Int) (x2 : Int) (σ : Mem) : Prop := XX none (wp d) c_M_begin false Q 2 [some (.inr (.inr 49)), some (.inl x1), some (.inl x2)] [] σ
theorem g_M_begin {call : Nat → List AV → Mem → (Int → Mem → Prop) → Prop} {cut : Nat → Lo → List AV → Mem → Prop} {Q : Int → Mem → Prop} {a1 : Int} {σ : Mem} (h :
  cut 2 [some (.inr (.inr 49)), some (.inl a1), some (.inl 0)] [] σ) : seg none call c_M_begin false Q cut 2000 true (toPc 0 c_M_begin) [some (.inr (.inr 49)), some (.inl a1), none] [] σ := h
theorem e_M_begin {d : Nat} {Q : Int → Mem → Prop} {a1 : Int} {σ : Mem} (h :
  K_M_begin_2 d Q a1 0 σ) : wp (d + 1) m_M_begin [.inr (.inr 49), .inl a1] σ Q := wp_in rfl (XX_intro (g_M_begin (call := wp d) (cut := XX none (wp d) c_M_begin false Q) (Q := Q) (a1 := a1) (σ := σ) (h)))
theorem g_M_begin_2 {call : Nat → List AV → Mem → (Int → Mem → Prop) → Prop} {cut : Nat → Lo → List AV → Mem → Prop} {Q : Int → Mem → Prop} {x1 : Int} {x2 : Int} {σ : Mem} (h :
  (x2 < 12 →
    (0 ≤ x2 ∧ x2 < (12 : Int)) ∧ cut 2 [some (.inr (.inr 49)), some (.inl x1), some (.inl (w32 (x2 + 1)))] [] (mset σ 70 x2.toNat 0)) ∧
  (12 ≤ x2 →
    (¬ (10000 : Int) = 0) ∧ (0 ≤ (0 : Int) ∧ 0 < (12 : Int)) ∧ (¬ (10000 : Int) = 0) ∧ (0 ≤ (1 : Int) ∧ 1 < (12 : Int)) ∧ Q 0 (mset (mset σ 70 0 (Int.tmod x1 10000)) 70 1 (w32 (Int.tdiv x1 10000))))) : seg none call c_M_begin false Q cut 2000 true (toPc 2 c_M_begin) [some (.inr (.inr 49)), some (.inl x1), some (.inl x2)] [] σ := h
theorem e_M_begin_2 {d : Nat} {Q : Int → Mem → Prop} {x1 : Int} {x2 : Int} {σ : Mem} (h :
  (x2 < 12 →
    (0 ≤ x2 ∧ x2 < (12 : Int)) ∧ K_M_begin_2 d Q x1 (w32 (x2 + 1)) (mset σ 70 x2.toNat 0)) ∧
  (12 ≤ x2 → Q 0 (mset (mset σ 70 0 (Int.tmod x1 10000)) 70 1 (w32 (Int.tdiv x1 10000))))) : K_M_begin_2 d Q x1 x2 σ := XX_intro (g_M_begin_2 (call := wp d) (cut := XX none (wp d) c_M_begin false Q) (Q := Q) (x1 := x1) (x2 := x2) (σ := σ) (⟨fun z1 => (h).1 z1, fun z1 => ⟨(by decide), ⟨⟨by decide, by decide⟩, ⟨(by decide), ⟨⟨by decide, by decide⟩, ((h).2 z1)⟩⟩⟩⟩⟩))
abbrev K_M_times_5 (d : Nat) (Q : Int → Mem → Prop) (x1 : Int) (x2 : Int) (x4 : Int) (σ : Mem) : Prop := XX none (wp d) c_M_times false Q 5 [some (.inr (.inr 49)), some (.inl x1), some (.inr (.inl x2)), none, some (.inl x4)] [] σ
theorem g_M_times {call : Nat → List AV → Mem → (Int → Mem → Prop) → Prop} {cut : Nat → Lo → List AV → Mem → Prop} {Q : Int → Mem → Prop} {a1 : Int} {σ : Mem} (h :
  cut 5 [some (.inr (.inr 49)), some (.inl a1), some (.inr (.inl 0)), none, some (.inl 0)] [] σ) : seg none call c_M_times false Q cut 2000 true (toPc 0 c_M_times) [some (.inr (.inr 49)), some (.inl a1), none, none, none] [] σ := h
theorem e_M_times {d : Nat} {Q : Int → Mem → Prop} {a1 : Int} {σ : Mem} (h :
  K_M_times_5 d Q a1 0 0 σ) : wp (d + 1) m_M_times [.inr (.inr 49), .inl a1] σ Q := wp_in rfl (XX_intro (g_M_times (call := wp d) (cut := XX none (wp d) c_M_times false Q) (Q := Q) (a1 := a1) (σ := σ) (h)))
theorem g_M_times_5 {call : Nat → List AV → Mem → (Int → Mem → Prop) → Prop} {cut : Nat → Lo → List AV → Mem → Prop} {Q : Int → Mem → Prop} {x1 : Int} {x2 : Int} {x4 : Int} {σ : Mem} (h :
  (x4 < 12 →
    (0 ≤ x4 ∧ x4 < (12 : Int)) ∧ (¬ (10000 : Int) = 0) ∧ (0 ≤ x4 ∧ x4 < (12 : Int)) ∧ (¬ (10000 : Int) = 0) ∧ cut 5 [some (.inr (.inr 49)), some (.inl x1), some (.inr (.inl (w64 (Int.tdiv (w64 (x2 + (w64 ((σ 70 x4.toNat) * x1)))) 10000)))), none, some (.inl (w32 (x4 + 1)))] [] (mset σ 70 x4.toNat (w32 (Int.tmod (w64 (x2 + (w64 ((σ 70 x4.toNat) * x1)))) 10000)))) ∧
  (12 ≤ x4 → Q 0 σ)) : seg none call c_M_times false Q cut 2000 true (toPc 5 c_M_times) [some (.inr (.inr 49)), some (.inl x1), some (.inr (.inl x2)), none, some (.inl x4)] [] σ := h
theorem e_M_times_5 {d : Nat} {Q : Int → Mem → Prop} {x1 : Int} {x2 : Int} {x4 : Int} {σ : Mem} (h :
  (x4 < 12 →
    (0 ≤ x4 ∧ x4 < (12 : Int)) ∧ (0 ≤ x4 ∧ x4 < (12 : Int)) ∧ K_M_times_5 d Q x1 (w64 (Int.tdiv (w64 (x2 + (w64 ((σ 70 x4.toNat) * x1)))) 10000)) (w32 (x4 + 1)) (mset σ 70 x4.toNat (w32 (Int.tmod (w64 (x2 + (w64 ((σ 70 x4.toNat) * x1)))) 10000)))) ∧
  (12 ≤ x4 → Q 0 σ)) : K_M_times_5 d Q x1 x2 x4 σ := XX_intro (g_M_times_5 (call := wp d) (cut := XX none (wp d) c_M_times false Q) (Q := Q) (x1 := x1) (x2 := x2) (x4 := x4) (σ := σ) (⟨fun z1 => ⟨(((h).1 z1)).1, ⟨(by decide), ⟨((((h).1 z1)).2).1, ⟨(by decide), ((((h).1 z1)).2).2⟩⟩⟩⟩, fun z1 => (h).2 z1⟩))
abbrev K_M_addLimbs_4 (d : Nat) (Q : Int → Mem → Prop) (x1 : Int) (x2 : Int) (σ : Mem) : Prop := XX none (wp d) c_M_addLimbs false Q 4 [some (.inr (.inr 49)), some (.inl x1), some (.inl x2)] [] σ
theorem g_M_addLimbs {call : Nat → List AV → Mem → (Int → Mem → Prop) → Prop} {cut : Nat → Lo → List AV → Mem → Prop} {Q : Int → Mem → Prop}  {σ : Mem} (h :
  cut 4 [some (.inr (.inr 49)), some (.inl 0), some (.inl 0)] [] σ) : seg none call c_M_addLimbs false Q cut 2000 true (toPc 0 c_M_addLimbs) [some (.inr (.inr 49)), none, none] [] σ := h
theorem e_M_addLimbs {d : Nat} {Q : Int → Mem → Prop}  {σ : Mem} (h :
  K_M_addLimbs_4 d Q 0 0 σ) : wp (d + 1) m_M_addLimbs [.inr (.inr 49)] σ Q := wp_in rfl (XX_intro (g_M_addLimbs (call := wp d) (cut := XX none (wp d) c_M_addLimbs false Q) (Q := Q)  (σ := σ) (h)))
theorem g_M_addLimbs_4 {call : Nat → List AV → Mem → (Int → Mem → Prop) → Prop} {cut : Nat → Lo → List AV → Mem → Prop} {Q : Int → Mem → Prop} {x1 : Int} {x2 : Int} {σ : Mem} (h :
  (x2 < 12 →
    (0 ≤ x2 ∧ x2 < (12 : Int)) ∧ (0 ≤ x2 ∧ x2 < (12 : Int)) ∧ (¬ (10000 : Int) = 0) ∧ (0 ≤ x2 ∧ x2 < (12 : Int)) ∧ (¬ (10000 : Int) = 0) ∧ cut 4 [some (.inr (.inr 49)), some (.inl (w32 (Int.tdiv (w32 (x1 + (w32 ((σ 68 x2.toNat) + (σ 70 x2.toNat))))) 10000))), some (.inl (w32 (x2 + 1)))] [] (mset σ 68 x2.toNat (Int.tmod (w32 (x1 + (w32 ((σ 68 x2.toNat) + (σ 70 x2.toNat))))) 10000))) ∧
  (12 ≤ x2 → Q 0 σ)) : seg none call c_M_addLimbs false Q cut 2000 true (toPc 4 c_M_addLimbs) [some (.inr (.inr 49)), some (.inl x1), some (.inl x2)] [] σ := h
theorem e_M_addLimbs_4 {d : Nat} {Q : Int → Mem → Prop} {x1 : Int} {x2 : Int} {σ : Mem} (h :
  (x2 < 12 →
    (0 ≤ x2 ∧ x2 < (12 : Int)) ∧ (0 ≤ x2 ∧ x2 < (12 : Int)) ∧ (0 ≤ x2 ∧ x2 < (12 : Int)) ∧ K_M_addLimbs_4 d Q (w32 (Int.tdiv (w32 (x1 + (w32 ((σ 68 x2.toNat) + (σ 70 x2.toNat))))) 10000)) (w32 (x2 + 1)) (mset σ 68 x2.toNat (Int.tmod (w32 (x1 + (w32 ((σ 68 x2.toNat) + (σ 70 x2.toNat))))) 10000))) ∧
  (12 ≤ x2 → Q 0 σ)) : K_M_addLimbs_4 d Q x1 x2 σ := XX_intro (g_M_addLimbs_4 (call := wp d) (cut := XX none (wp d) c_M_addLimbs false Q) (Q := Q) (x1 := x1) (x2 := x2) (σ := σ) (⟨fun z1 => ⟨(((h).1 z1)).1, ⟨((((h).1 z1)).2).1, ⟨(by decide), ⟨(((((h).1 z1)).2).2).1, ⟨(by decide), (((((h).1 z1)).2).2).2⟩⟩⟩⟩⟩, fun z1 => (h).2 z1⟩))
abbrev K_M_isLeft_8 (d : Nat) (Q : Int → Mem → Prop) (x1 : Int) (x2 : Int) (x3 : Int) (σ : Mem) : Prop := XX none (wp d) c_M_isLeft true Q 8 [some (.inr (.inr 49)), some (.inl x1), some (.inl x2), some (.inl x3), none] [] σ
abbrev K_M_isLeft_29 (d : Nat) (Q : Int → Mem → Prop) (x1 : Int) (x2 : Int) (x3 : Int) (σ : Mem) : Prop := XX none (wp d) c_M_isLeft true Q 29 [some (.inr (.inr 49)), some (.inl x1), some (.inl x2), some (.inl x3), none] [] σ
abbrev K_M_isLeft_69 (d : Nat) (Q : Int → Mem → Prop) (x1 : Int) (x2 : Int) (x3 : Int) (x4 : Int) (σ : Mem) : Prop := XX none (wp d) c_M_isLeft true Q 69 [some (.inr (.inr 49)), some (.inl x1), some (.inl x2), some (.inl x3), some (.inl x4)] [] σ
abbrev K_M_isLeft_134 (d : Nat) (Q : Int → Mem → Prop) (x3 : Int) (σ : Mem) : Prop := XX none (wp d) c_M_isLeft true Q 134 [some (.inr (.inr 49)), none, none, some (.inl x3), none] [] σ
abbrev K_M_isLeft_162 (d : Nat) (Q : Int → Mem → Prop) (x3 : Int) (x4 : Int) (σ : Mem) : Prop := XX none (wp d) c_M_isLeft true Q 162 [some (.inr (.inr 49)), none, none, some (.inl x3), some (.inl x4)] [] σ
theorem g_M_isLeft {call : Nat → List AV → Mem → (Int → Mem → Prop) → Prop} {cut : Nat → Lo → List AV → Mem → Prop} {Q : Int → Mem → Prop} {a1 : Int} {σ : Mem} (h :
  call m_M_allBefore [.inr (.inr 49)] σ (fun (r1 : Int) (s2 : Mem) =>
  cut 8 [some (.inr (.inr 49)), some (.inl a1), some (.inl (w32 r1)), some (.inl 0), none] [] s2)) : seg none call c_M_isLeft true Q cut 2000 true (toPc 0 c_M_isLeft) [some (.inr (.inr 49)), some (.inl a1), none, none, none] [] σ := h
theorem e_M_isLeft {d : Nat} {Q : Int → Mem → Prop} {a1 : Int} {σ : Mem} (h :
  wp d m_M_allBefore [.inr (.inr 49)] σ (fun (r1 : Int) (s2 : Mem) => K_M_isLeft_8 d Q a1 (w32 r1) 0 s2)) : wp (d + 1) m_M_isLeft [.inr (.inr 49), .inl a1] σ Q := wp_in rfl (XX_intro (g_M_isLeft (call := wp d) (cut := XX none (wp d) c_M_isLeft true Q) (Q := Q) (a1 := a1) (σ := σ) (h)))
theorem g_M_isLeft_8 {call : Nat → List AV → Mem → (Int → Mem → Prop) → Prop} {cut : Nat → Lo → List AV → Mem → Prop} {Q : Int → Mem → Prop} {x1 : Int} {x2 : Int} {x3 : Int} {σ : Mem} (h :
  (x3 < 12 →
    (0 ≤ x3 ∧ x3 < (12 : Int)) ∧ cut 8 [some (.inr (.inr 49)), some (.inl x1), some (.inl x2), some (.inl (w32 (x3 + 1))), none] [] (mset σ 68 x3.toNat 0)) ∧
  (12 ≤ x3 →
    cut 29 [some (.inr (.inr 49)), some (.inl x1), some (.inl x2), some (.inl 0), none] [] σ)) : seg none call c_M_isLeft true Q cut 2000 true (toPc 8 c_M_isLeft) [some (.inr (.inr 49)), some (.inl x1), some (.inl x2), some (.inl x3), none] [] σ := h
theorem e_M_isLeft_8 {d : Nat} {Q : Int → Mem → Prop} {x1 : Int} {x2 : Int} {x3 : Int} {σ : Mem} (h :
  (x3 < 12 →
    (0 ≤ x3 ∧ x3 < (12 : Int)) ∧ K_M_isLeft_8 d Q x1 x2 (w32 (x3 + 1)) (mset σ 68 x3.toNat 0)) ∧
  (12 ≤ x3 → K_M_isLeft_29 d Q x1 x2 0 σ)) : K_M_isLeft_8 d Q x1 x2 x3 σ := XX_intro (g_M_isLeft_8 (call := wp d) (cut := XX none (wp d) c_M_isLeft true Q) (Q := Q) (x1 := x1) (x2 := x2) (x3 := x3) (σ := σ) (h))
theorem g_M_isLeft_29 {call : Nat → List AV → Mem → (Int → Mem → Prop) → Prop} {cut : Nat → Lo → List AV → Mem → Prop} {Q : Int → Mem → Prop} {x1 : Int} {x2 : Int} {x3 : Int} {σ : Mem} (h :
  (x3 < (σ 49 12) →
    (0 ≤ x3 ∧ x3 < (6 : Int)) ∧ call m_M_begin [.inr (.inr 49), .inl (σ 58 x3.toNat)] σ (fun (r7 : Int) (s8 : Mem) =>
    (0 ≤ (w32 ((w32 (4 * x3)) + x1)) ∧ (w32 ((w32 (4 * x3)) + x1)) < (24 : Int)) ∧ call m_M_times [.inr (.inr 49), .inl (s8 57 (w32 ((w32 (4 * x3)) + x1)).toNat)] s8 (fun (r9 : Int) (s10 : Mem) =>
      call m_M_times [.inr (.inr 49), .inl x2] s10 (fun (r11 : Int) (s12 : Mem) =>
        cut 69 [some (.inr (.inr 49)), some (.inl x1), some (.inl x2), some (.inl x3), some (.inl 0)] [] s12)))) ∧
  ((σ 49 12) ≤ x3 →
    call m_M_allShares [.inr (.inr 49)] σ (fun (r1 : Int) (s2 : Mem) =>
    call m_M_begin [.inr (.inr 49), .inl r1] s2 (fun (r3 : Int) (s4 : Mem) =>
      (0 ≤ x1 ∧ x1 < (4 : Int)) ∧ call m_M_times [.inr (.inr 49), .inl (s4 51 x1.toNat)] s4 (fun (r5 : Int) (s6 : Mem) =>
        cut 134 [some (.inr (.inr 49)), none, none, some (.inl 0), none] [] s6))))) : seg none call c_M_isLeft true Q cut 2000 true (toPc 29 c_M_isLeft) [some (.inr (.inr 49)), some (.inl x1), some (.inl x2), some (.inl x3), none] [] σ := h
theorem e_M_isLeft_29 {d : Nat} {Q : Int → Mem → Prop} {x1 : Int} {x2 : Int} {x3 : Int} {σ : Mem} (h :
  (x3 < (σ 49 12) →
    (0 ≤ x3 ∧ x3 < (6 : Int)) ∧ wp d m_M_begin [.inr (.inr 49), .inl (σ 58 x3.toNat)] σ (fun (r7 : Int) (s8 : Mem) =>
    (0 ≤ (w32 ((w32 (4 * x3)) + x1)) ∧ (w32 ((w32 (4 * x3)) + x1)) < (24 : Int)) ∧ wp d m_M_times [.inr (.inr 49), .inl (s8 57 (w32 ((w32 (4 * x3)) + x1)).toNat)] s8 (fun (r9 : Int) (s10 : Mem) =>
      wp d m_M_times [.inr (.inr 49), .inl x2] s10 (fun (r11 : Int) (s12 : Mem) => K_M_isLeft_69 d Q x1 x2 x3 0 s12)))) ∧
  ((σ 49 12) ≤ x3 →
    wp d m_M_allShares [.inr (.inr 49)] σ (fun (r1 : Int) (s2 : Mem) =>
    wp d m_M_begin [.inr (.inr 49), .inl r1] s2 (fun (r3 : Int) (s4 : Mem) =>
      (0 ≤ x1 ∧ x1 < (4 : Int)) ∧ wp d m_M_times [.inr (.inr 49), .inl (s4 51 x1.toNat)] s4 (fun (r5 : Int) (s6 : Mem) => K_M_isLeft_134 d Q 0 s6))))) : K_M_isLeft_29 d Q x1 x2 x3 σ := XX_intro (g_M_isLeft_29 (call := wp d) (cut := XX none (wp d) c_M_isLeft true Q) (Q := Q) (x1 := x1) (x2 := x2) (x3 := x3) (σ := σ) (h))
theorem g_M_isLeft_69 {call : Nat → List AV → Mem → (Int → Mem → Prop) → Prop} {cut : Nat → Lo → List AV → Mem → Prop} {Q : Int → Mem → Prop} {x1 : Int} {x2 : Int} {x3 : Int} {x4 : Int} {σ : Mem} (h :
  (x4 < (σ 49 12) →
    (x4 = x3 →
      call m_M_times [.inr (.inr 49), .inl 1] σ (fun (r7 : Int) (s8 : Mem) =>
      cut 69 [some (.inr (.inr 49)), some (.inl x1), some (.inl x2), some (.inl x3), some (.inl (w32 (x4 + 1)))] [] s8)) ∧
    (¬ x4 = x3 →
      call m_M_allOf [.inr (.inr 49), .inl x4] σ (fun (r3 : Int) (s4 : Mem) =>
      call m_M_times [.inr (.inr 49), .inl r3] s4 (fun (r5 : Int) (s6 : Mem) =>
        cut 69 [some (.inr (.inr 49)), some (.inl x1), some (.inl x2), some (.inl x3), some (.inl (w32 (x4 + 1)))] [] s6)))) ∧
  ((σ 49 12) ≤ x4 →
    call m_M_addLimbs [.inr (.inr 49)] σ (fun (r1 : Int) (s2 : Mem) =>
    cut 29 [some (.inr (.inr 49)), some (.inl x1), some (.inl x2), some (.inl (w32 (x3 + 1))), none] [] s2))) : seg none call c_M_isLeft true Q cut 2000 true (toPc 69 c_M_isLeft) [some (.inr (.inr 49)), some (.inl x1), some (.inl x2), some (.inl x3), some (.inl x4)] [] σ := h
theorem e_M_isLeft_69 {d : Nat} {Q : Int → Mem → Prop} {x1 : Int} {x2 : Int} {x3 : Int} {x4 : Int} {σ : Mem} (h :
  (x4 < (σ 49 12) →
    (x4 = x3 →
      wp d m_M_times [.inr (.inr 49), .inl 1] σ (fun (r7 : Int) (s8 : Mem) => K_M_isLeft_69 d Q x1 x2 x3 (w32 (x4 + 1)) s8)) ∧
    (¬ x4 = x3 →
      wp d m_M_allOf [.inr (.inr 49), .inl x4] σ (fun (r3 : Int) (s4 : Mem) =>
      wp d m_M_times [.inr (.inr 49), .inl r3] s4 (fun (r5 : Int) (s6 : Mem) => K_M_isLeft_69 d Q x1 x2 x3 (w32 (x4 + 1)) s6)))) ∧
  ((σ 49 12) ≤ x4 →
    wp d m_M_addLimbs [.inr (.inr 49)] σ (fun (r1 : Int) (s2 : Mem) => K_M_isLeft_29 d Q x1 x2 (w32 (x3 + 1)) s2))) : K_M_isLeft_69 d Q x1 x2 x3 x4 σ := XX_intro (g_M_isLeft_69 (call := wp d) (cut := XX none (wp d) c_M_isLeft true Q) (Q := Q) (x1 := x1) (x2 := x2) (x3 := x3) (x4 := x4) (σ := σ) (h))
theorem g_M_isLeft_134 {call : Nat → List AV → Mem → (Int → Mem → Prop) → Prop} {cut : Nat → Lo → List AV → Mem → Prop} {Q : Int → Mem → Prop} {x3 : Int} {σ : Mem} (h :
  (x3 < (σ 49 12) →
    call m_M_allOf [.inr (.inr 49), .inl x3] σ (fun (r1 : Int) (s2 : Mem) =>
    call m_M_times [.inr (.inr 49), .inl r1] s2 (fun (r3 : Int) (s4 : Mem) =>
      cut 134 [some (.inr (.inr 49)), none, none, some (.inl (w32 (x3 + 1))), none] [] s4))) ∧
  ((σ 49 12) ≤ x3 → cut 162 [some (.inr (.inr 49)), none, none, some (.inl 1), some (.inl 0)] [] σ)) : seg none call c_M_isLeft true Q cut 2000 true (toPc 134 c_M_isLeft) [some (.inr (.inr 49)), none, none, some (.inl x3), none] [] σ := h
theorem e_M_isLeft_134 {d : Nat} {Q : Int → Mem → Prop} {x3 : Int} {σ : Mem} (h :
  (x3 < (σ 49 12) →
    wp d m_M_allOf [.inr (.inr 49), .inl x3] σ (fun (r1 : Int) (s2 : Mem) =>
    wp d m_M_times [.inr (.inr 49), .inl r1] s2 (fun (r3 : Int) (s4 : Mem) => K_M_isLeft_134 d Q (w32 (x3 + 1)) s4))) ∧
  ((σ 49 12) ≤ x3 → K_M_isLeft_162 d Q 1 0 σ)) : K_M_isLeft_134 d Q x3 σ := XX_intro (g_M_isLeft_134 (call := wp d) (cut := XX none (wp d) c_M_isLeft true Q) (Q := Q) (x3 := x3) (σ := σ) (h))
theorem g_M_isLeft_162 {call : Nat → List AV → Mem → (Int → Mem → Prop) → Prop} {cut : Nat → Lo → List AV → Mem → Prop} {Q : Int → Mem → Prop} {x3 : Int} {x4 : Int} {σ : Mem} (h :
  (x4 < 12 →
    (x3 = 0 →
      cut 162 [some (.inr (.inr 49)), none, none, some (.inl 0), some (.inl (w32 (x4 + 1)))] [] σ) ∧
    (¬ x3 = 0 →
      (0 ≤ x4 ∧ x4 < (12 : Int)) ∧ (0 ≤ x4 ∧ x4 < (12 : Int)) ∧ ((σ 70 x4.toNat) = (σ 68 x4.toNat) →
        cut 162 [some (.inr (.inr 49)), none, none, some (.inl 1), some (.inl (w32 (x4 + 1)))] [] σ) ∧
      (¬ (σ 70 x4.toNat) = (σ 68 x4.toNat) →
        cut 162 [some (.inr (.inr 49)), none, none, some (.inl 0), some (.inl (w32 (x4 + 1)))] [] σ))) ∧
  (12 ≤ x4 → isB x3 ∧ Q x3 σ)) : seg none call c_M_isLeft true Q cut 2000 true (toPc 162 c_M_isLeft) [some (.inr (.inr 49)), none, none, some (.inl x3), some (.inl x4)] [] σ := h
theorem e_M_isLeft_162 {d : Nat} {Q : Int → Mem → Prop} {x3 : Int} {x4 : Int} {σ : Mem} (h :
  (x4 < 12 →
    (x3 = 0 → K_M_isLeft_162 d Q 0 (w32 (x4 + 1)) σ) ∧
    (¬ x3 = 0 →
      (0 ≤ x4 ∧ x4 < (12 : Int)) ∧ (0 ≤ x4 ∧ x4 < (12 : Int)) ∧ ((σ 70 x4.toNat) = (σ 68 x4.toNat) → K_M_isLeft_162 d Q 1 (w32 (x4 + 1)) σ) ∧
      (¬ (σ 70 x4.toNat) = (σ 68 x4.toNat) → K_M_isLeft_162 d Q 0 (w32 (x4 + 1)) σ))) ∧
  (12 ≤ x4 → isB x3 ∧ Q x3 σ)) : K_M_isLeft_162 d Q x3 x4 σ := XX_intro (g_M_isLeft_162 (call := wp d) (cut := XX none (wp d) c_M_isLeft true Q) (Q := Q) (x3 := x3) (x4 := x4) (σ := σ) (h))
abbrev K_M_firstOther_2 (d : Nat) (Q : Int → Mem → Prop) (x1 : Int) (σ : Mem) : Prop := XX none (wp d) c_M_firstOther false Q 2 [some (.inr (.inr 49)), some (.inl x1)] [] σ
theorem g_M_firstOther {call : Nat → List AV → Mem → (Int → Mem → Prop) → Prop} {cut : Nat → Lo → List AV → Mem → Prop} {Q : Int → Mem → Prop}  {σ : Mem} (h :
  cut 2 [some (.inr (.inr 49)), some (.inl 0)] [] σ) : seg none call c_M_firstOther false Q cut 2000 true (toPc 0 c_M_firstOther) [some (.inr (.inr 49)), none] [] σ := h
theorem e_M_firstOther {d : Nat} {Q : Int → Mem → Prop}  {σ : Mem} (h :
  K_M_firstOther_2 d Q 0 σ) : wp (d + 1) m_M_firstOther [.inr (.inr 49)] σ Q := wp_in rfl (XX_intro (g_M_firstOther (call := wp d) (cut := XX none (wp d) c_M_firstOther false Q) (Q := Q)  (σ := σ) (h)))
theorem g_M_firstOther_2 {call : Nat → List AV → Mem → (Int → Mem → Prop) → Prop} {cut : Nat → Lo → List AV → Mem → Prop} {Q : Int → Mem → Prop} {x1 : Int} {σ : Mem} (h :
  (x1 < (σ 49 0) →
    call m_M_isLeft [.inr (.inr 49), .inl x1] σ (fun (r1 : Int) (s2 : Mem) =>
    (r1 = 0 → Q x1 s2) ∧
      (¬ r1 = 0 → cut 2 [some (.inr (.inr 49)), some (.inl (w32 (x1 + 1)))] [] s2))) ∧
  ((σ 49 0) ≤ x1 → Q (-9) σ)) : seg none call c_M_firstOther false Q cut 2000 true (toPc 2 c_M_firstOther) [some (.inr (.inr 49)), some (.inl x1)] [] σ := h
theorem e_M_firstOther_2 {d : Nat} {Q : Int → Mem → Prop} {x1 : Int} {σ : Mem} (h :
  (x1 < (σ 49 0) →
    wp d m_M_isLeft [.inr (.inr 49), .inl x1] σ (fun (r1 : Int) (s2 : Mem) =>
    (r1 = 0 → Q x1 s2) ∧
      (¬ r1 = 0 → K_M_firstOther_2 d Q (w32 (x1 + 1)) s2))) ∧
  ((σ 49 0) ≤ x1 → Q (-9) σ)) : K_M_firstOther_2 d Q x1 σ := XX_intro (g_M_firstOther_2 (call := wp d) (cut := XX none (wp d) c_M_firstOther false Q) (Q := Q) (x1 := x1) (σ := σ) (h))
theorem g_M_made {call : Nat → List AV → Mem → (Int → Mem → Prop) → Prop} {cut : Nat → Lo → List AV → Mem → Prop} {Q : Int → Mem → Prop}  {σ : Mem} (h :
  ((σ 49 0) = 0 →
    call m_M_refuse [.inr (.inr 49), .inl (-3)] σ (fun (r1 : Int) (s2 : Mem) => Q r1 s2)) ∧
  (¬ (σ 49 0) = 0 →
    ((σ 49 12) = 0 →
      call m_M_refuse [.inr (.inr 49), .inl (-3)] σ (fun (r5 : Int) (s6 : Mem) => Q r5 s6)) ∧
    (¬ (σ 49 12) = 0 → call m_M_firstOther [.inr (.inr 49)] σ (fun (r3 : Int) (s4 : Mem) => Q r3 s4)))) : seg none call c_M_made false Q cut 2000 true (toPc 0 c_M_made) [some (.inr (.inr 49))] [] σ := h
theorem e_M_made {d : Nat} {Q : Int → Mem → Prop}  {σ : Mem} (h :
  ((σ 49 0) = 0 →
    wp d m_M_refuse [.inr (.inr 49), .inl (-3)] σ (fun (r1 : Int) (s2 : Mem) => Q r1 s2)) ∧
  (¬ (σ 49 0) = 0 →
    ((σ 49 12) = 0 →
      wp d m_M_refuse [.inr (.inr 49), .inl (-3)] σ (fun (r5 : Int) (s6 : Mem) => Q r5 s6)) ∧
    (¬ (σ 49 12) = 0 → wp d m_M_firstOther [.inr (.inr 49)] σ (fun (r3 : Int) (s4 : Mem) => Q r3 s4)))) : wp (d + 1) m_M_made [.inr (.inr 49)] σ Q := wp_in rfl (XX_intro (g_M_made (call := wp d) (cut := XX none (wp d) c_M_made false Q) (Q := Q)  (σ := σ) (h)))
theorem g_M_chance {call : Nat → List AV → Mem → (Int → Mem → Prop) → Prop} {cut : Nat → Lo → List AV → Mem → Prop} {Q : Int → Mem → Prop} {a1 : Int} {a2 : Int} {a3 : Int} {σ : Mem} (h :
  call m_M_isPart [.inl a3] σ (fun (r1 : Int) (s2 : Mem) =>
  (r1 = 0 →
      call m_M_refuseFar [.inr (.inr 49), .inl (-2)] s2 (fun (r27 : Int) (s28 : Mem) => Q r27 s28)) ∧
    (¬ r1 = 0 →
      ((s2 49 0) = 0 →
        call m_M_refuseFar [.inr (.inr 49), .inl (-3)] s2 (fun (r3 : Int) (s4 : Mem) => Q r3 s4)) ∧
      (¬ (s2 49 0) = 0 →
        ((s2 49 12) = 0 →
          call m_M_refuseFar [.inr (.inr 49), .inl (-3)] s2 (fun (r5 : Int) (s6 : Mem) => Q r5 s6)) ∧
        (¬ (s2 49 12) = 0 →
          call m_M_firstOther [.inr (.inr 49)] s2 (fun (r7 : Int) (s8 : Mem) =>
          (r7 = (-9) →
              call m_M_in [.inr (.inl a1), .inr (.inl 0), .inr (.inl (w32 ((s8 49 12) - 1)))] s8 (fun (r9 : Int) (s10 : Mem) =>
              (r9 = 0 →
                  call m_M_refuseFar [.inr (.inr 49), .inl (-1)] s10 (fun (r11 : Int) (s12 : Mem) => Q r11 s12)) ∧
                (¬ r9 = 0 →
                  call m_M_isTruth [.inr (.inr 49), .inl a2] s10 (fun (r13 : Int) (s14 : Mem) =>
                  (r13 = 0 →
                      call m_M_refuseFar [.inr (.inr 49), .inl (-1)] s14 (fun (r23 : Int) (s24 : Mem) => Q r23 s24)) ∧
                    (¬ r13 = 0 →
                      (0 ≤ a1 ∧ a1 < (6 : Int)) ∧ (0 ≤ (w32 ((w32 (4 * a1)) + a2)) ∧ (w32 ((w32 (4 * a1)) + a2)) < (24 : Int)) ∧ call m_M_allBefore [.inr (.inr 49)] s14 (fun (r15 : Int) (s16 : Mem) =>
                      call m_M_allOf [.inr (.inr 49), .inl a1] s16 (fun (r17 : Int) (s18 : Mem) =>
                        call m_M_allShares [.inr (.inr 49)] s18 (fun (r19 : Int) (s20 : Mem) =>
                          (0 ≤ a2 ∧ a2 < (4 : Int)) ∧ call m_M_fraction [.inr (.inl (w64 ((w64 ((s14 58 a1.toNat) * (s14 57 (w32 ((w32 (4 * a1)) + a2)).toNat))) * r15))), .inr (.inl (w64 ((w64 (r17 * r19)) * (s20 51 a2.toNat)))), .inl a3] s20 (fun (r21 : Int) (s22 : Mem) => Q r21 s22))))))))) ∧
            (¬ r7 = (-9) →
              call m_M_refuseFar [.inr (.inr 49), .inl (-3)] s8 (fun (r25 : Int) (s26 : Mem) => Q r25 s26)))))))) : seg none call c_M_chance false Q cut 2000 true (toPc 0 c_M_chance) [some (.inr (.inr 49)), some (.inl a1), some (.inl a2), some (.inl a3)] [] σ := h
theorem e_M_chance {d : Nat} {Q : Int → Mem → Prop} {a1 : Int} {a2 : Int} {a3 : Int} {σ : Mem} (h :
  wp d m_M_isPart [.inl a3] σ (fun (r1 : Int) (s2 : Mem) =>
  (r1 = 0 →
      wp d m_M_refuseFar [.inr (.inr 49), .inl (-2)] s2 (fun (r27 : Int) (s28 : Mem) => Q r27 s28)) ∧
    (¬ r1 = 0 →
      ((s2 49 0) = 0 →
        wp d m_M_refuseFar [.inr (.inr 49), .inl (-3)] s2 (fun (r3 : Int) (s4 : Mem) => Q r3 s4)) ∧
      (¬ (s2 49 0) = 0 →
        ((s2 49 12) = 0 →
          wp d m_M_refuseFar [.inr (.inr 49), .inl (-3)] s2 (fun (r5 : Int) (s6 : Mem) => Q r5 s6)) ∧
        (¬ (s2 49 12) = 0 →
          wp d m_M_firstOther [.inr (.inr 49)] s2 (fun (r7 : Int) (s8 : Mem) =>
          (r7 = (-9) →
              wp d m_M_in [.inr (.inl a1), .inr (.inl 0), .inr (.inl (w32 ((s8 49 12) - 1)))] s8 (fun (r9 : Int) (s10 : Mem) =>
              (r9 = 0 →
                  wp d m_M_refuseFar [.inr (.inr 49), .inl (-1)] s10 (fun (r11 : Int) (s12 : Mem) => Q r11 s12)) ∧
                (¬ r9 = 0 →
                  wp d m_M_isTruth [.inr (.inr 49), .inl a2] s10 (fun (r13 : Int) (s14 : Mem) =>
                  (r13 = 0 →
                      wp d m_M_refuseFar [.inr (.inr 49), .inl (-1)] s14 (fun (r23 : Int) (s24 : Mem) => Q r23 s24)) ∧
                    (¬ r13 = 0 →
                      (0 ≤ a1 ∧ a1 < (6 : Int)) ∧ (0 ≤ (w32 ((w32 (4 * a1)) + a2)) ∧ (w32 ((w32 (4 * a1)) + a2)) < (24 : Int)) ∧ wp d m_M_allBefore [.inr (.inr 49)] s14 (fun (r15 : Int) (s16 : Mem) =>
                      wp d m_M_allOf [.inr (.inr 49), .inl a1] s16 (fun (r17 : Int) (s18 : Mem) =>
                        wp d m_M_allShares [.inr (.inr 49)] s18 (fun (r19 : Int) (s20 : Mem) =>
                          (0 ≤ a2 ∧ a2 < (4 : Int)) ∧ wp d m_M_fraction [.inr (.inl (w64 ((w64 ((s14 58 a1.toNat) * (s14 57 (w32 ((w32 (4 * a1)) + a2)).toNat))) * r15))), .inr (.inl (w64 ((w64 (r17 * r19)) * (s20 51 a2.toNat)))), .inl a3] s20 (fun (r21 : Int) (s22 : Mem) => Q r21 s22))))))))) ∧
            (¬ r7 = (-9) →
              wp d m_M_refuseFar [.inr (.inr 49), .inl (-3)] s8 (fun (r25 : Int) (s26 : Mem) => Q r25 s26)))))))) : wp (d + 1) m_M_chance [.inr (.inr 49), .inl a1, .inl a2, .inl a3] σ Q := wp_in rfl (XX_intro (g_M_chance (call := wp d) (cut := XX none (wp d) c_M_chance false Q) (Q := Q) (a1 := a1) (a2 := a2) (a3 := a3) (σ := σ) (h)))
abbrev K_M_addCandidate_70 (d : Nat) (Q : Int → Mem → Prop) (x5 : Int) (x7 : Int) (x11 : Int) (σ : Mem) : Prop := XX none (wp d) c_M_addCandidate false Q 70 [some (.inr (.inr 49)), none, none, none, none, some (.inr (.inl x5)), none, some (.inr (.inl x7)), none, none, none, some (.inl x11), none] [] σ
abbrev K_M_addCandidate_151 (d : Nat) (Q : Int → Mem → Prop) (x5 : Int) (x7 : Int) (x11 : Int) (x12 : Int) (σ : Mem) : Prop := XX none (wp d) c_M_addCandidate false Q 151 [some (.inr (.inr 49)), none, none, none, none, some (.inr (.inl x5)), none, some (.inr (.inl x7)), none, none, none, some (.inl x11), some (.inl x12)] [] σ
theorem g_M_addCandidate {call : Nat → List AV → Mem → (Int → Mem → Prop) → Prop} {cut : Nat → Lo → List AV → Mem → Prop} {Q : Int → Mem → Prop} {a1 : Int} {a2 : Int} {σ : Mem} (h :
  (a2 < 0 →
    (a2 < 0 →
      (0 < (w64 (-a1)) →
        ((w64 (-a1)) < (w64 (-a2)) →
          call m_M_divisor [.inr (.inl (w64 (-a1))), .inr (.inl (w64 (-a2)))] σ (fun (r7 : Int) (s8 : Mem) =>
          (¬ r7 = 0) ∧ (¬ r7 = 0) ∧ cut 70 [some (.inr (.inr 49)), none, none, none, none, some (.inr (.inl (w64 (Int.tdiv (w64 (-a1)) r7)))), none, some (.inr (.inl (w64 (Int.tdiv (w64 (-a2)) r7)))), none, none, none, some (.inl 0), none] [] s8)) ∧
        ((w64 (-a2)) ≤ (w64 (-a1)) → Q 0 σ)) ∧
      ((w64 (-a1)) ≤ 0 → Q 0 σ)) ∧
    (0 ≤ a2 →
      (0 < (w64 (-a1)) →
        ((w64 (-a1)) < a2 →
          call m_M_divisor [.inr (.inl (w64 (-a1))), .inr (.inl a2)] σ (fun (r5 : Int) (s6 : Mem) =>
          (¬ r5 = 0) ∧ (¬ r5 = 0) ∧ cut 70 [some (.inr (.inr 49)), none, none, none, none, some (.inr (.inl (w64 (Int.tdiv (w64 (-a1)) r5)))), none, some (.inr (.inl (w64 (Int.tdiv a2 r5)))), none, none, none, some (.inl 0), none] [] s6)) ∧
        (a2 ≤ (w64 (-a1)) → Q 0 σ)) ∧
      ((w64 (-a1)) ≤ 0 → Q 0 σ))) ∧
  (0 ≤ a2 →
    (a2 < 0 →
      (0 < a1 →
        (a1 < (w64 (-a2)) →
          call m_M_divisor [.inr (.inl a1), .inr (.inl (w64 (-a2)))] σ (fun (r3 : Int) (s4 : Mem) =>
          (¬ r3 = 0) ∧ (¬ r3 = 0) ∧ cut 70 [some (.inr (.inr 49)), none, none, none, none, some (.inr (.inl (w64 (Int.tdiv a1 r3)))), none, some (.inr (.inl (w64 (Int.tdiv (w64 (-a2)) r3)))), none, none, none, some (.inl 0), none] [] s4)) ∧
        ((w64 (-a2)) ≤ a1 → Q 0 σ)) ∧
      (a1 ≤ 0 → Q 0 σ)) ∧
    (0 ≤ a2 →
      (0 < a1 →
        (a1 < a2 →
          call m_M_divisor [.inr (.inl a1), .inr (.inl a2)] σ (fun (r1 : Int) (s2 : Mem) =>
          (¬ r1 = 0) ∧ (¬ r1 = 0) ∧ cut 70 [some (.inr (.inr 49)), none, none, none, none, some (.inr (.inl (w64 (Int.tdiv a1 r1)))), none, some (.inr (.inl (w64 (Int.tdiv a2 r1)))), none, none, none, some (.inl 0), none] [] s2)) ∧
        (a2 ≤ a1 → Q 0 σ)) ∧
      (a1 ≤ 0 → Q 0 σ)))) : seg none call c_M_addCandidate false Q cut 2000 true (toPc 0 c_M_addCandidate) [some (.inr (.inr 49)), some (.inr (.inl a1)), none, some (.inr (.inl a2)), none, none, none, none, none, none, none, none, none] [] σ := h
theorem e_M_addCandidate {d : Nat} {Q : Int → Mem → Prop} {a1 : Int} {a2 : Int} {σ : Mem} (h :
  (a2 < 0 →
    (a2 < 0 →
      (0 < (w64 (-a1)) →
        ((w64 (-a1)) < (w64 (-a2)) →
          wp d m_M_divisor [.inr (.inl (w64 (-a1))), .inr (.inl (w64 (-a2)))] σ (fun (r7 : Int) (s8 : Mem) =>
          (¬ r7 = 0) ∧ (¬ r7 = 0) ∧ K_M_addCandidate_70 d Q (w64 (Int.tdiv (w64 (-a1)) r7)) (w64 (Int.tdiv (w64 (-a2)) r7)) 0 s8)) ∧
        ((w64 (-a2)) ≤ (w64 (-a1)) → Q 0 σ)) ∧
      ((w64 (-a1)) ≤ 0 → Q 0 σ)) ∧
    (0 ≤ a2 →
      (0 < (w64 (-a1)) →
        ((w64 (-a1)) < a2 →
          wp d m_M_divisor [.inr (.inl (w64 (-a1))), .inr (.inl a2)] σ (fun (r5 : Int) (s6 : Mem) =>
          (¬ r5 = 0) ∧ (¬ r5 = 0) ∧ K_M_addCandidate_70 d Q (w64 (Int.tdiv (w64 (-a1)) r5)) (w64 (Int.tdiv a2 r5)) 0 s6)) ∧
        (a2 ≤ (w64 (-a1)) → Q 0 σ)) ∧
      ((w64 (-a1)) ≤ 0 → Q 0 σ))) ∧
  (0 ≤ a2 →
    (a2 < 0 →
      (0 < a1 →
        (a1 < (w64 (-a2)) →
          wp d m_M_divisor [.inr (.inl a1), .inr (.inl (w64 (-a2)))] σ (fun (r3 : Int) (s4 : Mem) =>
          (¬ r3 = 0) ∧ (¬ r3 = 0) ∧ K_M_addCandidate_70 d Q (w64 (Int.tdiv a1 r3)) (w64 (Int.tdiv (w64 (-a2)) r3)) 0 s4)) ∧
        ((w64 (-a2)) ≤ a1 → Q 0 σ)) ∧
      (a1 ≤ 0 → Q 0 σ)) ∧
    (0 ≤ a2 →
      (0 < a1 →
        (a1 < a2 →
          wp d m_M_divisor [.inr (.inl a1), .inr (.inl a2)] σ (fun (r1 : Int) (s2 : Mem) =>
          (¬ r1 = 0) ∧ (¬ r1 = 0) ∧ K_M_addCandidate_70 d Q (w64 (Int.tdiv a1 r1)) (w64 (Int.tdiv a2 r1)) 0 s2)) ∧
        (a2 ≤ a1 → Q 0 σ)) ∧
      (a1 ≤ 0 → Q 0 σ)))) : wp (d + 1) m_M_addCandidate [.inr (.inr 49), .inr (.inl a1), .inr (.inl a2)] σ Q := wp_in rfl (XX_intro (g_M_addCandidate (call := wp d) (cut := XX none (wp d) c_M_addCandidate false Q) (Q := Q) (a1 := a1) (a2 := a2) (σ := σ) (h)))
theorem g_M_addCandidate_70 {call : Nat → List AV → Mem → (Int → Mem → Prop) → Prop} {cut : Nat → Lo → List AV → Mem → Prop} {Q : Int → Mem → Prop} {x5 : Int} {x7 : Int} {x11 : Int} {σ : Mem} (h :
  (x11 < (σ 49 38) →
    (0 ≤ x11 ∧ x11 < (40 : Int)) ∧ (0 ≤ x11 ∧ x11 < (40 : Int)) ∧ ((w64 ((σ 73 x11.toNat) * x7)) < (w64 (x5 * (σ 74 x11.toNat))) →
      cut 70 [some (.inr (.inr 49)), none, none, none, none, some (.inr (.inl x5)), none, some (.inr (.inl x7)), none, none, none, some (.inl (w32 (x11 + 1))), none] [] σ) ∧
    ((w64 (x5 * (σ 74 x11.toNat))) ≤ (w64 ((σ 73 x11.toNat) * x7)) →
      (x11 < (σ 49 38) →
        (0 ≤ x11 ∧ x11 < (40 : Int)) ∧ ((σ 73 x11.toNat) = x5 →
          (0 ≤ x11 ∧ x11 < (40 : Int)) ∧ ((σ 74 x11.toNat) = x7 → Q 0 σ) ∧
          (¬ (σ 74 x11.toNat) = x7 →
            cut 151 [some (.inr (.inr 49)), none, none, none, none, some (.inr (.inl x5)), none, some (.inr (.inl x7)), none, none, none, some (.inl x11), some (.inl (σ 49 38))] [] σ)) ∧
        (¬ (σ 73 x11.toNat) = x5 →
          cut 151 [some (.inr (.inr 49)), none, none, none, none, some (.inr (.inl x5)), none, some (.inr (.inl x7)), none, none, none, some (.inl x11), some (.inl (σ 49 38))] [] σ)) ∧
      ((σ 49 38) ≤ x11 →
        cut 151 [some (.inr (.inr 49)), none, none, none, none, some (.inr (.inl x5)), none, some (.inr (.inl x7)), none, none, none, some (.inl x11), some (.inl (σ 49 38))] [] σ))) ∧
  ((σ 49 38) ≤ x11 →
    (x11 < (σ 49 38) →
      (0 ≤ x11 ∧ x11 < (40 : Int)) ∧ ((σ 73 x11.toNat) = x5 →
        (0 ≤ x11 ∧ x11 < (40 : Int)) ∧ ((σ 74 x11.toNat) = x7 → Q 0 σ) ∧
        (¬ (σ 74 x11.toNat) = x7 →
          cut 151 [some (.inr (.inr 49)), none, none, none, none, some (.inr (.inl x5)), none, some (.inr (.inl x7)), none, none, none, some (.inl x11), some (.inl (σ 49 38))] [] σ)) ∧
      (¬ (σ 73 x11.toNat) = x5 →
        cut 151 [some (.inr (.inr 49)), none, none, none, none, some (.inr (.inl x5)), none, some (.inr (.inl x7)), none, none, none, some (.inl x11), some (.inl (σ 49 38))] [] σ)) ∧
    ((σ 49 38) ≤ x11 →
      cut 151 [some (.inr (.inr 49)), none, none, none, none, some (.inr (.inl x5)), none, some (.inr (.inl x7)), none, none, none, some (.inl x11), some (.inl (σ 49 38))] [] σ))) : seg none call c_M_addCandidate false Q cut 2000 true (toPc 70 c_M_addCandidate) [some (.inr (.inr 49)), none, none, none, none, some (.inr (.inl x5)), none, some (.inr (.inl x7)), none, none, none, some (.inl x11), none] [] σ := h
theorem e_M_addCandidate_70 {d : Nat} {Q : Int → Mem → Prop} {x5 : Int} {x7 : Int} {x11 : Int} {σ : Mem} (h :
  (x11 < (σ 49 38) →
    (0 ≤ x11 ∧ x11 < (40 : Int)) ∧ (0 ≤ x11 ∧ x11 < (40 : Int)) ∧ ((w64 ((σ 73 x11.toNat) * x7)) < (w64 (x5 * (σ 74 x11.toNat))) → K_M_addCandidate_70 d Q x5 x7 (w32 (x11 + 1)) σ) ∧
    ((w64 (x5 * (σ 74 x11.toNat))) ≤ (w64 ((σ 73 x11.toNat) * x7)) →
      (x11 < (σ 49 38) →
        (0 ≤ x11 ∧ x11 < (40 : Int)) ∧ ((σ 73 x11.toNat) = x5 →
          (0 ≤ x11 ∧ x11 < (40 : Int)) ∧ ((σ 74 x11.toNat) = x7 → Q 0 σ) ∧
          (¬ (σ 74 x11.toNat) = x7 → K_M_addCandidate_151 d Q x5 x7 x11 (σ 49 38) σ)) ∧
        (¬ (σ 73 x11.toNat) = x5 → K_M_addCandidate_151 d Q x5 x7 x11 (σ 49 38) σ)) ∧
      ((σ 49 38) ≤ x11 → K_M_addCandidate_151 d Q x5 x7 x11 (σ 49 38) σ))) ∧
  ((σ 49 38) ≤ x11 →
    (x11 < (σ 49 38) →
      (0 ≤ x11 ∧ x11 < (40 : Int)) ∧ ((σ 73 x11.toNat) = x5 →
        (0 ≤ x11 ∧ x11 < (40 : Int)) ∧ ((σ 74 x11.toNat) = x7 → Q 0 σ) ∧
        (¬ (σ 74 x11.toNat) = x7 → K_M_addCandidate_151 d Q x5 x7 x11 (σ 49 38) σ)) ∧
      (¬ (σ 73 x11.toNat) = x5 → K_M_addCandidate_151 d Q x5 x7 x11 (σ 49 38) σ)) ∧
    ((σ 49 38) ≤ x11 → K_M_addCandidate_151 d Q x5 x7 x11 (σ 49 38) σ))) : K_M_addCandidate_70 d Q x5 x7 x11 σ := XX_intro (g_M_addCandidate_70 (call := wp d) (cut := XX none (wp d) c_M_addCandidate false Q) (Q := Q) (x5 := x5) (x7 := x7) (x11 := x11) (σ := σ) (h))
theorem g_M_addCandidate_151 {call : Nat → List AV → Mem → (Int → Mem → Prop) → Prop} {cut : Nat → Lo → List AV → Mem → Prop} {Q : Int → Mem → Prop} {x5 : Int} {x7 : Int} {x11 : Int} {x12 : Int} {σ : Mem} (h :
  (x11 < x12 →
    (0 ≤ (w32 (x12 - 1)) ∧ (w32 (x12 - 1)) < (40 : Int)) ∧ (0 ≤ x12 ∧ x12 < (40 : Int)) ∧ (0 ≤ (w32 (x12 - 1)) ∧ (w32 (x12 - 1)) < (40 : Int)) ∧ (0 ≤ x12 ∧ x12 < (40 : Int)) ∧ cut 151 [some (.inr (.inr 49)), none, none, none, none, some (.inr (.inl x5)), none, some (.inr (.inl x7)), none, none, none, some (.inl x11), some (.inl (w32 (x12 + (-1))))] [] (mset (mset σ 73 x12.toNat (σ 73 (w32 (x12 - 1)).toNat)) 74 x12.toNat ((mset σ 73 x12.toNat (σ 73 (w32 (x12 - 1)).toNat)) 74 (w32 (x12 - 1)).toNat))) ∧
  (x12 ≤ x11 →
    (0 ≤ x11 ∧ x11 < (40 : Int)) ∧ (0 ≤ x11 ∧ x11 < (40 : Int)) ∧ Q 0 (mset (mset (mset σ 73 x11.toNat x5) 74 x11.toNat x7) 49 38 (w32 (((mset (mset σ 73 x11.toNat x5) 74 x11.toNat x7) 49 38) + 1))))) : seg none call c_M_addCandidate false Q cut 2000 true (toPc 151 c_M_addCandidate) [some (.inr (.inr 49)), none, none, none, none, some (.inr (.inl x5)), none, some (.inr (.inl x7)), none, none, none, some (.inl x11), some (.inl x12)] [] σ := h
theorem e_M_addCandidate_151 {d : Nat} {Q : Int → Mem → Prop} {x5 : Int} {x7 : Int} {x11 : Int} {x12 : Int} {σ : Mem} (h :
  (x11 < x12 →
    (0 ≤ (w32 (x12 - 1)) ∧ (w32 (x12 - 1)) < (40 : Int)) ∧ (0 ≤ x12 ∧ x12 < (40 : Int)) ∧ (0 ≤ (w32 (x12 - 1)) ∧ (w32 (x12 - 1)) < (40 : Int)) ∧ (0 ≤ x12 ∧ x12 < (40 : Int)) ∧ K_M_addCandidate_151 d Q x5 x7 x11 (w32 (x12 + (-1))) (mset (mset σ 73 x12.toNat (σ 73 (w32 (x12 - 1)).toNat)) 74 x12.toNat ((mset σ 73 x12.toNat (σ 73 (w32 (x12 - 1)).toNat)) 74 (w32 (x12 - 1)).toNat))) ∧
  (x12 ≤ x11 →
    (0 ≤ x11 ∧ x11 < (40 : Int)) ∧ (0 ≤ x11 ∧ x11 < (40 : Int)) ∧ Q 0 (mset (mset (mset σ 73 x11.toNat x5) 74 x11.toNat x7) 49 38 (w32 (((mset (mset σ 73 x11.toNat x5) 74 x11.toNat x7) 49 38) + 1))))) : K_M_addCandidate_151 d Q x5 x7 x11 x12 σ := XX_intro (g_M_addCandidate_151 (call := wp d) (cut := XX none (wp d) c_M_addCandidate false Q) (Q := Q) (x5 := x5) (x7 := x7) (x11 := x11) (x12 := x12) (σ := σ) (h))
theorem g_M_addMeeting {call : Nat → List AV → Mem → (Int → Mem → Prop) → Prop} {cut : Nat → Lo → List AV → Mem → Prop} {Q : Int → Mem → Prop} {a1 : Int} {a2 : Int} {a3 : Int} {σ : Mem} (h :
  (0 ≤ (w32 ((w32 (24 * a1)) + (w32 (4 * a2)))) ∧ (w32 ((w32 (24 * a1)) + (w32 (4 * a2)))) < (72 : Int)) ∧ (0 ≤ (w32 ((w32 (24 * a1)) + (w32 (4 * a3)))) ∧ (w32 ((w32 (24 * a1)) + (w32 (4 * a3)))) < (72 : Int)) ∧ (0 ≤ (w32 ((w32 ((w32 (24 * a1)) + (w32 (4 * a2)))) + 1)) ∧ (w32 ((w32 ((w32 (24 * a1)) + (w32 (4 * a2)))) + 1)) < (72 : Int)) ∧ (0 ≤ (w32 ((w32 ((w32 (24 * a1)) + (w32 (4 * a3)))) + 1)) ∧ (w32 ((w32 ((w32 (24 * a1)) + (w32 (4 * a3)))) + 1)) < (72 : Int)) ∧ ((w32 ((σ 52 (w32 ((w32 (24 * a1)) + (w32 (4 * a2)))).toNat) - (σ 52 (w32 ((w32 (24 * a1)) + (w32 (4 * a3)))).toNat))) = (w32 ((σ 52 (w32 ((w32 ((w32 (24 * a1)) + (w32 (4 * a2)))) + 1)).toNat) - (σ 52 (w32 ((w32 ((w32 (24 * a1)) + (w32 (4 * a3)))) + 1)).toNat))) → Q 0 σ) ∧
  (¬ (w32 ((σ 52 (w32 ((w32 (24 * a1)) + (w32 (4 * a2)))).toNat) - (σ 52 (w32 ((w32 (24 * a1)) + (w32 (4 * a3)))).toNat))) = (w32 ((σ 52 (w32 ((w32 ((w32 (24 * a1)) + (w32 (4 * a2)))) + 1)).toNat) - (σ 52 (w32 ((w32 ((w32 (24 * a1)) + (w32 (4 * a3)))) + 1)).toNat))) →
    call m_M_addCandidate [.inr (.inr 49), .inr (.inl (w32 ((σ 52 (w32 ((w32 (24 * a1)) + (w32 (4 * a2)))).toNat) - (σ 52 (w32 ((w32 (24 * a1)) + (w32 (4 * a3)))).toNat)))), .inr (.inl (w64 ((w32 ((σ 52 (w32 ((w32 (24 * a1)) + (w32 (4 * a2)))).toNat) - (σ 52 (w32 ((w32 (24 * a1)) + (w32 (4 * a3)))).toNat))) - (w32 ((σ 52 (w32 ((w32 ((w32 (24 * a1)) + (w32 (4 * a2)))) + 1)).toNat) - (σ 52 (w32 ((w32 ((w32 (24 * a1)) + (w32 (4 * a3)))) + 1)).toNat))))))] σ (fun (r1 : Int) (s2 : Mem) => Q 0 s2))) : seg none call c_M_addMeeting false Q cut 2000 true (toPc 0 c_M_addMeeting) [some (.inr (.inr 49)), some (.inl a1), some (.inl a2), some (.inl a3), none, none, none, none] [] σ := h
theorem e_M_addMeeting {d : Nat} {Q : Int → Mem → Prop} {a1 : Int} {a2 : Int} {a3 : Int} {σ : Mem} (h :
  (0 ≤ (w32 ((w32 (24 * a1)) + (w32 (4 * a2)))) ∧ (w32 ((w32 (24 * a1)) + (w32 (4 * a2)))) < (72 : Int)) ∧ (0 ≤ (w32 ((w32 (24 * a1)) + (w32 (4 * a3)))) ∧ (w32 ((w32 (24 * a1)) + (w32 (4 * a3)))) < (72 : Int)) ∧ (0 ≤ (w32 ((w32 ((w32 (24 * a1)) + (w32 (4 * a2)))) + 1)) ∧ (w32 ((w32 ((w32 (24 * a1)) + (w32 (4 * a2)))) + 1)) < (72 : Int)) ∧ (0 ≤ (w32 ((w32 ((w32 (24 * a1)) + (w32 (4 * a3)))) + 1)) ∧ (w32 ((w32 ((w32 (24 * a1)) + (w32 (4 * a3)))) + 1)) < (72 : Int)) ∧ ((w32 ((σ 52 (w32 ((w32 (24 * a1)) + (w32 (4 * a2)))).toNat) - (σ 52 (w32 ((w32 (24 * a1)) + (w32 (4 * a3)))).toNat))) = (w32 ((σ 52 (w32 ((w32 ((w32 (24 * a1)) + (w32 (4 * a2)))) + 1)).toNat) - (σ 52 (w32 ((w32 ((w32 (24 * a1)) + (w32 (4 * a3)))) + 1)).toNat))) → Q 0 σ) ∧
  (¬ (w32 ((σ 52 (w32 ((w32 (24 * a1)) + (w32 (4 * a2)))).toNat) - (σ 52 (w32 ((w32 (24 * a1)) + (w32 (4 * a3)))).toNat))) = (w32 ((σ 52 (w32 ((w32 ((w32 (24 * a1)) + (w32 (4 * a2)))) + 1)).toNat) - (σ 52 (w32 ((w32 ((w32 (24 * a1)) + (w32 (4 * a3)))) + 1)).toNat))) →
    wp d m_M_addCandidate [.inr (.inr 49), .inr (.inl (w32 ((σ 52 (w32 ((w32 (24 * a1)) + (w32 (4 * a2)))).toNat) - (σ 52 (w32 ((w32 (24 * a1)) + (w32 (4 * a3)))).toNat)))), .inr (.inl (w64 ((w32 ((σ 52 (w32 ((w32 (24 * a1)) + (w32 (4 * a2)))).toNat) - (σ 52 (w32 ((w32 (24 * a1)) + (w32 (4 * a3)))).toNat))) - (w32 ((σ 52 (w32 ((w32 ((w32 (24 * a1)) + (w32 (4 * a2)))) + 1)).toNat) - (σ 52 (w32 ((w32 ((w32 (24 * a1)) + (w32 (4 * a3)))) + 1)).toNat))))))] σ (fun (r1 : Int) (s2 : Mem) => Q 0 s2))) : wp (d + 1) m_M_addMeeting [.inr (.inr 49), .inl a1, .inl a2, .inl a3] σ Q := wp_in rfl (XX_intro (g_M_addMeeting (call := wp d) (cut := XX none (wp d) c_M_addMeeting false Q) (Q := Q) (a1 := a1) (a2 := a2) (a3 := a3) (σ := σ) (h)))
theorem g_M_doneAt {call : Nat → List AV → Mem → (Int → Mem → Prop) → Prop} {cut : Nat → Lo → List AV → Mem → Prop} {Q : Int → Mem → Prop} {a1 : Int} {a2 : Int} {σ : Mem} (h :
  (0 ≤ (0 : Int) ∧ 0 < (4 : Int)) ∧ (0 ≤ (1 : Int) ∧ 1 < (4 : Int)) ∧ (0 ≤ (2 : Int) ∧ 2 < (4 : Int)) ∧ (0 ≤ (3 : Int) ∧ 3 < (4 : Int)) ∧ call m_M_doneBy [.inr (.inr 49), .inl 0] (mset (mset (mset (mset σ 67 0 (w64 (a2 - a1))) 67 1 a1) 67 2 0) 67 3 0) (fun (r1 : Int) (s2 : Mem) => Q r1 s2)) : seg none call c_M_doneAt false Q cut 2000 true (toPc 0 c_M_doneAt) [some (.inr (.inr 49)), some (.inr (.inl a1)), none, some (.inr (.inl a2)), none] [] σ := h
theorem e_M_doneAt {d : Nat} {Q : Int → Mem → Prop} {a1 : Int} {a2 : Int} {σ : Mem} (h :
  wp d m_M_doneBy [.inr (.inr 49), .inl 0] (mset (mset (mset (mset σ 67 0 (w64 (a2 - a1))) 67 1 a1) 67 2 0) 67 3 0) (fun (r1 : Int) (s2 : Mem) => Q r1 s2)) : wp (d + 1) m_M_doneAt [.inr (.inr 49), .inr (.inl a1), .inr (.inl a2)] σ Q := wp_in rfl (XX_intro (g_M_doneAt (call := wp d) (cut := XX none (wp d) c_M_doneAt false Q) (Q := Q) (a1 := a1) (a2 := a2) (σ := σ) (⟨⟨by decide, by decide⟩, ⟨⟨by decide, by decide⟩, ⟨⟨by decide, by decide⟩, ⟨⟨by decide, by decide⟩, h⟩⟩⟩⟩)))
theorem g_M_doneBetween {call : Nat → List AV → Mem → (Int → Mem → Prop) → Prop} {cut : Nat → Lo → List AV → Mem → Prop} {Q : Int → Mem → Prop} {a1 : Int} {a2 : Int} {a3 : Int} {a4 : Int} {σ : Mem} (h :
  call m_M_doneAt [.inr (.inr 49), .inr (.inl (w64 ((w64 (a1 * a4)) + (w64 (a3 * a2))))), .inr (.inl (w64 ((w64 (2 * a2)) * a4)))] σ (fun (r1 : Int) (s2 : Mem) => Q r1 s2)) : seg none call c_M_doneBetween false Q cut 2000 true (toPc 0 c_M_doneBetween) [some (.inr (.inr 49)), some (.inr (.inl a1)), none, some (.inr (.inl a2)), none, some (.inr (.inl a3)), none, some (.inr (.inl a4)), none] [] σ := h
theorem e_M_doneBetween {d : Nat} {Q : Int → Mem → Prop} {a1 : Int} {a2 : Int} {a3 : Int} {a4 : Int} {σ : Mem} (h :
  wp d m_M_doneAt [.inr (.inr 49), .inr (.inl (w64 ((w64 (a1 * a4)) + (w64 (a3 * a2))))), .inr (.inl (w64 ((w64 (2 * a2)) * a4)))] σ (fun (r1 : Int) (s2 : Mem) => Q r1 s2)) : wp (d + 1) m_M_doneBetween [.inr (.inr 49), .inr (.inl a1), .inr (.inl a2), .inr (.inl a3), .inr (.inl a4)] σ Q := wp_in rfl (XX_intro (g_M_doneBetween (call := wp d) (cut := XX none (wp d) c_M_doneBetween false Q) (Q := Q) (a1 := a1) (a2 := a2) (a3 := a3) (a4 := a4) (σ := σ) (h)))
theorem g_M_addEdge {call : Nat → List AV → Mem → (Int → Mem → Prop) → Prop} {cut : Nat → Lo → List AV → Mem → Prop} {Q : Int → Mem → Prop} {a1 : Int} {a2 : Int} {σ : Mem} (h :
  (0 ≤ (σ 49 35) ∧ (σ 49 35) < (40 : Int)) ∧ (0 ≤ ((mset σ 71 (σ 49 35).toNat a1) 49 35) ∧ ((mset σ 71 (σ 49 35).toNat a1) 49 35) < (40 : Int)) ∧ Q 0 (mset (mset (mset σ 71 (σ 49 35).toNat a1) 72 ((mset σ 71 (σ 49 35).toNat a1) 49 35).toNat a2) 49 35 (w32 (((mset (mset σ 71 (σ 49 35).toNat a1) 72 ((mset σ 71 (σ 49 35).toNat a1) 49 35).toNat a2) 49 35) + 1)))) : seg none call c_M_addEdge false Q cut 2000 true (toPc 0 c_M_addEdge) [some (.inr (.inr 49)), some (.inr (.inl a1)), none, some (.inr (.inl a2)), none] [] σ := h
theorem e_M_addEdge {d : Nat} {Q : Int → Mem → Prop} {a1 : Int} {a2 : Int} {σ : Mem} (h :
  (0 ≤ (σ 49 35) ∧ (σ 49 35) < (40 : Int)) ∧ (0 ≤ ((mset σ 71 (σ 49 35).toNat a1) 49 35) ∧ ((mset σ 71 (σ 49 35).toNat a1) 49 35) < (40 : Int)) ∧ Q 0 (mset (mset (mset σ 71 (σ 49 35).toNat a1) 72 ((mset σ 71 (σ 49 35).toNat a1) 49 35).toNat a2) 49 35 (w32 (((mset (mset σ 71 (σ 49 35).toNat a1) 72 ((mset σ 71 (σ 49 35).toNat a1) 49 35).toNat a2) 49 35) + 1)))) : wp (d + 1) m_M_addEdge [.inr (.inr 49), .inr (.inl a1), .inr (.inl a2)] σ Q := wp_in rfl (XX_intro (g_M_addEdge (call := wp d) (cut := XX none (wp d) c_M_addEdge false Q) (Q := Q) (a1 := a1) (a2 := a2) (σ := σ) (h)))
abbrev K_M_findEdges_7 (d : Nat) (Q : Int → Mem → Prop) (x1 : Int) (σ : Mem) : Prop := XX none (wp d) c_M_findEdges false Q 7 [some (.inr (.inr 49)), some (.inl x1), none, none, none] [] σ
abbrev K_M_findEdges_17 (d : Nat) (Q : Int → Mem → Prop) (x1 : Int) (x2 : Int) (σ : Mem) : Prop := XX none (wp d) c_M_findEdges false Q 17 [some (.inr (.inr 49)), some (.inl x1), some (.inl x2), none, none] [] σ
abbrev K_M_findEdges_103 (d : Nat) (Q : Int → Mem → Prop) (x1 : Int) (σ : Mem) : Prop := XX none (wp d) c_M_findEdges false Q 103 [some (.inr (.inr 49)), some (.inl x1), none, none, none] [] σ
theorem g_M_findEdges {call : Nat → List AV → Mem → (Int → Mem → Prop) → Prop} {cut : Nat → Lo → List AV → Mem → Prop} {Q : Int → Mem → Prop}  {σ : Mem} (h :
  cut 7 [some (.inr (.inr 49)), some (.inl 0), none, none, none] [] (mset σ 49 38 0)) : seg none call c_M_findEdges false Q cut 2000 true (toPc 0 c_M_findEdges) [some (.inr (.inr 49)), none, none, none, none] [] σ := h
theorem e_M_findEdges {d : Nat} {Q : Int → Mem → Prop}  {σ : Mem} (h :
  K_M_findEdges_7 d Q 0 (mset σ 49 38 0)) : wp (d + 1) m_M_findEdges [.inr (.inr 49)] σ Q := wp_in rfl (XX_intro (g_M_findEdges (call := wp d) (cut := XX none (wp d) c_M_findEdges false Q) (Q := Q)  (σ := σ) (h)))
theorem g_M_findEdges_7 {call : Nat → List AV → Mem → (Int → Mem → Prop) → Prop} {cut : Nat → Lo → List AV → Mem → Prop} {Q : Int → Mem → Prop} {x1 : Int} {σ : Mem} (h :
  (x1 < (σ 49 1) → cut 17 [some (.inr (.inr 49)), some (.inl x1), some (.inl 0), none, none] [] σ) ∧
  ((σ 49 1) ≤ x1 →
    call m_M_addEdge [.inr (.inr 49), .inr (.inl 0), .inr (.inl 1)] (mset σ 49 35 0) (fun (r1 : Int) (s2 : Mem) =>
    cut 103 [some (.inr (.inr 49)), some (.inl 0), none, none, none] [] s2))) : seg none call c_M_findEdges false Q cut 2000 true (toPc 7 c_M_findEdges) [some (.inr (.inr 49)), some (.inl x1), none, none, none] [] σ := h
theorem e_M_findEdges_7 {d : Nat} {Q : Int → Mem → Prop} {x1 : Int} {σ : Mem} (h :
  (x1 < (σ 49 1) → K_M_findEdges_17 d Q x1 0 σ) ∧
  ((σ 49 1) ≤ x1 →
    wp d m_M_addEdge [.inr (.inr 49), .inr (.inl 0), .inr (.inl 1)] (mset σ 49 35 0) (fun (r1 : Int) (s2 : Mem) => K_M_findEdges_103 d Q 0 s2))) : K_M_findEdges_7 d Q x1 σ := XX_intro (g_M_findEdges_7 (call := wp d) (cut := XX none (wp d) c_M_findEdges false Q) (Q := Q) (x1 := x1) (σ := σ) (h))
theorem g_M_findEdges_17 {call : Nat → List AV → Mem → (Int → Mem → Prop) → Prop} {cut : Nat → Lo → List AV → Mem → Prop} {Q : Int → Mem → Prop} {x1 : Int} {x2 : Int} {σ : Mem} (h :
  (x2 < x1 →
    call m_M_addMeeting [.inr (.inr 49), .inl 0, .inl x1, .inl x2] σ (fun (r1 : Int) (s2 : Mem) =>
    (0 ≤ (w32 (4 * x1)) ∧ (w32 (4 * x1)) < (72 : Int)) ∧ (0 ≤ (w32 (4 * x2)) ∧ (w32 (4 * x2)) < (72 : Int)) ∧ ((s2 52 (w32 (4 * x1)).toNat) = (s2 52 (w32 (4 * x2)).toNat) →
        (0 ≤ (w32 ((w32 (4 * x1)) + 1)) ∧ (w32 ((w32 (4 * x1)) + 1)) < (72 : Int)) ∧ (0 ≤ (w32 ((w32 (4 * x2)) + 1)) ∧ (w32 ((w32 (4 * x2)) + 1)) < (72 : Int)) ∧ ((s2 52 (w32 ((w32 (4 * x1)) + 1)).toNat) = (s2 52 (w32 ((w32 (4 * x2)) + 1)).toNat) →
          call m_M_addMeeting [.inr (.inr 49), .inl 1, .inl x1, .inl x2] s2 (fun (r3 : Int) (s4 : Mem) =>
          cut 17 [some (.inr (.inr 49)), some (.inl x1), some (.inl (w32 (x2 + 1))), none, none] [] s4)) ∧
        (¬ (s2 52 (w32 ((w32 (4 * x1)) + 1)).toNat) = (s2 52 (w32 ((w32 (4 * x2)) + 1)).toNat) →
          cut 17 [some (.inr (.inr 49)), some (.inl x1), some (.inl (w32 (x2 + 1))), none, none] [] s2)) ∧
      (¬ (s2 52 (w32 (4 * x1)).toNat) = (s2 52 (w32 (4 * x2)).toNat) →
        cut 17 [some (.inr (.inr 49)), some (.inl x1), some (.inl (w32 (x2 + 1))), none, none] [] s2))) ∧
  (x1 ≤ x2 → cut 7 [some (.inr (.inr 49)), some (.inl (w32 (x1 + 1))), none, none, none] [] σ)) : seg none call c_M_findEdges false Q cut 2000 true (toPc 17 c_M_findEdges) [some (.inr (.inr 49)), some (.inl x1), some (.inl x2), none, none] [] σ := h
theorem e_M_findEdges_17 {d : Nat} {Q : Int → Mem → Prop} {x1 : Int} {x2 : Int} {σ : Mem} (h :
  (x2 < x1 →
    wp d m_M_addMeeting [.inr (.inr 49), .inl 0, .inl x1, .inl x2] σ (fun (r1 : Int) (s2 : Mem) =>
    (0 ≤ (w32 (4 * x1)) ∧ (w32 (4 * x1)) < (72 : Int)) ∧ (0 ≤ (w32 (4 * x2)) ∧ (w32 (4 * x2)) < (72 : Int)) ∧ ((s2 52 (w32 (4 * x1)).toNat) = (s2 52 (w32 (4 * x2)).toNat) →
        (0 ≤ (w32 ((w32 (4 * x1)) + 1)) ∧ (w32 ((w32 (4 * x1)) + 1)) < (72 : Int)) ∧ (0 ≤ (w32 ((w32 (4 * x2)) + 1)) ∧ (w32 ((w32 (4 * x2)) + 1)) < (72 : Int)) ∧ ((s2 52 (w32 ((w32 (4 * x1)) + 1)).toNat) = (s2 52 (w32 ((w32 (4 * x2)) + 1)).toNat) →
          wp d m_M_addMeeting [.inr (.inr 49), .inl 1, .inl x1, .inl x2] s2 (fun (r3 : Int) (s4 : Mem) => K_M_findEdges_17 d Q x1 (w32 (x2 + 1)) s4)) ∧
        (¬ (s2 52 (w32 ((w32 (4 * x1)) + 1)).toNat) = (s2 52 (w32 ((w32 (4 * x2)) + 1)).toNat) → K_M_findEdges_17 d Q x1 (w32 (x2 + 1)) s2)) ∧
      (¬ (s2 52 (w32 (4 * x1)).toNat) = (s2 52 (w32 (4 * x2)).toNat) → K_M_findEdges_17 d Q x1 (w32 (x2 + 1)) s2))) ∧
  (x1 ≤ x2 → K_M_findEdges_7 d Q (w32 (x1 + 1)) σ)) : K_M_findEdges_17 d Q x1 x2 σ := XX_intro (g_M_findEdges_17 (call := wp d) (cut := XX none (wp d) c_M_findEdges false Q) (Q := Q) (x1 := x1) (x2 := x2) (σ := σ) (h))
theorem g_M_findEdges_103 {call : Nat → List AV → Mem → (Int → Mem → Prop) → Prop} {cut : Nat → Lo → List AV → Mem → Prop} {Q : Int → Mem → Prop} {x1 : Int} {σ : Mem} (h :
  (x1 < (σ 49 38) →
    (x1 = 0 →
      (0 ≤ (0 : Int) ∧ 0 < (40 : Int)) ∧ (0 ≤ (0 : Int) ∧ 0 < (40 : Int)) ∧ call m_M_doneBetween [.inr (.inr 49), .inr (.inl 0), .inr (.inl 1), .inr (.inl (σ 73 0)), .inr (.inl (σ 74 0))] σ (fun (r23 : Int) (s24 : Mem) =>
      (x1 = (w32 ((s24 49 38) - 1)) →
          (0 ≤ x1 ∧ x1 < (40 : Int)) ∧ (0 ≤ x1 ∧ x1 < (40 : Int)) ∧ call m_M_doneBetween [.inr (.inr 49), .inr (.inl (s24 73 x1.toNat)), .inr (.inl (s24 74 x1.toNat)), .inr (.inl 1), .inr (.inl 1)] s24 (fun (r33 : Int) (s34 : Mem) =>
          (0 ≤ x1 ∧ x1 < (40 : Int)) ∧ (0 ≤ x1 ∧ x1 < (40 : Int)) ∧ call m_M_doneAt [.inr (.inr 49), .inr (.inl (s34 73 x1.toNat)), .inr (.inl (s34 74 x1.toNat))] s34 (fun (r35 : Int) (s36 : Mem) =>
            (r23 = r35 →
                (r33 = r35 →
                  cut 103 [some (.inr (.inr 49)), some (.inl (w32 (x1 + 1))), none, none, none] [] s36) ∧
                (¬ r33 = r35 →
                  (0 ≤ x1 ∧ x1 < (40 : Int)) ∧ (0 ≤ x1 ∧ x1 < (40 : Int)) ∧ call m_M_addEdge [.inr (.inr 49), .inr (.inl (s36 73 x1.toNat)), .inr (.inl (s36 74 x1.toNat))] s36 (fun (r39 : Int) (s40 : Mem) =>
                  cut 103 [some (.inr (.inr 49)), some (.inl (w32 (x1 + 1))), none, none, none] [] s40))) ∧
              (¬ r23 = r35 →
                (0 ≤ x1 ∧ x1 < (40 : Int)) ∧ (0 ≤ x1 ∧ x1 < (40 : Int)) ∧ call m_M_addEdge [.inr (.inr 49), .inr (.inl (s36 73 x1.toNat)), .inr (.inl (s36 74 x1.toNat))] s36 (fun (r37 : Int) (s38 : Mem) =>
                cut 103 [some (.inr (.inr 49)), some (.inl (w32 (x1 + 1))), none, none, none] [] s38))))) ∧
        (¬ x1 = (w32 ((s24 49 38) - 1)) →
          (0 ≤ x1 ∧ x1 < (40 : Int)) ∧ (0 ≤ x1 ∧ x1 < (40 : Int)) ∧ (0 ≤ (w32 (x1 + 1)) ∧ (w32 (x1 + 1)) < (40 : Int)) ∧ (0 ≤ (w32 (x1 + 1)) ∧ (w32 (x1 + 1)) < (40 : Int)) ∧ call m_M_doneBetween [.inr (.inr 49), .inr (.inl (s24 73 x1.toNat)), .inr (.inl (s24 74 x1.toNat)), .inr (.inl (s24 73 (w32 (x1 + 1)).toNat)), .inr (.inl (s24 74 (w32 (x1 + 1)).toNat))] s24 (fun (r25 : Int) (s26 : Mem) =>
          (0 ≤ x1 ∧ x1 < (40 : Int)) ∧ (0 ≤ x1 ∧ x1 < (40 : Int)) ∧ call m_M_doneAt [.inr (.inr 49), .inr (.inl (s26 73 x1.toNat)), .inr (.inl (s26 74 x1.toNat))] s26 (fun (r27 : Int) (s28 : Mem) =>
            (r23 = r27 →
                (r25 = r27 →
                  cut 103 [some (.inr (.inr 49)), some (.inl (w32 (x1 + 1))), none, none, none] [] s28) ∧
                (¬ r25 = r27 →
                  (0 ≤ x1 ∧ x1 < (40 : Int)) ∧ (0 ≤ x1 ∧ x1 < (40 : Int)) ∧ call m_M_addEdge [.inr (.inr 49), .inr (.inl (s28 73 x1.toNat)), .inr (.inl (s28 74 x1.toNat))] s28 (fun (r31 : Int) (s32 : Mem) =>
                  cut 103 [some (.inr (.inr 49)), some (.inl (w32 (x1 + 1))), none, none, none] [] s32))) ∧
              (¬ r23 = r27 →
                (0 ≤ x1 ∧ x1 < (40 : Int)) ∧ (0 ≤ x1 ∧ x1 < (40 : Int)) ∧ call m_M_addEdge [.inr (.inr 49), .inr (.inl (s28 73 x1.toNat)), .inr (.inl (s28 74 x1.toNat))] s28 (fun (r29 : Int) (s30 : Mem) =>
                cut 103 [some (.inr (.inr 49)), some (.inl (w32 (x1 + 1))), none, none, none] [] s30))))))) ∧
    (¬ x1 = 0 →
      (0 ≤ (w32 (x1 - 1)) ∧ (w32 (x1 - 1)) < (40 : Int)) ∧ (0 ≤ (w32 (x1 - 1)) ∧ (w32 (x1 - 1)) < (40 : Int)) ∧ (0 ≤ x1 ∧ x1 < (40 : Int)) ∧ (0 ≤ x1 ∧ x1 < (40 : Int)) ∧ call m_M_doneBetween [.inr (.inr 49), .inr (.inl (σ 73 (w32 (x1 - 1)).toNat)), .inr (.inl (σ 74 (w32 (x1 - 1)).toNat)), .inr (.inl (σ 73 x1.toNat)), .inr (.inl (σ 74 x1.toNat))] σ (fun (r5 : Int) (s6 : Mem) =>
      (x1 = (w32 ((s6 49 38) - 1)) →
          (0 ≤ x1 ∧ x1 < (40 : Int)) ∧ (0 ≤ x1 ∧ x1 < (40 : Int)) ∧ call m_M_doneBetween [.inr (.inr 49), .inr (.inl (s6 73 x1.toNat)), .inr (.inl (s6 74 x1.toNat)), .inr (.inl 1), .inr (.inl 1)] s6 (fun (r15 : Int) (s16 : Mem) =>
          (0 ≤ x1 ∧ x1 < (40 : Int)) ∧ (0 ≤ x1 ∧ x1 < (40 : Int)) ∧ call m_M_doneAt [.inr (.inr 49), .inr (.inl (s16 73 x1.toNat)), .inr (.inl (s16 74 x1.toNat))] s16 (fun (r17 : Int) (s18 : Mem) =>
            (r5 = r17 →
                (r15 = r17 →
                  cut 103 [some (.inr (.inr 49)), some (.inl (w32 (x1 + 1))), none, none, none] [] s18) ∧
                (¬ r15 = r17 →
                  (0 ≤ x1 ∧ x1 < (40 : Int)) ∧ (0 ≤ x1 ∧ x1 < (40 : Int)) ∧ call m_M_addEdge [.inr (.inr 49), .inr (.inl (s18 73 x1.toNat)), .inr (.inl (s18 74 x1.toNat))] s18 (fun (r21 : Int) (s22 : Mem) =>
                  cut 103 [some (.inr (.inr 49)), some (.inl (w32 (x1 + 1))), none, none, none] [] s22))) ∧
              (¬ r5 = r17 →
                (0 ≤ x1 ∧ x1 < (40 : Int)) ∧ (0 ≤ x1 ∧ x1 < (40 : Int)) ∧ call m_M_addEdge [.inr (.inr 49), .inr (.inl (s18 73 x1.toNat)), .inr (.inl (s18 74 x1.toNat))] s18 (fun (r19 : Int) (s20 : Mem) =>
                cut 103 [some (.inr (.inr 49)), some (.inl (w32 (x1 + 1))), none, none, none] [] s20))))) ∧
        (¬ x1 = (w32 ((s6 49 38) - 1)) →
          (0 ≤ x1 ∧ x1 < (40 : Int)) ∧ (0 ≤ x1 ∧ x1 < (40 : Int)) ∧ (0 ≤ (w32 (x1 + 1)) ∧ (w32 (x1 + 1)) < (40 : Int)) ∧ (0 ≤ (w32 (x1 + 1)) ∧ (w32 (x1 + 1)) < (40 : Int)) ∧ call m_M_doneBetween [.inr (.inr 49), .inr (.inl (s6 73 x1.toNat)), .inr (.inl (s6 74 x1.toNat)), .inr (.inl (s6 73 (w32 (x1 + 1)).toNat)), .inr (.inl (s6 74 (w32 (x1 + 1)).toNat))] s6 (fun (r7 : Int) (s8 : Mem) =>
          (0 ≤ x1 ∧ x1 < (40 : Int)) ∧ (0 ≤ x1 ∧ x1 < (40 : Int)) ∧ call m_M_doneAt [.inr (.inr 49), .inr (.inl (s8 73 x1.toNat)), .inr (.inl (s8 74 x1.toNat))] s8 (fun (r9 : Int) (s10 : Mem) =>
            (r5 = r9 →
                (r7 = r9 →
                  cut 103 [some (.inr (.inr 49)), some (.inl (w32 (x1 + 1))), none, none, none] [] s10) ∧
                (¬ r7 = r9 →
                  (0 ≤ x1 ∧ x1 < (40 : Int)) ∧ (0 ≤ x1 ∧ x1 < (40 : Int)) ∧ call m_M_addEdge [.inr (.inr 49), .inr (.inl (s10 73 x1.toNat)), .inr (.inl (s10 74 x1.toNat))] s10 (fun (r13 : Int) (s14 : Mem) =>
                  cut 103 [some (.inr (.inr 49)), some (.inl (w32 (x1 + 1))), none, none, none] [] s14))) ∧
              (¬ r5 = r9 →
                (0 ≤ x1 ∧ x1 < (40 : Int)) ∧ (0 ≤ x1 ∧ x1 < (40 : Int)) ∧ call m_M_addEdge [.inr (.inr 49), .inr (.inl (s10 73 x1.toNat)), .inr (.inl (s10 74 x1.toNat))] s10 (fun (r11 : Int) (s12 : Mem) =>
                cut 103 [some (.inr (.inr 49)), some (.inl (w32 (x1 + 1))), none, none, none] [] s12)))))))) ∧
  ((σ 49 38) ≤ x1 →
    call m_M_addEdge [.inr (.inr 49), .inr (.inl 1), .inr (.inl 1)] σ (fun (r1 : Int) (s2 : Mem) =>
    call m_M_allBefore [.inr (.inr 49)] s2 (fun (r3 : Int) (s4 : Mem) =>
      (0 ≤ (1 : Int) ∧ 1 < (4 : Int)) ∧ (0 ≤ (s4 49 35) ∧ (s4 49 35) < (40 : Int)) ∧ (0 ≤ ((mset s4 71 (s4 49 35).toNat (s4 51 1)) 49 35) ∧ ((mset s4 71 (s4 49 35).toNat (s4 51 1)) 49 35) < (40 : Int)) ∧ Q 0 (mset (mset s4 71 (s4 49 35).toNat (s4 51 1)) 72 ((mset s4 71 (s4 49 35).toNat (s4 51 1)) 49 35).toNat r3))))) : seg none call c_M_findEdges false Q cut 2000 true (toPc 103 c_M_findEdges) [some (.inr (.inr 49)), some (.inl x1), none, none, none] [] σ := h
theorem e_M_findEdges_103 {d : Nat} {Q : Int → Mem → Prop} {x1 : Int} {σ : Mem} (h :
  (x1 < (σ 49 38) →
    (x1 = 0 →
      wp d m_M_doneBetween [.inr (.inr 49), .inr (.inl 0), .inr (.inl 1), .inr (.inl (σ 73 0)), .inr (.inl (σ 74 0))] σ (fun (r23 : Int) (s24 : Mem) =>
      (x1 = (w32 ((s24 49 38) - 1)) →
          (0 ≤ x1 ∧ x1 < (40 : Int)) ∧ (0 ≤ x1 ∧ x1 < (40 : Int)) ∧ wp d m_M_doneBetween [.inr (.inr 49), .inr (.inl (s24 73 x1.toNat)), .inr (.inl (s24 74 x1.toNat)), .inr (.inl 1), .inr (.inl 1)] s24 (fun (r33 : Int) (s34 : Mem) =>
          (0 ≤ x1 ∧ x1 < (40 : Int)) ∧ (0 ≤ x1 ∧ x1 < (40 : Int)) ∧ wp d m_M_doneAt [.inr (.inr 49), .inr (.inl (s34 73 x1.toNat)), .inr (.inl (s34 74 x1.toNat))] s34 (fun (r35 : Int) (s36 : Mem) =>
            (r23 = r35 →
                (r33 = r35 → K_M_findEdges_103 d Q (w32 (x1 + 1)) s36) ∧
                (¬ r33 = r35 →
                  (0 ≤ x1 ∧ x1 < (40 : Int)) ∧ (0 ≤ x1 ∧ x1 < (40 : Int)) ∧ wp d m_M_addEdge [.inr (.inr 49), .inr (.inl (s36 73 x1.toNat)), .inr (.inl (s36 74 x1.toNat))] s36 (fun (r39 : Int) (s40 : Mem) => K_M_findEdges_103 d Q (w32 (x1 + 1)) s40))) ∧
              (¬ r23 = r35 →
                (0 ≤ x1 ∧ x1 < (40 : Int)) ∧ (0 ≤ x1 ∧ x1 < (40 : Int)) ∧ wp d m_M_addEdge [.inr (.inr 49), .inr (.inl (s36 73 x1.toNat)), .inr (.inl (s36 74 x1.toNat))] s36 (fun (r37 : Int) (s38 : Mem) => K_M_findEdges_103 d Q (w32 (x1 + 1)) s38))))) ∧
        (¬ x1 = (w32 ((s24 49 38) - 1)) →
          (0 ≤ x1 ∧ x1 < (40 : Int)) ∧ (0 ≤ x1 ∧ x1 < (40 : Int)) ∧ (0 ≤ (w32 (x1 + 1)) ∧ (w32 (x1 + 1)) < (40 : Int)) ∧ (0 ≤ (w32 (x1 + 1)) ∧ (w32 (x1 + 1)) < (40 : Int)) ∧ wp d m_M_doneBetween [.inr (.inr 49), .inr (.inl (s24 73 x1.toNat)), .inr (.inl (s24 74 x1.toNat)), .inr (.inl (s24 73 (w32 (x1 + 1)).toNat)), .inr (.inl (s24 74 (w32 (x1 + 1)).toNat))] s24 (fun (r25 : Int) (s26 : Mem) =>
          (0 ≤ x1 ∧ x1 < (40 : Int)) ∧ (0 ≤ x1 ∧ x1 < (40 : Int)) ∧ wp d m_M_doneAt [.inr (.inr 49), .inr (.inl (s26 73 x1.toNat)), .inr (.inl (s26 74 x1.toNat))] s26 (fun (r27 : Int) (s28 : Mem) =>
            (r23 = r27 →
                (r25 = r27 → K_M_findEdges_103 d Q (w32 (x1 + 1)) s28) ∧
                (¬ r25 = r27 →
                  (0 ≤ x1 ∧ x1 < (40 : Int)) ∧ (0 ≤ x1 ∧ x1 < (40 : Int)) ∧ wp d m_M_addEdge [.inr (.inr 49), .inr (.inl (s28 73 x1.toNat)), .inr (.inl (s28 74 x1.toNat))] s28 (fun (r31 : Int) (s32 : Mem) => K_M_findEdges_103 d Q (w32 (x1 + 1)) s32))) ∧
              (¬ r23 = r27 →
                (0 ≤ x1 ∧ x1 < (40 : Int)) ∧ (0 ≤ x1 ∧ x1 < (40 : Int)) ∧ wp d m_M_addEdge [.inr (.inr 49), .inr (.inl (s28 73 x1.toNat)), .inr (.inl (s28 74 x1.toNat))] s28 (fun (r29 : Int) (s30 : Mem) => K_M_findEdges_103 d Q (w32 (x1 + 1)) s30))))))) ∧
    (¬ x1 = 0 →
      (0 ≤ (w32 (x1 - 1)) ∧ (w32 (x1 - 1)) < (40 : Int)) ∧ (0 ≤ (w32 (x1 - 1)) ∧ (w32 (x1 - 1)) < (40 : Int)) ∧ (0 ≤ x1 ∧ x1 < (40 : Int)) ∧ (0 ≤ x1 ∧ x1 < (40 : Int)) ∧ wp d m_M_doneBetween [.inr (.inr 49), .inr (.inl (σ 73 (w32 (x1 - 1)).toNat)), .inr (.inl (σ 74 (w32 (x1 - 1)).toNat)), .inr (.inl (σ 73 x1.toNat)), .inr (.inl (σ 74 x1.toNat))] σ (fun (r5 : Int) (s6 : Mem) =>
      (x1 = (w32 ((s6 49 38) - 1)) →
          (0 ≤ x1 ∧ x1 < (40 : Int)) ∧ (0 ≤ x1 ∧ x1 < (40 : Int)) ∧ wp d m_M_doneBetween [.inr (.inr 49), .inr (.inl (s6 73 x1.toNat)), .inr (.inl (s6 74 x1.toNat)), .inr (.inl 1), .inr (.inl 1)] s6 (fun (r15 : Int) (s16 : Mem) =>
          (0 ≤ x1 ∧ x1 < (40 : Int)) ∧ (0 ≤ x1 ∧ x1 < (40 : Int)) ∧ wp d m_M_doneAt [.inr (.inr 49), .inr (.inl (s16 73 x1.toNat)), .inr (.inl (s16 74 x1.toNat))] s16 (fun (r17 : Int) (s18 : Mem) =>
            (r5 = r17 →
                (r15 = r17 → K_M_findEdges_103 d Q (w32 (x1 + 1)) s18) ∧
                (¬ r15 = r17 →
                  (0 ≤ x1 ∧ x1 < (40 : Int)) ∧ (0 ≤ x1 ∧ x1 < (40 : Int)) ∧ wp d m_M_addEdge [.inr (.inr 49), .inr (.inl (s18 73 x1.toNat)), .inr (.inl (s18 74 x1.toNat))] s18 (fun (r21 : Int) (s22 : Mem) => K_M_findEdges_103 d Q (w32 (x1 + 1)) s22))) ∧
              (¬ r5 = r17 →
                (0 ≤ x1 ∧ x1 < (40 : Int)) ∧ (0 ≤ x1 ∧ x1 < (40 : Int)) ∧ wp d m_M_addEdge [.inr (.inr 49), .inr (.inl (s18 73 x1.toNat)), .inr (.inl (s18 74 x1.toNat))] s18 (fun (r19 : Int) (s20 : Mem) => K_M_findEdges_103 d Q (w32 (x1 + 1)) s20))))) ∧
        (¬ x1 = (w32 ((s6 49 38) - 1)) →
          (0 ≤ x1 ∧ x1 < (40 : Int)) ∧ (0 ≤ x1 ∧ x1 < (40 : Int)) ∧ (0 ≤ (w32 (x1 + 1)) ∧ (w32 (x1 + 1)) < (40 : Int)) ∧ (0 ≤ (w32 (x1 + 1)) ∧ (w32 (x1 + 1)) < (40 : Int)) ∧ wp d m_M_doneBetween [.inr (.inr 49), .inr (.inl (s6 73 x1.toNat)), .inr (.inl (s6 74 x1.toNat)), .inr (.inl (s6 73 (w32 (x1 + 1)).toNat)), .inr (.inl (s6 74 (w32 (x1 + 1)).toNat))] s6 (fun (r7 : Int) (s8 : Mem) =>
          (0 ≤ x1 ∧ x1 < (40 : Int)) ∧ (0 ≤ x1 ∧ x1 < (40 : Int)) ∧ wp d m_M_doneAt [.inr (.inr 49), .inr (.inl (s8 73 x1.toNat)), .inr (.inl (s8 74 x1.toNat))] s8 (fun (r9 : Int) (s10 : Mem) =>
            (r5 = r9 →
                (r7 = r9 → K_M_findEdges_103 d Q (w32 (x1 + 1)) s10) ∧
                (¬ r7 = r9 →
                  (0 ≤ x1 ∧ x1 < (40 : Int)) ∧ (0 ≤ x1 ∧ x1 < (40 : Int)) ∧ wp d m_M_addEdge [.inr (.inr 49), .inr (.inl (s10 73 x1.toNat)), .inr (.inl (s10 74 x1.toNat))] s10 (fun (r13 : Int) (s14 : Mem) => K_M_findEdges_103 d Q (w32 (x1 + 1)) s14))) ∧
              (¬ r5 = r9 →
                (0 ≤ x1 ∧ x1 < (40 : Int)) ∧ (0 ≤ x1 ∧ x1 < (40 : Int)) ∧ wp d m_M_addEdge [.inr (.inr 49), .inr (.inl (s10 73 x1.toNat)), .inr (.inl (s10 74 x1.toNat))] s10 (fun (r11 : Int) (s12 : Mem) => K_M_findEdges_103 d Q (w32 (x1 + 1)) s12)))))))) ∧
  ((σ 49 38) ≤ x1 →
    wp d m_M_addEdge [.inr (.inr 49), .inr (.inl 1), .inr (.inl 1)] σ (fun (r1 : Int) (s2 : Mem) =>
    wp d m_M_allBefore [.inr (.inr 49)] s2 (fun (r3 : Int) (s4 : Mem) =>
      (0 ≤ (s4 49 35) ∧ (s4 49 35) < (40 : Int)) ∧ (0 ≤ ((mset s4 71 (s4 49 35).toNat (s4 51 1)) 49 35) ∧ ((mset s4 71 (s4 49 35).toNat (s4 51 1)) 49 35) < (40 : Int)) ∧ Q 0 (mset (mset s4 71 (s4 49 35).toNat (s4 51 1)) 72 ((mset s4 71 (s4 49 35).toNat (s4 51 1)) 49 35).toNat r3))))) : K_M_findEdges_103 d Q x1 σ := XX_intro (g_M_findEdges_103 (call := wp d) (cut := XX none (wp d) c_M_findEdges false Q) (Q := Q) (x1 := x1) (σ := σ) (⟨fun z4 => ⟨fun z3 => ⟨⟨by decide, by decide⟩, ⟨⟨by decide, by decide⟩, ((((h).1 z4)).1 z3)⟩⟩, fun z3 => (((h).1 z4)).2 z3⟩, fun z4 => wp_conseq (fun _ _ z2 => wp_conseq (fun _ _ z1 => ⟨⟨by decide, by decide⟩, z1⟩) (z2)) (((h).2 z4))⟩))
theorem g_M_valueOf {call : Nat → List AV → Mem → (Int → Mem → Prop) → Prop} {cut : Nat → Lo → List AV → Mem → Prop} {Q : Int → Mem → Prop} {a1 : Int} {σ : Mem} (h :
  (0 ≤ a1 ∧ a1 < (40 : Int)) ∧ (0 ≤ a1 ∧ a1 < (40 : Int)) ∧ call m_M_doneAt [.inr (.inr 49), .inr (.inl (σ 71 a1.toNat)), .inr (.inl (σ 72 a1.toNat))] σ (fun (r1 : Int) (s2 : Mem) =>
  call m_M_sumOf [.inr (.inr 49), .inl 1, .inl r1] s2 (fun (r3 : Int) (s4 : Mem) => Q r3 s4))) : seg none call c_M_valueOf false Q cut 2000 true (toPc 0 c_M_valueOf) [some (.inr (.inr 49)), some (.inl a1), none] [] σ := h
theorem e_M_valueOf {d : Nat} {Q : Int → Mem → Prop} {a1 : Int} {σ : Mem} (h :
  (0 ≤ a1 ∧ a1 < (40 : Int)) ∧ (0 ≤ a1 ∧ a1 < (40 : Int)) ∧ wp d m_M_doneAt [.inr (.inr 49), .inr (.inl (σ 71 a1.toNat)), .inr (.inl (σ 72 a1.toNat))] σ (fun (r1 : Int) (s2 : Mem) =>
  wp d m_M_sumOf [.inr (.inr 49), .inl 1, .inl r1] s2 (fun (r3 : Int) (s4 : Mem) => Q r3 s4))) : wp (d + 1) m_M_valueOf [.inr (.inr 49), .inl a1] σ Q := wp_in rfl (XX_intro (g_M_valueOf (call := wp d) (cut := XX none (wp d) c_M_valueOf false Q) (Q := Q) (a1 := a1) (σ := σ) (h)))
theorem g_M_edges {call : Nat → List AV → Mem → (Int → Mem → Prop) → Prop} {cut : Nat → Lo → List AV → Mem → Prop} {Q : Int → Mem → Prop}  {σ : Mem} (h :
  ((σ 49 0) = 2 →
    call m_M_findEdges [.inr (.inr 49)] σ (fun (r1 : Int) (s2 : Mem) => Q (s2 49 35) s2)) ∧
  (¬ (σ 49 0) = 2 →
    call m_M_refuse [.inr (.inr 49), .inl (-3)] σ (fun (r3 : Int) (s4 : Mem) => Q r3 s4))) : seg none call c_M_edges false Q cut 2000 true (toPc 0 c_M_edges) [some (.inr (.inr 49))] [] σ := h
theorem e_M_edges {d : Nat} {Q : Int → Mem → Prop}  {σ : Mem} (h :
  ((σ 49 0) = 2 →
    wp d m_M_findEdges [.inr (.inr 49)] σ (fun (r1 : Int) (s2 : Mem) => Q (s2 49 35) s2)) ∧
  (¬ (σ 49 0) = 2 →
    wp d m_M_refuse [.inr (.inr 49), .inl (-3)] σ (fun (r3 : Int) (s4 : Mem) => Q r3 s4))) : wp (d + 1) m_M_edges [.inr (.inr 49)] σ Q := wp_in rfl (XX_intro (g_M_edges (call := wp d) (cut := XX none (wp d) c_M_edges false Q) (Q := Q)  (σ := σ) (h)))
theorem g_M_edge {call : Nat → List AV → Mem → (Int → Mem → Prop) → Prop} {cut : Nat → Lo → List AV → Mem → Prop} {Q : Int → Mem → Prop} {a1 : Int} {a2 : Int} {σ : Mem} (h :
  call m_M_isPart [.inl a2] σ (fun (r1 : Int) (s2 : Mem) =>
  (r1 = 0 →
      call m_M_refuseFar [.inr (.inr 49), .inl (-2)] s2 (fun (r13 : Int) (s14 : Mem) => Q r13 s14)) ∧
    (¬ r1 = 0 →
      ((s2 49 0) = 2 →
        call m_M_findEdges [.inr (.inr 49)] s2 (fun (r3 : Int) (s4 : Mem) =>
        call m_M_in [.inr (.inl a1), .inr (.inl 0), .inr (.inl (w32 ((s4 49 35) - 1)))] s4 (fun (r5 : Int) (s6 : Mem) =>
          (r5 = 0 →
              call m_M_refuseFar [.inr (.inr 49), .inl (-1)] s6 (fun (r7 : Int) (s8 : Mem) => Q r7 s8)) ∧
            (¬ r5 = 0 →
              (0 ≤ a1 ∧ a1 < (40 : Int)) ∧ (0 ≤ a1 ∧ a1 < (40 : Int)) ∧ call m_M_fraction [.inr (.inl (s6 71 a1.toNat)), .inr (.inl (s6 72 a1.toNat)), .inl a2] s6 (fun (r9 : Int) (s10 : Mem) => Q r9 s10))))) ∧
      (¬ (s2 49 0) = 2 →
        call m_M_refuseFar [.inr (.inr 49), .inl (-3)] s2 (fun (r11 : Int) (s12 : Mem) => Q r11 s12))))) : seg none call c_M_edge false Q cut 2000 true (toPc 0 c_M_edge) [some (.inr (.inr 49)), some (.inl a1), some (.inl a2)] [] σ := h
theorem e_M_edge {d : Nat} {Q : Int → Mem → Prop} {a1 : Int} {a2 : Int} {σ : Mem} (h :
  wp d m_M_isPart [.inl a2] σ (fun (r1 : Int) (s2 : Mem) =>
  (r1 = 0 →
      wp d m_M_refuseFar [.inr (.inr 49), .inl (-2)] s2 (fun (r13 : Int) (s14 : Mem) => Q r13 s14)) ∧
    (¬ r1 = 0 →
      ((s2 49 0) = 2 →
        wp d m_M_findEdges [.inr (.inr 49)] s2 (fun (r3 : Int) (s4 : Mem) =>
        wp d m_M_in [.inr (.inl a1), .inr (.inl 0), .inr (.inl (w32 ((s4 49 35) - 1)))] s4 (fun (r5 : Int) (s6 : Mem) =>
          (r5 = 0 →
              wp d m_M_refuseFar [.inr (.inr 49), .inl (-1)] s6 (fun (r7 : Int) (s8 : Mem) => Q r7 s8)) ∧
            (¬ r5 = 0 →
              (0 ≤ a1 ∧ a1 < (40 : Int)) ∧ (0 ≤ a1 ∧ a1 < (40 : Int)) ∧ wp d m_M_fraction [.inr (.inl (s6 71 a1.toNat)), .inr (.inl (s6 72 a1.toNat)), .inl a2] s6 (fun (r9 : Int) (s10 : Mem) => Q r9 s10))))) ∧
      (¬ (s2 49 0) = 2 →
        wp d m_M_refuseFar [.inr (.inr 49), .inl (-3)] s2 (fun (r11 : Int) (s12 : Mem) => Q r11 s12))))) : wp (d + 1) m_M_edge [.inr (.inr 49), .inl a1, .inl a2] σ Q := wp_in rfl (XX_intro (g_M_edge (call := wp d) (cut := XX none (wp d) c_M_edge false Q) (Q := Q) (a1 := a1) (a2 := a2) (σ := σ) (h)))
theorem g_M_value {call : Nat → List AV → Mem → (Int → Mem → Prop) → Prop} {cut : Nat → Lo → List AV → Mem → Prop} {Q : Int → Mem → Prop} {a1 : Int} {a2 : Int} {σ : Mem} (h :
  call m_M_isPart [.inl a2] σ (fun (r1 : Int) (s2 : Mem) =>
  (r1 = 0 →
      call m_M_refuseFar [.inr (.inr 49), .inl (-2)] s2 (fun (r19 : Int) (s20 : Mem) => Q r19 s20)) ∧
    (¬ r1 = 0 →
      ((s2 49 0) = 2 →
        call m_M_findEdges [.inr (.inr 49)] s2 (fun (r3 : Int) (s4 : Mem) =>
        call m_M_in [.inr (.inl a1), .inr (.inl (-1)), .inr (.inl (w32 ((s4 49 35) - 1)))] s4 (fun (r5 : Int) (s6 : Mem) =>
          (r5 = 0 →
              call m_M_refuseFar [.inr (.inr 49), .inl (-1)] s6 (fun (r15 : Int) (s16 : Mem) => Q r15 s16)) ∧
            (¬ r5 = 0 →
              (a1 < 0 →
                call m_M_valueOf [.inr (.inr 49), .inl (s6 49 35)] s6 (fun (r11 : Int) (s12 : Mem) =>
                (0 ≤ (s6 49 35) ∧ (s6 49 35) < (40 : Int)) ∧ call m_M_fraction [.inr (.inl r11), .inr (.inl (s12 72 (s6 49 35).toNat)), .inl a2] s12 (fun (r13 : Int) (s14 : Mem) => Q r13 s14))) ∧
              (0 ≤ a1 →
                call m_M_valueOf [.inr (.inr 49), .inl a1] s6 (fun (r7 : Int) (s8 : Mem) =>
                (0 ≤ a1 ∧ a1 < (40 : Int)) ∧ call m_M_fraction [.inr (.inl r7), .inr (.inl (s8 72 a1.toNat)), .inl a2] s8 (fun (r9 : Int) (s10 : Mem) => Q r9 s10))))))) ∧
      (¬ (s2 49 0) = 2 →
        call m_M_refuseFar [.inr (.inr 49), .inl (-3)] s2 (fun (r17 : Int) (s18 : Mem) => Q r17 s18))))) : seg none call c_M_value false Q cut 2000 true (toPc 0 c_M_value) [some (.inr (.inr 49)), some (.inl a1), some (.inl a2), none] [] σ := h
theorem e_M_value {d : Nat} {Q : Int → Mem → Prop} {a1 : Int} {a2 : Int} {σ : Mem} (h :
  wp d m_M_isPart [.inl a2] σ (fun (r1 : Int) (s2 : Mem) =>
  (r1 = 0 →
      wp d m_M_refuseFar [.inr (.inr 49), .inl (-2)] s2 (fun (r19 : Int) (s20 : Mem) => Q r19 s20)) ∧
    (¬ r1 = 0 →
      ((s2 49 0) = 2 →
        wp d m_M_findEdges [.inr (.inr 49)] s2 (fun (r3 : Int) (s4 : Mem) =>
        wp d m_M_in [.inr (.inl a1), .inr (.inl (-1)), .inr (.inl (w32 ((s4 49 35) - 1)))] s4 (fun (r5 : Int) (s6 : Mem) =>
          (r5 = 0 →
              wp d m_M_refuseFar [.inr (.inr 49), .inl (-1)] s6 (fun (r15 : Int) (s16 : Mem) => Q r15 s16)) ∧
            (¬ r5 = 0 →
              (a1 < 0 →
                wp d m_M_valueOf [.inr (.inr 49), .inl (s6 49 35)] s6 (fun (r11 : Int) (s12 : Mem) =>
                (0 ≤ (s6 49 35) ∧ (s6 49 35) < (40 : Int)) ∧ wp d m_M_fraction [.inr (.inl r11), .inr (.inl (s12 72 (s6 49 35).toNat)), .inl a2] s12 (fun (r13 : Int) (s14 : Mem) => Q r13 s14))) ∧
              (0 ≤ a1 →
                wp d m_M_valueOf [.inr (.inr 49), .inl a1] s6 (fun (r7 : Int) (s8 : Mem) =>
                (0 ≤ a1 ∧ a1 < (40 : Int)) ∧ wp d m_M_fraction [.inr (.inl r7), .inr (.inl (s8 72 a1.toNat)), .inl a2] s8 (fun (r9 : Int) (s10 : Mem) => Q r9 s10))))))) ∧
      (¬ (s2 49 0) = 2 →
        wp d m_M_refuseFar [.inr (.inr 49), .inl (-3)] s2 (fun (r17 : Int) (s18 : Mem) => Q r17 s18))))) : wp (d + 1) m_M_value [.inr (.inr 49), .inl a1, .inl a2] σ Q := wp_in rfl (XX_intro (g_M_value (call := wp d) (cut := XX none (wp d) c_M_value false Q) (Q := Q) (a1 := a1) (a2 := a2) (σ := σ) (h)))
theorem g_M_findHeight {call : Nat → List AV → Mem → (Int → Mem → Prop) → Prop} {cut : Nat → Lo → List AV → Mem → Prop} {Q : Int → Mem → Prop} {a1 : Int} {a2 : Int} {a3 : Int} {σ : Mem} (h :
  (a1 = a2 →
    (0 ≤ a1 ∧ a1 < (41 : Int)) ∧ (0 ≤ a1 ∧ a1 < (40 : Int)) ∧ Q 0 (mset (mset σ 49 42 (σ 75 a1.toNat)) 49 43 ((mset σ 49 42 (σ 75 a1.toNat)) 72 a1.toNat))) ∧
  (¬ a1 = a2 →
    (0 ≤ a2 ∧ a2 < (40 : Int)) ∧ (0 ≤ a3 ∧ a3 < (40 : Int)) ∧ (0 ≤ a3 ∧ a3 < (40 : Int)) ∧ (0 ≤ a2 ∧ a2 < (40 : Int)) ∧ (0 ≤ a3 ∧ a3 < (40 : Int)) ∧ (0 ≤ a1 ∧ a1 < (40 : Int)) ∧ (0 ≤ a1 ∧ a1 < (40 : Int)) ∧ (0 ≤ a3 ∧ a3 < (40 : Int)) ∧ (0 ≤ a1 ∧ a1 < (41 : Int)) ∧ (0 ≤ a2 ∧ a2 < (41 : Int)) ∧ (0 ≤ a3 ∧ a3 < (40 : Int)) ∧ (0 ≤ a2 ∧ a2 < (40 : Int)) ∧ (0 ≤ a1 ∧ a1 < (40 : Int)) ∧ (0 ≤ a1 ∧ a1 < (40 : Int)) ∧ (0 ≤ a2 ∧ a2 < (40 : Int)) ∧ call m_M_divisor [.inr (.inl ((mset (mset σ 49 42 (w64 ((w64 ((σ 75 a1.toNat) * (w64 ((w64 ((σ 71 a2.toNat) * (σ 72 a3.toNat))) - (w64 ((σ 71 a3.toNat) * (σ 72 a2.toNat))))))) + (w64 ((σ 75 a2.toNat) * (w64 ((w64 ((σ 71 a3.toNat) * (σ 72 a1.toNat))) - (w64 ((σ 71 a1.toNat) * (σ 72 a3.toNat)))))))))) 49 43 (w64 (((mset σ 49 42 (w64 ((w64 ((σ 75 a1.toNat) * (w64 ((w64 ((σ 71 a2.toNat) * (σ 72 a3.toNat))) - (w64 ((σ 71 a3.toNat) * (σ 72 a2.toNat))))))) + (w64 ((σ 75 a2.toNat) * (w64 ((w64 ((σ 71 a3.toNat) * (σ 72 a1.toNat))) - (w64 ((σ 71 a1.toNat) * (σ 72 a3.toNat)))))))))) 72 a3.toNat) * (w64 ((w64 (((mset σ 49 42 (w64 ((w64 ((σ 75 a1.toNat) * (w64 ((w64 ((σ 71 a2.toNat) * (σ 72 a3.toNat))) - (w64 ((σ 71 a3.toNat) * (σ 72 a2.toNat))))))) + (w64 ((σ 75 a2.toNat) * (w64 ((w64 ((σ 71 a3.toNat) * (σ 72 a1.toNat))) - (w64 ((σ 71 a1.toNat) * (σ 72 a3.toNat)))))))))) 71 a2.toNat) * ((mset σ 49 42 (w64 ((w64 ((σ 75 a1.toNat) * (w64 ((w64 ((σ 71 a2.toNat) * (σ 72 a3.toNat))) - (w64 ((σ 71 a3.toNat) * (σ 72 a2.toNat))))))) + (w64 ((σ 75 a2.toNat) * (w64 ((w64 ((σ 71 a3.toNat) * (σ 72 a1.toNat))) - (w64 ((σ 71 a1.toNat) * (σ 72 a3.toNat)))))))))) 72 a1.toNat))) - (w64 (((mset σ 49 42 (w64 ((w64 ((σ 75 a1.toNat) * (w64 ((w64 ((σ 71 a2.toNat) * (σ 72 a3.toNat))) - (w64 ((σ 71 a3.toNat) * (σ 72 a2.toNat))))))) + (w64 ((σ 75 a2.toNat) * (w64 ((w64 ((σ 71 a3.toNat) * (σ 72 a1.toNat))) - (w64 ((σ 71 a1.toNat) * (σ 72 a3.toNat)))))))))) 71 a1.toNat) * ((mset σ 49 42 (w64 ((w64 ((σ 75 a1.toNat) * (w64 ((w64 ((σ 71 a2.toNat) * (σ 72 a3.toNat))) - (w64 ((σ 71 a3.toNat) * (σ 72 a2.toNat))))))) + (w64 ((σ 75 a2.toNat) * (w64 ((w64 ((σ 71 a3.toNat) * (σ 72 a1.toNat))) - (w64 ((σ 71 a1.toNat) * (σ 72 a3.toNat)))))))))) 72 a2.toNat)))))))) 49 42)), .inr (.inl ((mset (mset σ 49 42 (w64 ((w64 ((σ 75 a1.toNat) * (w64 ((w64 ((σ 71 a2.toNat) * (σ 72 a3.toNat))) - (w64 ((σ 71 a3.toNat) * (σ 72 a2.toNat))))))) + (w64 ((σ 75 a2.toNat) * (w64 ((w64 ((σ 71 a3.toNat) * (σ 72 a1.toNat))) - (w64 ((σ 71 a1.toNat) * (σ 72 a3.toNat)))))))))) 49 43 (w64 (((mset σ 49 42 (w64 ((w64 ((σ 75 a1.toNat) * (w64 ((w64 ((σ 71 a2.toNat) * (σ 72 a3.toNat))) - (w64 ((σ 71 a3.toNat) * (σ 72 a2.toNat))))))) + (w64 ((σ 75 a2.toNat) * (w64 ((w64 ((σ 71 a3.toNat) * (σ 72 a1.toNat))) - (w64 ((σ 71 a1.toNat) * (σ 72 a3.toNat)))))))))) 72 a3.toNat) * (w64 ((w64 (((mset σ 49 42 (w64 ((w64 ((σ 75 a1.toNat) * (w64 ((w64 ((σ 71 a2.toNat) * (σ 72 a3.toNat))) - (w64 ((σ 71 a3.toNat) * (σ 72 a2.toNat))))))) + (w64 ((σ 75 a2.toNat) * (w64 ((w64 ((σ 71 a3.toNat) * (σ 72 a1.toNat))) - (w64 ((σ 71 a1.toNat) * (σ 72 a3.toNat)))))))))) 71 a2.toNat) * ((mset σ 49 42 (w64 ((w64 ((σ 75 a1.toNat) * (w64 ((w64 ((σ 71 a2.toNat) * (σ 72 a3.toNat))) - (w64 ((σ 71 a3.toNat) * (σ 72 a2.toNat))))))) + (w64 ((σ 75 a2.toNat) * (w64 ((w64 ((σ 71 a3.toNat) * (σ 72 a1.toNat))) - (w64 ((σ 71 a1.toNat) * (σ 72 a3.toNat)))))))))) 72 a1.toNat))) - (w64 (((mset σ 49 42 (w64 ((w64 ((σ 75 a1.toNat) * (w64 ((w64 ((σ 71 a2.toNat) * (σ 72 a3.toNat))) - (w64 ((σ 71 a3.toNat) * (σ 72 a2.toNat))))))) + (w64 ((σ 75 a2.toNat) * (w64 ((w64 ((σ 71 a3.toNat) * (σ 72 a1.toNat))) - (w64 ((σ 71 a1.toNat) * (σ 72 a3.toNat)))))))))) 71 a1.toNat) * ((mset σ 49 42 (w64 ((w64 ((σ 75 a1.toNat) * (w64 ((w64 ((σ 71 a2.toNat) * (σ 72 a3.toNat))) - (w64 ((σ 71 a3.toNat) * (σ 72 a2.toNat))))))) + (w64 ((σ 75 a2.toNat) * (w64 ((w64 ((σ 71 a3.toNat) * (σ 72 a1.toNat))) - (w64 ((σ 71 a1.toNat) * (σ 72 a3.toNat)))))))))) 72 a2.toNat)))))))) 49 43))] (mset (mset σ 49 42 (w64 ((w64 ((σ 75 a1.toNat) * (w64 ((w64 ((σ 71 a2.toNat) * (σ 72 a3.toNat))) - (w64 ((σ 71 a3.toNat) * (σ 72 a2.toNat))))))) + (w64 ((σ 75 a2.toNat) * (w64 ((w64 ((σ 71 a3.toNat) * (σ 72 a1.toNat))) - (w64 ((σ 71 a1.toNat) * (σ 72 a3.toNat)))))))))) 49 43 (w64 (((mset σ 49 42 (w64 ((w64 ((σ 75 a1.toNat) * (w64 ((w64 ((σ 71 a2.toNat) * (σ 72 a3.toNat))) - (w64 ((σ 71 a3.toNat) * (σ 72 a2.toNat))))))) + (w64 ((σ 75 a2.toNat) * (w64 ((w64 ((σ 71 a3.toNat) * (σ 72 a1.toNat))) - (w64 ((σ 71 a1.toNat) * (σ 72 a3.toNat)))))))))) 72 a3.toNat) * (w64 ((w64 (((mset σ 49 42 (w64 ((w64 ((σ 75 a1.toNat) * (w64 ((w64 ((σ 71 a2.toNat) * (σ 72 a3.toNat))) - (w64 ((σ 71 a3.toNat) * (σ 72 a2.toNat))))))) + (w64 ((σ 75 a2.toNat) * (w64 ((w64 ((σ 71 a3.toNat) * (σ 72 a1.toNat))) - (w64 ((σ 71 a1.toNat) * (σ 72 a3.toNat)))))))))) 71 a2.toNat) * ((mset σ 49 42 (w64 ((w64 ((σ 75 a1.toNat) * (w64 ((w64 ((σ 71 a2.toNat) * (σ 72 a3.toNat))) - (w64 ((σ 71 a3.toNat) * (σ 72 a2.toNat))))))) + (w64 ((σ 75 a2.toNat) * (w64 ((w64 ((σ 71 a3.toNat) * (σ 72 a1.toNat))) - (w64 ((σ 71 a1.toNat) * (σ 72 a3.toNat)))))))))) 72 a1.toNat))) - (w64 (((mset σ 49 42 (w64 ((w64 ((σ 75 a1.toNat) * (w64 ((w64 ((σ 71 a2.toNat) * (σ 72 a3.toNat))) - (w64 ((σ 71 a3.toNat) * (σ 72 a2.toNat))))))) + (w64 ((σ 75 a2.toNat) * (w64 ((w64 ((σ 71 a3.toNat) * (σ 72 a1.toNat))) - (w64 ((σ 71 a1.toNat) * (σ 72 a3.toNat)))))))))) 71 a1.toNat) * ((mset σ 49 42 (w64 ((w64 ((σ 75 a1.toNat) * (w64 ((w64 ((σ 71 a2.toNat) * (σ 72 a3.toNat))) - (w64 ((σ 71 a3.toNat) * (σ 72 a2.toNat))))))) + (w64 ((σ 75 a2.toNat) * (w64 ((w64 ((σ 71 a3.toNat) * (σ 72 a1.toNat))) - (w64 ((σ 71 a1.toNat) * (σ 72 a3.toNat)))))))))) 72 a2.toNat)))))))) (fun (r1 : Int) (s2 : Mem) =>
    (¬ r1 = 0) ∧ (¬ r1 = 0) ∧ Q 0 (mset (mset s2 49 42 (w64 (Int.tdiv (s2 49 42) r1))) 49 43 (w64 (Int.tdiv ((mset s2 49 42 (w64 (Int.tdiv (s2 49 42) r1))) 49 43) r1)))))) : seg none call c_M_findHeight false Q cut 2000 true (toPc 0 c_M_findHeight) [some (.inr (.inr 49)), some (.inl a1), some (.inl a2), some (.inl a3), none, none, none, none, none, none] [] σ := h
theorem e_M_findHeight {d : Nat} {Q : Int → Mem → Prop} {a1 : Int} {a2 : Int} {a3 : Int} {σ : Mem} (h :
  (a1 = a2 →
    (0 ≤ a1 ∧ a1 < (41 : Int)) ∧ (0 ≤ a1 ∧ a1 < (40 : Int)) ∧ Q 0 (mset (mset σ 49 42 (σ 75 a1.toNat)) 49 43 ((mset σ 49 42 (σ 75 a1.toNat)) 72 a1.toNat))) ∧
  (¬ a1 = a2 →
    (0 ≤ a2 ∧ a2 < (40 : Int)) ∧ (0 ≤ a3 ∧ a3 < (40 : Int)) ∧ (0 ≤ a3 ∧ a3 < (40 : Int)) ∧ (0 ≤ a2 ∧ a2 < (40 : Int)) ∧ (0 ≤ a3 ∧ a3 < (40 : Int)) ∧ (0 ≤ a1 ∧ a1 < (40 : Int)) ∧ (0 ≤ a1 ∧ a1 < (40 : Int)) ∧ (0 ≤ a3 ∧ a3 < (40 : Int)) ∧ (0 ≤ a1 ∧ a1 < (41 : Int)) ∧ (0 ≤ a2 ∧ a2 < (41 : Int)) ∧ (0 ≤ a3 ∧ a3 < (40 : Int)) ∧ (0 ≤ a2 ∧ a2 < (40 : Int)) ∧ (0 ≤ a1 ∧ a1 < (40 : Int)) ∧ (0 ≤ a1 ∧ a1 < (40 : Int)) ∧ (0 ≤ a2 ∧ a2 < (40 : Int)) ∧ wp d m_M_divisor [.inr (.inl ((mset (mset σ 49 42 (w64 ((w64 ((σ 75 a1.toNat) * (w64 ((w64 ((σ 71 a2.toNat) * (σ 72 a3.toNat))) - (w64 ((σ 71 a3.toNat) * (σ 72 a2.toNat))))))) + (w64 ((σ 75 a2.toNat) * (w64 ((w64 ((σ 71 a3.toNat) * (σ 72 a1.toNat))) - (w64 ((σ 71 a1.toNat) * (σ 72 a3.toNat)))))))))) 49 43 (w64 (((mset σ 49 42 (w64 ((w64 ((σ 75 a1.toNat) * (w64 ((w64 ((σ 71 a2.toNat) * (σ 72 a3.toNat))) - (w64 ((σ 71 a3.toNat) * (σ 72 a2.toNat))))))) + (w64 ((σ 75 a2.toNat) * (w64 ((w64 ((σ 71 a3.toNat) * (σ 72 a1.toNat))) - (w64 ((σ 71 a1.toNat) * (σ 72 a3.toNat)))))))))) 72 a3.toNat) * (w64 ((w64 (((mset σ 49 42 (w64 ((w64 ((σ 75 a1.toNat) * (w64 ((w64 ((σ 71 a2.toNat) * (σ 72 a3.toNat))) - (w64 ((σ 71 a3.toNat) * (σ 72 a2.toNat))))))) + (w64 ((σ 75 a2.toNat) * (w64 ((w64 ((σ 71 a3.toNat) * (σ 72 a1.toNat))) - (w64 ((σ 71 a1.toNat) * (σ 72 a3.toNat)))))))))) 71 a2.toNat) * ((mset σ 49 42 (w64 ((w64 ((σ 75 a1.toNat) * (w64 ((w64 ((σ 71 a2.toNat) * (σ 72 a3.toNat))) - (w64 ((σ 71 a3.toNat) * (σ 72 a2.toNat))))))) + (w64 ((σ 75 a2.toNat) * (w64 ((w64 ((σ 71 a3.toNat) * (σ 72 a1.toNat))) - (w64 ((σ 71 a1.toNat) * (σ 72 a3.toNat)))))))))) 72 a1.toNat))) - (w64 (((mset σ 49 42 (w64 ((w64 ((σ 75 a1.toNat) * (w64 ((w64 ((σ 71 a2.toNat) * (σ 72 a3.toNat))) - (w64 ((σ 71 a3.toNat) * (σ 72 a2.toNat))))))) + (w64 ((σ 75 a2.toNat) * (w64 ((w64 ((σ 71 a3.toNat) * (σ 72 a1.toNat))) - (w64 ((σ 71 a1.toNat) * (σ 72 a3.toNat)))))))))) 71 a1.toNat) * ((mset σ 49 42 (w64 ((w64 ((σ 75 a1.toNat) * (w64 ((w64 ((σ 71 a2.toNat) * (σ 72 a3.toNat))) - (w64 ((σ 71 a3.toNat) * (σ 72 a2.toNat))))))) + (w64 ((σ 75 a2.toNat) * (w64 ((w64 ((σ 71 a3.toNat) * (σ 72 a1.toNat))) - (w64 ((σ 71 a1.toNat) * (σ 72 a3.toNat)))))))))) 72 a2.toNat)))))))) 49 42)), .inr (.inl ((mset (mset σ 49 42 (w64 ((w64 ((σ 75 a1.toNat) * (w64 ((w64 ((σ 71 a2.toNat) * (σ 72 a3.toNat))) - (w64 ((σ 71 a3.toNat) * (σ 72 a2.toNat))))))) + (w64 ((σ 75 a2.toNat) * (w64 ((w64 ((σ 71 a3.toNat) * (σ 72 a1.toNat))) - (w64 ((σ 71 a1.toNat) * (σ 72 a3.toNat)))))))))) 49 43 (w64 (((mset σ 49 42 (w64 ((w64 ((σ 75 a1.toNat) * (w64 ((w64 ((σ 71 a2.toNat) * (σ 72 a3.toNat))) - (w64 ((σ 71 a3.toNat) * (σ 72 a2.toNat))))))) + (w64 ((σ 75 a2.toNat) * (w64 ((w64 ((σ 71 a3.toNat) * (σ 72 a1.toNat))) - (w64 ((σ 71 a1.toNat) * (σ 72 a3.toNat)))))))))) 72 a3.toNat) * (w64 ((w64 (((mset σ 49 42 (w64 ((w64 ((σ 75 a1.toNat) * (w64 ((w64 ((σ 71 a2.toNat) * (σ 72 a3.toNat))) - (w64 ((σ 71 a3.toNat) * (σ 72 a2.toNat))))))) + (w64 ((σ 75 a2.toNat) * (w64 ((w64 ((σ 71 a3.toNat) * (σ 72 a1.toNat))) - (w64 ((σ 71 a1.toNat) * (σ 72 a3.toNat)))))))))) 71 a2.toNat) * ((mset σ 49 42 (w64 ((w64 ((σ 75 a1.toNat) * (w64 ((w64 ((σ 71 a2.toNat) * (σ 72 a3.toNat))) - (w64 ((σ 71 a3.toNat) * (σ 72 a2.toNat))))))) + (w64 ((σ 75 a2.toNat) * (w64 ((w64 ((σ 71 a3.toNat) * (σ 72 a1.toNat))) - (w64 ((σ 71 a1.toNat) * (σ 72 a3.toNat)))))))))) 72 a1.toNat))) - (w64 (((mset σ 49 42 (w64 ((w64 ((σ 75 a1.toNat) * (w64 ((w64 ((σ 71 a2.toNat) * (σ 72 a3.toNat))) - (w64 ((σ 71 a3.toNat) * (σ 72 a2.toNat))))))) + (w64 ((σ 75 a2.toNat) * (w64 ((w64 ((σ 71 a3.toNat) * (σ 72 a1.toNat))) - (w64 ((σ 71 a1.toNat) * (σ 72 a3.toNat)))))))))) 71 a1.toNat) * ((mset σ 49 42 (w64 ((w64 ((σ 75 a1.toNat) * (w64 ((w64 ((σ 71 a2.toNat) * (σ 72 a3.toNat))) - (w64 ((σ 71 a3.toNat) * (σ 72 a2.toNat))))))) + (w64 ((σ 75 a2.toNat) * (w64 ((w64 ((σ 71 a3.toNat) * (σ 72 a1.toNat))) - (w64 ((σ 71 a1.toNat) * (σ 72 a3.toNat)))))))))) 72 a2.toNat)))))))) 49 43))] (mset (mset σ 49 42 (w64 ((w64 ((σ 75 a1.toNat) * (w64 ((w64 ((σ 71 a2.toNat) * (σ 72 a3.toNat))) - (w64 ((σ 71 a3.toNat) * (σ 72 a2.toNat))))))) + (w64 ((σ 75 a2.toNat) * (w64 ((w64 ((σ 71 a3.toNat) * (σ 72 a1.toNat))) - (w64 ((σ 71 a1.toNat) * (σ 72 a3.toNat)))))))))) 49 43 (w64 (((mset σ 49 42 (w64 ((w64 ((σ 75 a1.toNat) * (w64 ((w64 ((σ 71 a2.toNat) * (σ 72 a3.toNat))) - (w64 ((σ 71 a3.toNat) * (σ 72 a2.toNat))))))) + (w64 ((σ 75 a2.toNat) * (w64 ((w64 ((σ 71 a3.toNat) * (σ 72 a1.toNat))) - (w64 ((σ 71 a1.toNat) * (σ 72 a3.toNat)))))))))) 72 a3.toNat) * (w64 ((w64 (((mset σ 49 42 (w64 ((w64 ((σ 75 a1.toNat) * (w64 ((w64 ((σ 71 a2.toNat) * (σ 72 a3.toNat))) - (w64 ((σ 71 a3.toNat) * (σ 72 a2.toNat))))))) + (w64 ((σ 75 a2.toNat) * (w64 ((w64 ((σ 71 a3.toNat) * (σ 72 a1.toNat))) - (w64 ((σ 71 a1.toNat) * (σ 72 a3.toNat)))))))))) 71 a2.toNat) * ((mset σ 49 42 (w64 ((w64 ((σ 75 a1.toNat) * (w64 ((w64 ((σ 71 a2.toNat) * (σ 72 a3.toNat))) - (w64 ((σ 71 a3.toNat) * (σ 72 a2.toNat))))))) + (w64 ((σ 75 a2.toNat) * (w64 ((w64 ((σ 71 a3.toNat) * (σ 72 a1.toNat))) - (w64 ((σ 71 a1.toNat) * (σ 72 a3.toNat)))))))))) 72 a1.toNat))) - (w64 (((mset σ 49 42 (w64 ((w64 ((σ 75 a1.toNat) * (w64 ((w64 ((σ 71 a2.toNat) * (σ 72 a3.toNat))) - (w64 ((σ 71 a3.toNat) * (σ 72 a2.toNat))))))) + (w64 ((σ 75 a2.toNat) * (w64 ((w64 ((σ 71 a3.toNat) * (σ 72 a1.toNat))) - (w64 ((σ 71 a1.toNat) * (σ 72 a3.toNat)))))))))) 71 a1.toNat) * ((mset σ 49 42 (w64 ((w64 ((σ 75 a1.toNat) * (w64 ((w64 ((σ 71 a2.toNat) * (σ 72 a3.toNat))) - (w64 ((σ 71 a3.toNat) * (σ 72 a2.toNat))))))) + (w64 ((σ 75 a2.toNat) * (w64 ((w64 ((σ 71 a3.toNat) * (σ 72 a1.toNat))) - (w64 ((σ 71 a1.toNat) * (σ 72 a3.toNat)))))))))) 72 a2.toNat)))))))) (fun (r1 : Int) (s2 : Mem) =>
    (¬ r1 = 0) ∧ (¬ r1 = 0) ∧ Q 0 (mset (mset s2 49 42 (w64 (Int.tdiv (s2 49 42) r1))) 49 43 (w64 (Int.tdiv ((mset s2 49 42 (w64 (Int.tdiv (s2 49 42) r1))) 49 43) r1)))))) : wp (d + 1) m_M_findHeight [.inr (.inr 49), .inl a1, .inl a2, .inl a3] σ Q := wp_in rfl (XX_intro (g_M_findHeight (call := wp d) (cut := XX none (wp d) c_M_findHeight false Q) (Q := Q) (a1 := a1) (a2 := a2) (a3 := a3) (σ := σ) (h)))
theorem g_M_isBelow {call : Nat → List AV → Mem → (Int → Mem → Prop) → Prop} {cut : Nat → Lo → List AV → Mem → Prop} {Q : Int → Mem → Prop} {a1 : Int} {a2 : Int} {σ : Mem} (h :
  (0 ≤ a1 ∧ a1 < (40 : Int)) ∧ (0 ≤ a2 ∧ a2 < (40 : Int)) ∧ (0 ≤ a2 ∧ a2 < (40 : Int)) ∧ (0 ≤ a1 ∧ a1 < (40 : Int)) ∧ ((w64 ((σ 71 a1.toNat) * (σ 72 a2.toNat))) < (w64 ((σ 71 a2.toNat) * (σ 72 a1.toNat))) → isB 1 ∧ Q 1 σ) ∧
  ((w64 ((σ 71 a2.toNat) * (σ 72 a1.toNat))) ≤ (w64 ((σ 71 a1.toNat) * (σ 72 a2.toNat))) → isB 0 ∧ Q 0 σ)) : seg none call c_M_isBelow true Q cut 2000 true (toPc 0 c_M_isBelow) [some (.inr (.inr 49)), some (.inl a1), some (.inl a2)] [] σ := h
theorem e_M_isBelow {d : Nat} {Q : Int → Mem → Prop} {a1 : Int} {a2 : Int} {σ : Mem} (h :
  (0 ≤ a1 ∧ a1 < (40 : Int)) ∧ (0 ≤ a2 ∧ a2 < (40 : Int)) ∧ (0 ≤ a2 ∧ a2 < (40 : Int)) ∧ (0 ≤ a1 ∧ a1 < (40 : Int)) ∧ ((w64 ((σ 71 a1.toNat) * (σ 72 a2.toNat))) < (w64 ((σ 71 a2.toNat) * (σ 72 a1.toNat))) → Q 1 σ) ∧
  ((w64 ((σ 71 a2.toNat) * (σ 72 a1.toNat))) ≤ (w64 ((σ 71 a1.toNat) * (σ 72 a2.toNat))) → Q 0 σ)) : wp (d + 1) m_M_isBelow [.inr (.inr 49), .inl a1, .inl a2] σ Q := wp_in rfl (XX_intro (g_M_isBelow (call := wp d) (cut := XX none (wp d) c_M_isBelow true Q) (Q := Q) (a1 := a1) (a2 := a2) (σ := σ) (⟨(h).1, ⟨((h).2).1, ⟨(((h).2).2).1, ⟨((((h).2).2).2).1, ⟨fun z1 => ⟨isB1, ((((((h).2).2).2).2).1 z1)⟩, fun z1 => ⟨isB0, ((((((h).2).2).2).2).2 z1)⟩⟩⟩⟩⟩⟩)))
abbrev K_M_findBest_6 (d : Nat) (Q : Int → Mem → Prop) (x1 : Int) (σ : Mem) : Prop := XX none (wp d) c_M_findBest false Q 6 [some (.inr (.inr 49)), some (.inl x1), none, none, none, none] [] σ
abbrev K_M_findBest_43 (d : Nat) (Q : Int → Mem → Prop) (x1 : Int) (x2 : Int) (σ : Mem) : Prop := XX none (wp d) c_M_findBest false Q 43 [some (.inr (.inr 49)), some (.inl x1), some (.inl x2), none, none, none] [] σ
abbrev K_M_findBest_53 (d : Nat) (Q : Int → Mem → Prop) (x1 : Int) (x2 : Int) (x3 : Int) (σ : Mem) : Prop := XX none (wp d) c_M_findBest false Q 53 [some (.inr (.inr 49)), some (.inl x1), some (.inl x2), some (.inl x3), none, none] [] σ
abbrev K_M_findBest_75 (d : Nat) (Q : Int → Mem → Prop) (x1 : Int) (x2 : Int) (x3 : Int) (σ : Mem) : Prop := XX none (wp d) c_M_findBest false Q 75 [some (.inr (.inr 49)), some (.inl x1), some (.inl x2), some (.inl x3), none, none] [] σ
abbrev K_M_findBest_76 (d : Nat) (Q : Int → Mem → Prop) (x1 : Int) (x2 : Int) (x3 : Int) (y0 : Int) (σ : Mem) : Prop := XX none (wp d) c_M_findBest false Q 76 [some (.inr (.inr 49)), some (.inl x1), some (.inl x2), some (.inl x3), none, none] [.inl y0] σ
abbrev K_M_findBest_110 (d : Nat) (Q : Int → Mem → Prop) (x1 : Int) (x2 : Int) (x3 : Int) (σ : Mem) : Prop := XX none (wp d) c_M_findBest false Q 110 [some (.inr (.inr 49)), some (.inl x1), some (.inl x2), some (.inl x3), none, none] [] σ
abbrev K_M_findBest_114 (d : Nat) (Q : Int → Mem → Prop) (x1 : Int) (x2 : Int) (x3 : Int) (σ : Mem) : Prop := XX none (wp d) c_M_findBest false Q 114 [some (.inr (.inr 49)), some (.inl x1), some (.inl x2), some (.inl x3), none, none] [] σ
abbrev K_M_findBest_115 (d : Nat) (Q : Int → Mem → Prop) (x1 : Int) (x2 : Int) (x3 : Int) (y0 : Int) (σ : Mem) : Prop := XX none (wp d) c_M_findBest false Q 115 [some (.inr (.inr 49)), some (.inl x1), some (.inl x2), some (.inl x3), none, none] [.inl y0] σ
abbrev K_M_findBest_145 (d : Nat) (Q : Int → Mem → Prop) (x1 : Int) (x2 : Int) (x3 : Int) (σ : Mem) : Prop := XX none (wp d) c_M_findBest false Q 145 [some (.inr (.inr 49)), some (.inl x1), some (.inl x2), some (.inl x3), none, none] [] σ
abbrev K_M_findBest_171 (d : Nat) (Q : Int → Mem → Prop) (x1 : Int) (x2 : Int) (x3 : Int) (σ : Mem) : Prop := XX none (wp d) c_M_findBest false Q 171 [some (.inr (.inr 49)), some (.inl x1), some (.inl x2), some (.inl x3), none, none] [] σ
theorem g_M_findBest {call : Nat → List AV → Mem → (Int → Mem → Prop) → Prop} {cut : Nat → Lo → List AV → Mem → Prop} {Q : Int → Mem → Prop}  {σ : Mem} (h :
  call m_M_findEdges [.inr (.inr 49)] σ (fun (r1 : Int) (s2 : Mem) =>
  cut 6 [some (.inr (.inr 49)), some (.inl 0), none, none, none, none] [] s2)) : seg none call c_M_findBest false Q cut 2000 true (toPc 0 c_M_findBest) [some (.inr (.inr 49)), none, none, none, none, none] [] σ := h
theorem e_M_findBest {d : Nat} {Q : Int → Mem → Prop}  {σ : Mem} (h :
  wp d m_M_findEdges [.inr (.inr 49)] σ (fun (r1 : Int) (s2 : Mem) => K_M_findBest_6 d Q 0 s2)) : wp (d + 1) m_M_findBest [.inr (.inr 49)] σ Q := wp_in rfl (XX_intro (g_M_findBest (call := wp d) (cut := XX none (wp d) c_M_findBest false Q) (Q := Q)  (σ := σ) (h)))
theorem g_M_findBest_6 {call : Nat → List AV → Mem → (Int → Mem → Prop) → Prop} {cut : Nat → Lo → List AV → Mem → Prop} {Q : Int → Mem → Prop} {x1 : Int} {σ : Mem} (h :
  ((σ 49 35) < x1 →
    cut 43 [some (.inr (.inr 49)), some (.inl (σ 49 35)), some (.inl 0), none, none, none] [] (mset σ 49 44 (-1))) ∧
  (x1 ≤ (σ 49 35) →
    call m_M_valueOf [.inr (.inr 49), .inl x1] σ (fun (r1 : Int) (s2 : Mem) =>
    (0 ≤ x1 ∧ x1 < (41 : Int)) ∧ cut 6 [some (.inr (.inr 49)), some (.inl (w32 (x1 + 1))), none, none, none, none] [] (mset s2 75 x1.toNat r1)))) : seg none call c_M_findBest false Q cut 2000 true (toPc 6 c_M_findBest) [some (.inr (.inr 49)), some (.inl x1), none, none, none, none] [] σ := h
theorem e_M_findBest_6 {d : Nat} {Q : Int → Mem → Prop} {x1 : Int} {σ : Mem} (h :
  ((σ 49 35) < x1 → K_M_findBest_43 d Q (σ 49 35) 0 (mset σ 49 44 (-1))) ∧
  (x1 ≤ (σ 49 35) →
    wp d m_M_valueOf [.inr (.inr 49), .inl x1] σ (fun (r1 : Int) (s2 : Mem) =>
    (0 ≤ x1 ∧ x1 < (41 : Int)) ∧ K_M_findBest_6 d Q (w32 (x1 + 1)) (mset s2 75 x1.toNat r1)))) : K_M_findBest_6 d Q x1 σ := XX_intro (g_M_findBest_6 (call := wp d) (cut := XX none (wp d) c_M_findBest false Q) (Q := Q) (x1 := x1) (σ := σ) (h))
theorem g_M_findBest_43 {call : Nat → List AV → Mem → (Int → Mem → Prop) → Prop} {cut : Nat → Lo → List AV → Mem → Prop} {Q : Int → Mem → Prop} {x1 : Int} {x2 : Int} {σ : Mem} (h :
  ((σ 49 35) < x2 → Q 0 σ) ∧
  (x2 ≤ (σ 49 35) →
    cut 53 [some (.inr (.inr 49)), some (.inl x1), some (.inl x2), some (.inl 0), none, none] [] σ)) : seg none call c_M_findBest false Q cut 2000 true (toPc 43 c_M_findBest) [some (.inr (.inr 49)), some (.inl x1), some (.inl x2), none, none, none] [] σ := h
theorem e_M_findBest_43 {d : Nat} {Q : Int → Mem → Prop} {x1 : Int} {x2 : Int} {σ : Mem} (h :
  ((σ 49 35) < x2 → Q 0 σ) ∧
  (x2 ≤ (σ 49 35) → K_M_findBest_53 d Q x1 x2 0 σ)) : K_M_findBest_43 d Q x1 x2 σ := XX_intro (g_M_findBest_43 (call := wp d) (cut := XX none (wp d) c_M_findBest false Q) (Q := Q) (x1 := x1) (x2 := x2) (σ := σ) (h))
theorem g_M_findBest_53 {call : Nat → List AV → Mem → (Int → Mem → Prop) → Prop} {cut : Nat → Lo → List AV → Mem → Prop} {Q : Int → Mem → Prop} {x1 : Int} {x2 : Int} {x3 : Int} {σ : Mem} (h :
  ((σ 49 35) < x3 →
    cut 43 [some (.inr (.inr 49)), some (.inl x1), some (.inl (w32 (x2 + 1))), none, none, none] [] σ) ∧
  (x3 ≤ (σ 49 35) →
    (x2 = x1 →
      (x3 = x1 →
        cut 76 [some (.inr (.inr 49)), some (.inl x1), some (.inl x2), some (.inl x3), none, none] [.inl 1] σ) ∧
      (¬ x3 = x1 →
        cut 75 [some (.inr (.inr 49)), some (.inl x1), some (.inl x2), some (.inl x3), none, none] [] σ)) ∧
    (¬ x2 = x1 →
      cut 75 [some (.inr (.inr 49)), some (.inl x1), some (.inl x2), some (.inl x3), none, none] [] σ))) : seg none call c_M_findBest false Q cut 2000 true (toPc 53 c_M_findBest) [some (.inr (.inr 49)), some (.inl x1), some (.inl x2), some (.inl x3), none, none] [] σ := h
theorem e_M_findBest_53 {d : Nat} {Q : Int → Mem → Prop} {x1 : Int} {x2 : Int} {x3 : Int} {σ : Mem} (h :
  ((σ 49 35) < x3 → K_M_findBest_43 d Q x1 (w32 (x2 + 1)) σ) ∧
  (x3 ≤ (σ 49 35) →
    (x2 = x1 →
      (x3 = x1 → K_M_findBest_76 d Q x1 x2 x3 1 σ) ∧
      (¬ x3 = x1 → K_M_findBest_75 d Q x1 x2 x3 σ)) ∧
    (¬ x2 = x1 → K_M_findBest_75 d Q x1 x2 x3 σ))) : K_M_findBest_53 d Q x1 x2 x3 σ := XX_intro (g_M_findBest_53 (call := wp d) (cut := XX none (wp d) c_M_findBest false Q) (Q := Q) (x1 := x1) (x2 := x2) (x3 := x3) (σ := σ) (h))
theorem g_M_findBest_75 {call : Nat → List AV → Mem → (Int → Mem → Prop) → Prop} {cut : Nat → Lo → List AV → Mem → Prop} {Q : Int → Mem → Prop} {x1 : Int} {x2 : Int} {x3 : Int} {σ : Mem} (h :
  cut 76 [some (.inr (.inr 49)), some (.inl x1), some (.inl x2), some (.inl x3), none, none] [.inl 0] σ) : seg none call c_M_findBest false Q cut 2000 true (toPc 75 c_M_findBest) [some (.inr (.inr 49)), some (.inl x1), some (.inl x2), some (.inl x3), none, none] [] σ := h
theorem e_M_findBest_75 {d : Nat} {Q : Int → Mem → Prop} {x1 : Int} {x2 : Int} {x3 : Int} {σ : Mem} (h :
  K_M_findBest_76 d Q x1 x2 x3 0 σ) : K_M_findBest_75 d Q x1 x2 x3 σ := XX_intro (g_M_findBest_75 (call := wp d) (cut := XX none (wp d) c_M_findBest false Q) (Q := Q) (x1 := x1) (x2 := x2) (x3 := x3) (σ := σ) (h))
theorem g_M_findBest_76 {call : Nat → List AV → Mem → (Int → Mem → Prop) → Prop} {cut : Nat → Lo → List AV → Mem → Prop} {Q : Int → Mem → Prop} {x1 : Int} {x2 : Int} {x3 : Int} {y0 : Int} {σ : Mem} (h :
  (y0 = 0 →
    call m_M_isBelow [.inr (.inr 49), .inl x1, .inl x2] σ (fun (r1 : Int) (s2 : Mem) =>
    (r1 = 0 →
        call m_M_isBelow [.inr (.inr 49), .inl x3, .inl x1] s2 (fun (r3 : Int) (s4 : Mem) =>
        (r3 = 0 →
            call m_M_isBelow [.inr (.inr 49), .inl x2, .inl x3] s4 (fun (r5 : Int) (s6 : Mem) =>
            (r5 = 0 →
                cut 114 [some (.inr (.inr 49)), some (.inl x1), some (.inl x2), some (.inl x3), none, none] [] s6) ∧
              (¬ r5 = 0 →
                cut 110 [some (.inr (.inr 49)), some (.inl x1), some (.inl x2), some (.inl x3), none, none] [] s6))) ∧
          (¬ r3 = 0 →
            cut 114 [some (.inr (.inr 49)), some (.inl x1), some (.inl x2), some (.inl x3), none, none] [] s4))) ∧
      (¬ r1 = 0 →
        cut 114 [some (.inr (.inr 49)), some (.inl x1), some (.inl x2), some (.inl x3), none, none] [] s2))) ∧
  (¬ y0 = 0 →
    cut 110 [some (.inr (.inr 49)), some (.inl x1), some (.inl x2), some (.inl x3), none, none] [] σ)) : seg none call c_M_findBest false Q cut 2000 true (toPc 76 c_M_findBest) [some (.inr (.inr 49)), some (.inl x1), some (.inl x2), some (.inl x3), none, none] [.inl y0] σ := h
theorem e_M_findBest_76 {d : Nat} {Q : Int → Mem → Prop} {x1 : Int} {x2 : Int} {x3 : Int} {y0 : Int} {σ : Mem} (h :
  (y0 = 0 →
    wp d m_M_isBelow [.inr (.inr 49), .inl x1, .inl x2] σ (fun (r1 : Int) (s2 : Mem) =>
    (r1 = 0 →
        wp d m_M_isBelow [.inr (.inr 49), .inl x3, .inl x1] s2 (fun (r3 : Int) (s4 : Mem) =>
        (r3 = 0 →
            wp d m_M_isBelow [.inr (.inr 49), .inl x2, .inl x3] s4 (fun (r5 : Int) (s6 : Mem) =>
            (r5 = 0 → K_M_findBest_114 d Q x1 x2 x3 s6) ∧
              (¬ r5 = 0 → K_M_findBest_110 d Q x1 x2 x3 s6))) ∧
          (¬ r3 = 0 → K_M_findBest_114 d Q x1 x2 x3 s4))) ∧
      (¬ r1 = 0 → K_M_findBest_114 d Q x1 x2 x3 s2))) ∧
  (¬ y0 = 0 → K_M_findBest_110 d Q x1 x2 x3 σ)) : K_M_findBest_76 d Q x1 x2 x3 y0 σ := XX_intro (g_M_findBest_76 (call := wp d) (cut := XX none (wp d) c_M_findBest false Q) (Q := Q) (x1 := x1) (x2 := x2) (x3 := x3) (y0 := y0) (σ := σ) (h))
theorem g_M_findBest_110 {call : Nat → List AV → Mem → (Int → Mem → Prop) → Prop} {cut : Nat → Lo → List AV → Mem → Prop} {Q : Int → Mem → Prop} {x1 : Int} {x2 : Int} {x3 : Int} {σ : Mem} (h :
  cut 115 [some (.inr (.inr 49)), some (.inl x1), some (.inl x2), some (.inl x3), none, none] [.inl 1] σ) : seg none call c_M_findBest false Q cut 2000 true (toPc 110 c_M_findBest) [some (.inr (.inr 49)), some (.inl x1), some (.inl x2), some (.inl x3), none, none] [] σ := h
theorem e_M_findBest_110 {d : Nat} {Q : Int → Mem → Prop} {x1 : Int} {x2 : Int} {x3 : Int} {σ : Mem} (h :
  K_M_findBest_115 d Q x1 x2 x3 1 σ) : K_M_findBest_110 d Q x1 x2 x3 σ := XX_intro (g_M_findBest_110 (call := wp d) (cut := XX none (wp d) c_M_findBest false Q) (Q := Q) (x1 := x1) (x2 := x2) (x3 := x3) (σ := σ) (h))
theorem g_M_findBest_114 {call : Nat → List AV → Mem → (Int → Mem → Prop) → Prop} {cut : Nat → Lo → List AV → Mem → Prop} {Q : Int → Mem → Prop} {x1 : Int} {x2 : Int} {x3 : Int} {σ : Mem} (h :
  cut 115 [some (.inr (.inr 49)), some (.inl x1), some (.inl x2), some (.inl x3), none, none] [.inl 0] σ) : seg none call c_M_findBest false Q cut 2000 true (toPc 114 c_M_findBest) [some (.inr (.inr 49)), some (.inl x1), some (.inl x2), some (.inl x3), none, none] [] σ := h
theorem e_M_findBest_114 {d : Nat} {Q : Int → Mem → Prop} {x1 : Int} {x2 : Int} {x3 : Int} {σ : Mem} (h :
  K_M_findBest_115 d Q x1 x2 x3 0 σ) : K_M_findBest_114 d Q x1 x2 x3 σ := XX_intro (g_M_findBest_114 (call := wp d) (cut := XX none (wp d) c_M_findBest false Q) (Q := Q) (x1 := x1) (x2 := x2) (x3 := x3) (σ := σ) (h))
theorem g_M_findBest_115 {call : Nat → List AV → Mem → (Int → Mem → Prop) → Prop} {cut : Nat → Lo → List AV → Mem → Prop} {Q : Int → Mem → Prop} {x1 : Int} {x2 : Int} {x3 : Int} {y0 : Int} {σ : Mem} (h :
  (y0 = 0 →
    cut 171 [some (.inr (.inr 49)), some (.inl x1), some (.inl x2), some (.inl x3), none, none] [] σ) ∧
  (¬ y0 = 0 →
    call m_M_findHeight [.inr (.inr 49), .inl x2, .inl x3, .inl x1] σ (fun (r1 : Int) (s2 : Mem) =>
    ((s2 49 44) < 0 →
        cut 145 [some (.inr (.inr 49)), some (.inl x1), some (.inl x2), some (.inl x3), none, none] [] s2) ∧
      (0 ≤ (s2 49 44) →
        call m_M_isHigher [.inr (.inr 49), .inl x2, .inl x3] s2 (fun (r3 : Int) (s4 : Mem) =>
        (r3 = 0 →
            cut 171 [some (.inr (.inr 49)), some (.inl x1), some (.inl x2), some (.inl x3), none, none] [] s4) ∧
          (¬ r3 = 0 →
            cut 145 [some (.inr (.inr 49)), some (.inl x1), some (.inl x2), some (.inl x3), none, none] [] s4)))))) : seg none call c_M_findBest false Q cut 2000 true (toPc 115 c_M_findBest) [some (.inr (.inr 49)), some (.inl x1), some (.inl x2), some (.inl x3), none, none] [.inl y0] σ := h
theorem e_M_findBest_115 {d : Nat} {Q : Int → Mem → Prop} {x1 : Int} {x2 : Int} {x3 : Int} {y0 : Int} {σ : Mem} (h :
  (y0 = 0 → K_M_findBest_171 d Q x1 x2 x3 σ) ∧
  (¬ y0 = 0 →
    wp d m_M_findHeight [.inr (.inr 49), .inl x2, .inl x3, .inl x1] σ (fun (r1 : Int) (s2 : Mem) =>
    ((s2 49 44) < 0 → K_M_findBest_145 d Q x1 x2 x3 s2) ∧
      (0 ≤ (s2 49 44) →
        wp d m_M_isHigher [.inr (.inr 49), .inl x2, .inl x3] s2 (fun (r3 : Int) (s4 : Mem) =>
        (r3 = 0 → K_M_findBest_171 d Q x1 x2 x3 s4) ∧
          (¬ r3 = 0 → K_M_findBest_145 d Q x1 x2 x3 s4)))))) : K_M_findBest_115 d Q x1 x2 x3 y0 σ := XX_intro (g_M_findBest_115 (call := wp d) (cut := XX none (wp d) c_M_findBest false Q) (Q := Q) (x1 := x1) (x2 := x2) (x3 := x3) (y0 := y0) (σ := σ) (h))
theorem g_M_findBest_145 {call : Nat → List AV → Mem → (Int → Mem → Prop) → Prop} {cut : Nat → Lo → List AV → Mem → Prop} {Q : Int → Mem → Prop} {x1 : Int} {x2 : Int} {x3 : Int} {σ : Mem} (h :
  cut 171 [some (.inr (.inr 49)), some (.inl x1), some (.inl x2), some (.inl x3), none, none] [] (mset (mset (mset (mset σ 49 44 x2) 49 45 x3) 49 46 ((mset (mset σ 49 44 x2) 49 45 x3) 49 42)) 49 47 ((mset (mset (mset σ 49 44 x2) 49 45 x3) 49 46 ((mset (mset σ 49 44 x2) 49 45 x3) 49 42)) 49 43))) : seg none call c_M_findBest false Q cut 2000 true (toPc 145 c_M_findBest) [some (.inr (.inr 49)), some (.inl x1), some (.inl x2), some (.inl x3), none, none] [] σ := h
theorem e_M_findBest_145 {d : Nat} {Q : Int → Mem → Prop} {x1 : Int} {x2 : Int} {x3 : Int} {σ : Mem} (h :
  K_M_findBest_171 d Q x1 x2 x3 (mset (mset (mset (mset σ 49 44 x2) 49 45 x3) 49 46 ((mset (mset σ 49 44 x2) 49 45 x3) 49 42)) 49 47 ((mset (mset (mset σ 49 44 x2) 49 45 x3) 49 46 ((mset (mset σ 49 44 x2) 49 45 x3) 49 42)) 49 43))) : K_M_findBest_145 d Q x1 x2 x3 σ := XX_intro (g_M_findBest_145 (call := wp d) (cut := XX none (wp d) c_M_findBest false Q) (Q := Q) (x1 := x1) (x2 := x2) (x3 := x3) (σ := σ) (h))
theorem g_M_findBest_171 {call : Nat → List AV → Mem → (Int → Mem → Prop) → Prop} {cut : Nat → Lo → List AV → Mem → Prop} {Q : Int → Mem → Prop} {x1 : Int} {x2 : Int} {x3 : Int} {σ : Mem} (h :
  cut 53 [some (.inr (.inr 49)), some (.inl x1), some (.inl x2), some (.inl (w32 (x3 + 1))), none, none] [] σ) : seg none call c_M_findBest false Q cut 2000 true (toPc 171 c_M_findBest) [some (.inr (.inr 49)), some (.inl x1), some (.inl x2), some (.inl x3), none, none] [] σ := h
theorem e_M_findBest_171 {d : Nat} {Q : Int → Mem → Prop} {x1 : Int} {x2 : Int} {x3 : Int} {σ : Mem} (h :
  K_M_findBest_53 d Q x1 x2 (w32 (x3 + 1)) σ) : K_M_findBest_171 d Q x1 x2 x3 σ := XX_intro (g_M_findBest_171 (call := wp d) (cut := XX none (wp d) c_M_findBest false Q) (Q := Q) (x1 := x1) (x2 := x2) (x3 := x3) (σ := σ) (h))
theorem g_M_isHigher {call : Nat → List AV → Mem → (Int → Mem → Prop) → Prop} {cut : Nat → Lo → List AV → Mem → Prop} {Q : Int → Mem → Prop} {a1 : Int} {a2 : Int} {σ : Mem} (h :
  ((w64 ((σ 49 42) * (σ 49 47))) = (w64 ((σ 49 46) * (σ 49 43))) →
    call m_M_isBelow [.inr (.inr 49), .inl (σ 49 44), .inl a1] σ (fun (r1 : Int) (s2 : Mem) =>
    (r1 = 0 →
        call m_M_isBelow [.inr (.inr 49), .inl a1, .inl (s2 49 44)] s2 (fun (r3 : Int) (s4 : Mem) =>
        (r3 = 0 →
            call m_M_isBelow [.inr (.inr 49), .inl a2, .inl (s4 49 45)] s4 (fun (r5 : Int) (s6 : Mem) =>
            (r5 = 0 → isB 0 ∧ Q 0 s6) ∧
              (¬ r5 = 0 → isB 1 ∧ Q 1 s6))) ∧
          (¬ r3 = 0 → isB 0 ∧ Q 0 s4))) ∧
      (¬ r1 = 0 → isB 1 ∧ Q 1 s2))) ∧
  (¬ (w64 ((σ 49 42) * (σ 49 47))) = (w64 ((σ 49 46) * (σ 49 43))) →
    ((w64 ((σ 49 46) * (σ 49 43))) < (w64 ((σ 49 42) * (σ 49 47))) → isB 1 ∧ Q 1 σ) ∧
    ((w64 ((σ 49 42) * (σ 49 47))) ≤ (w64 ((σ 49 46) * (σ 49 43))) → isB 0 ∧ Q 0 σ))) : seg none call c_M_isHigher true Q cut 2000 true (toPc 0 c_M_isHigher) [some (.inr (.inr 49)), some (.inl a1), some (.inl a2), none, none, none, none] [] σ := h
theorem e_M_isHigher {d : Nat} {Q : Int → Mem → Prop} {a1 : Int} {a2 : Int} {σ : Mem} (h :
  ((w64 ((σ 49 42) * (σ 49 47))) = (w64 ((σ 49 46) * (σ 49 43))) →
    wp d m_M_isBelow [.inr (.inr 49), .inl (σ 49 44), .inl a1] σ (fun (r1 : Int) (s2 : Mem) =>
    (r1 = 0 →
        wp d m_M_isBelow [.inr (.inr 49), .inl a1, .inl (s2 49 44)] s2 (fun (r3 : Int) (s4 : Mem) =>
        (r3 = 0 →
            wp d m_M_isBelow [.inr (.inr 49), .inl a2, .inl (s4 49 45)] s4 (fun (r5 : Int) (s6 : Mem) => (r5 = 0 → Q 0 s6) ∧
              (¬ r5 = 0 → Q 1 s6))) ∧
          (¬ r3 = 0 → Q 0 s4))) ∧
      (¬ r1 = 0 → Q 1 s2))) ∧
  (¬ (w64 ((σ 49 42) * (σ 49 47))) = (w64 ((σ 49 46) * (σ 49 43))) →
    ((w64 ((σ 49 46) * (σ 49 43))) < (w64 ((σ 49 42) * (σ 49 47))) → Q 1 σ) ∧
    ((w64 ((σ 49 42) * (σ 49 47))) ≤ (w64 ((σ 49 46) * (σ 49 43))) → Q 0 σ))) : wp (d + 1) m_M_isHigher [.inr (.inr 49), .inl a1, .inl a2] σ Q := wp_in rfl (XX_intro (g_M_isHigher (call := wp d) (cut := XX none (wp d) c_M_isHigher true Q) (Q := Q) (a1 := a1) (a2 := a2) (σ := σ) (⟨fun z8 => wp_conseq (fun _ _ z6 => ⟨fun z5 => wp_conseq (fun _ _ z4 => ⟨fun z3 => wp_conseq (fun _ _ z2 => ⟨fun z1 => ⟨isB0, ((z2).1 z1)⟩, fun z1 => ⟨isB1, ((z2).2 z1)⟩⟩) (((z4).1 z3)), fun z3 => ⟨isB0, ((z4).2 z3)⟩⟩) (((z6).1 z5)), fun z5 => ⟨isB1, ((z6).2 z5)⟩⟩) (((h).1 z8)), fun z8 => ⟨fun z7 => ⟨isB1, ((((h).2 z8)).1 z7)⟩, fun z7 => ⟨isB0, ((((h).2 z8)).2 z7)⟩⟩⟩)))
theorem g_M_best {call : Nat → List AV → Mem → (Int → Mem → Prop) → Prop} {cut : Nat → Lo → List AV → Mem → Prop} {Q : Int → Mem → Prop} {a1 : Int} {a2 : Int} {σ : Mem} (h :
  call m_M_in [.inr (.inl a1), .inr (.inl 0), .inr (.inl 3)] σ (fun (r1 : Int) (s2 : Mem) =>
  (r1 = 0 →
      call m_M_refuseFar [.inr (.inr 49), .inl (-2)] s2 (fun (r3 : Int) (s4 : Mem) => Q r3 s4)) ∧
    (¬ r1 = 0 →
      call m_M_isPart [.inl a2] s2 (fun (r5 : Int) (s6 : Mem) =>
      (r5 = 0 →
          call m_M_refuseFar [.inr (.inr 49), .inl (-2)] s6 (fun (r19 : Int) (s20 : Mem) => Q r19 s20)) ∧
        (¬ r5 = 0 →
          ((s6 49 0) = 2 →
            call m_M_findBest [.inr (.inr 49)] s6 (fun (r7 : Int) (s8 : Mem) =>
            (a1 < 0 ∨ 2 < a1 → (0 ≤ (s8 49 35) ∧ (s8 49 35) < (40 : Int)) ∧ (0 ≤ (s8 49 35) ∧ (s8 49 35) < (41 : Int)) ∧ (0 ≤ (s8 49 35) ∧ (s8 49 35) < (40 : Int)) ∧ call m_M_fraction [.inr (.inl (w64 ((w64 ((s8 49 46) * (s8 72 (s8 49 35).toNat))) - (w64 ((s8 75 (s8 49 35).toNat) * (s8 49 47)))))), .inr (.inl (w64 ((s8 49 47) * (s8 72 (s8 49 35).toNat)))), .inl a2] s8 (fun (r9 : Int) (s10 : Mem) => Q r9 s10)) ∧
              (a1 = 0 → (0 ≤ (s8 49 44) ∧ (s8 49 44) < (40 : Int)) ∧ (0 ≤ (s8 49 44) ∧ (s8 49 44) < (40 : Int)) ∧ call m_M_fraction [.inr (.inl (s8 71 (s8 49 44).toNat)), .inr (.inl (s8 72 (s8 49 44).toNat)), .inl a2] s8 (fun (r11 : Int) (s12 : Mem) => Q r11 s12)) ∧
              (a1 = 0 + 1 → (0 ≤ (s8 49 45) ∧ (s8 49 45) < (40 : Int)) ∧ (0 ≤ (s8 49 45) ∧ (s8 49 45) < (40 : Int)) ∧ call m_M_fraction [.inr (.inl (s8 71 (s8 49 45).toNat)), .inr (.inl (s8 72 (s8 49 45).toNat)), .inl a2] s8 (fun (r13 : Int) (s14 : Mem) => Q r13 s14)) ∧
              (a1 = 0 + 1 + 1 → call m_M_fraction [.inr (.inl (s8 49 46)), .inr (.inl (s8 49 47)), .inl a2] s8 (fun (r15 : Int) (s16 : Mem) => Q r15 s16)) ∧ True)) ∧
          (¬ (s6 49 0) = 2 →
            call m_M_refuseFar [.inr (.inr 49), .inl (-3)] s6 (fun (r17 : Int) (s18 : Mem) => Q r17 s18))))))) : seg none call c_M_best false Q cut 2000 true (toPc 0 c_M_best) [some (.inr (.inr 49)), some (.inl a1), some (.inl a2)] [] σ := h
theorem e_M_best {d : Nat} {Q : Int → Mem → Prop} {a1 : Int} {a2 : Int} {σ : Mem} (h :
  wp d m_M_in [.inr (.inl a1), .inr (.inl 0), .inr (.inl 3)] σ (fun (r1 : Int) (s2 : Mem) =>
  (r1 = 0 →
      wp d m_M_refuseFar [.inr (.inr 49), .inl (-2)] s2 (fun (r3 : Int) (s4 : Mem) => Q r3 s4)) ∧
    (¬ r1 = 0 →
      wp d m_M_isPart [.inl a2] s2 (fun (r5 : Int) (s6 : Mem) =>
      (r5 = 0 →
          wp d m_M_refuseFar [.inr (.inr 49), .inl (-2)] s6 (fun (r19 : Int) (s20 : Mem) => Q r19 s20)) ∧
        (¬ r5 = 0 →
          ((s6 49 0) = 2 →
            wp d m_M_findBest [.inr (.inr 49)] s6 (fun (r7 : Int) (s8 : Mem) =>
            (a1 < 0 ∨ 2 < a1 → (0 ≤ (s8 49 35) ∧ (s8 49 35) < (40 : Int)) ∧ (0 ≤ (s8 49 35) ∧ (s8 49 35) < (41 : Int)) ∧ (0 ≤ (s8 49 35) ∧ (s8 49 35) < (40 : Int)) ∧ wp d m_M_fraction [.inr (.inl (w64 ((w64 ((s8 49 46) * (s8 72 (s8 49 35).toNat))) - (w64 ((s8 75 (s8 49 35).toNat) * (s8 49 47)))))), .inr (.inl (w64 ((s8 49 47) * (s8 72 (s8 49 35).toNat)))), .inl a2] s8 (fun (r9 : Int) (s10 : Mem) => Q r9 s10)) ∧
              (a1 = 0 → (0 ≤ (s8 49 44) ∧ (s8 49 44) < (40 : Int)) ∧ (0 ≤ (s8 49 44) ∧ (s8 49 44) < (40 : Int)) ∧ wp d m_M_fraction [.inr (.inl (s8 71 (s8 49 44).toNat)), .inr (.inl (s8 72 (s8 49 44).toNat)), .inl a2] s8 (fun (r11 : Int) (s12 : Mem) => Q r11 s12)) ∧
              (a1 = 1 → (0 ≤ (s8 49 45) ∧ (s8 49 45) < (40 : Int)) ∧ (0 ≤ (s8 49 45) ∧ (s8 49 45) < (40 : Int)) ∧ wp d m_M_fraction [.inr (.inl (s8 71 (s8 49 45).toNat)), .inr (.inl (s8 72 (s8 49 45).toNat)), .inl a2] s8 (fun (r13 : Int) (s14 : Mem) => Q r13 s14)) ∧
              (a1 = 2 → wp d m_M_fraction [.inr (.inl (s8 49 46)), .inr (.inl (s8 49 47)), .inl a2] s8 (fun (r15 : Int) (s16 : Mem) => Q r15 s16)))) ∧
          (¬ (s6 49 0) = 2 →
            wp d m_M_refuseFar [.inr (.inr 49), .inl (-3)] s6 (fun (r17 : Int) (s18 : Mem) => Q r17 s18))))))) : wp (d + 1) m_M_best [.inr (.inr 49), .inl a1, .inl a2] σ Q := wp_in rfl (XX_intro (g_M_best (call := wp d) (cut := XX none (wp d) c_M_best false Q) (Q := Q) (a1 := a1) (a2 := a2) (σ := σ) (wp_conseq (fun _ _ z7 => ⟨fun z6 => (z7).1 z6, fun z6 => wp_conseq (fun _ _ z5 => ⟨fun z4 => (z5).1 z4, fun z4 => ⟨fun z3 => wp_conseq (fun _ _ z2 => ⟨fun z1 => ((z2).1 z1), fun z1 => ((z2).2.1 (z1.trans (by decide))), fun z1 => ((z2).2.2.1 (z1.trans (by decide))), fun z1 => ((z2).2.2.2 (z1.trans (by decide))), trivial⟩) (((((z5).2 z4)).1 z3)), fun z3 => (((z5).2 z4)).2 z3⟩⟩) (((z7).2 z6))⟩) (h))))
abbrev K_M_corners_32 (d : Nat) (Q : Int → Mem → Prop) (x1 : Int) (x2 : Int) (σ : Mem) : Prop := XX none (wp d) c_M_corners false Q 32 [some (.inr (.inr 49)), some (.inl x1), some (.inl x2), none, none, none] [] σ
abbrev K_M_corners_47 (d : Nat) (Q : Int → Mem → Prop) (x1 : Int) (x2 : Int) (x3 : Int) (x4 : Int) (σ : Mem) : Prop := XX none (wp d) c_M_corners false Q 47 [some (.inr (.inr 49)), some (.inl x1), some (.inl x2), some (.inl x3), some (.inl x4), none] [] σ
abbrev K_M_corners_58 (d : Nat) (Q : Int → Mem → Prop) (x1 : Int) (x2 : Int) (x3 : Int) (x4 : Int) (x5 : Int) (σ : Mem) : Prop := XX none (wp d) c_M_corners false Q 58 [some (.inr (.inr 49)), some (.inl x1), some (.inl x2), some (.inl x3), some (.inl x4), some (.inl x5)] [] σ
theorem g_M_corners {call : Nat → List AV → Mem → (Int → Mem → Prop) → Prop} {cut : Nat → Lo → List AV → Mem → Prop} {Q : Int → Mem → Prop}  {σ : Mem} (h :
  ((σ 49 0) = 2 →
    call m_M_findBest [.inr (.inr 49)] σ (fun (r1 : Int) (s2 : Mem) =>
    cut 32 [some (.inr (.inr 49)), some (.inl (orI 1 (shlI 1 (w32 ((s2 49 35) - 1))))), some (.inl 1), none, none, none] [] s2)) ∧
  (¬ (σ 49 0) = 2 →
    call m_M_refuse [.inr (.inr 49), .inl (-3)] σ (fun (r3 : Int) (s4 : Mem) => Q r3 s4))) : seg none call c_M_corners false Q cut 2000 true (toPc 0 c_M_corners) [some (.inr (.inr 49)), none, none, none, none, none] [] σ := h
theorem e_M_corners {d : Nat} {Q : Int → Mem → Prop}  {σ : Mem} (h :
  ((σ 49 0) = 2 →
    wp d m_M_findBest [.inr (.inr 49)] σ (fun (r1 : Int) (s2 : Mem) =>
    K_M_corners_32 d Q (orI 1 (shlI 1 (w32 ((s2 49 35) - 1)))) 1 s2)) ∧
  (¬ (σ 49 0) = 2 →
    wp d m_M_refuse [.inr (.inr 49), .inl (-3)] σ (fun (r3 : Int) (s4 : Mem) => Q r3 s4))) : wp (d + 1) m_M_corners [.inr (.inr 49)] σ Q := wp_in rfl (XX_intro (g_M_corners (call := wp d) (cut := XX none (wp d) c_M_corners false Q) (Q := Q)  (σ := σ) (h)))
theorem g_M_corners_32 {call : Nat → List AV → Mem → (Int → Mem → Prop) → Prop} {cut : Nat → Lo → List AV → Mem → Prop} {Q : Int → Mem → Prop} {x1 : Int} {x2 : Int} {σ : Mem} (h :
  (x2 < (w32 ((σ 49 35) - 1)) →
    cut 47 [some (.inr (.inr 49)), some (.inl x1), some (.inl x2), some (.inl 1), some (.inl 0), none] [] σ) ∧
  ((w32 ((σ 49 35) - 1)) ≤ x2 → Q x1 σ)) : seg none call c_M_corners false Q cut 2000 true (toPc 32 c_M_corners) [some (.inr (.inr 49)), some (.inl x1), some (.inl x2), none, none, none] [] σ := h
theorem e_M_corners_32 {d : Nat} {Q : Int → Mem → Prop} {x1 : Int} {x2 : Int} {σ : Mem} (h :
  (x2 < (w32 ((σ 49 35) - 1)) → K_M_corners_47 d Q x1 x2 1 0 σ) ∧
  ((w32 ((σ 49 35) - 1)) ≤ x2 → Q x1 σ)) : K_M_corners_32 d Q x1 x2 σ := XX_intro (g_M_corners_32 (call := wp d) (cut := XX none (wp d) c_M_corners false Q) (Q := Q) (x1 := x1) (x2 := x2) (σ := σ) (h))
theorem g_M_corners_47 {call : Nat → List AV → Mem → (Int → Mem → Prop) → Prop} {cut : Nat → Lo → List AV → Mem → Prop} {Q : Int → Mem → Prop} {x1 : Int} {x2 : Int} {x3 : Int} {x4 : Int} {σ : Mem} (h :
  (x4 < x2 →
    cut 58 [some (.inr (.inr 49)), some (.inl x1), some (.inl x2), some (.inl x3), some (.inl x4), some (.inl (w32 (x2 + 1)))] [] σ) ∧
  (x2 ≤ x4 →
    (x3 = 0 →
      cut 32 [some (.inr (.inr 49)), some (.inl (orI x1 0)), some (.inl (w32 (x2 + 1))), none, none, none] [] σ) ∧
    (¬ x3 = 0 →
      cut 32 [some (.inr (.inr 49)), some (.inl (orI x1 (shlI 1 x2))), some (.inl (w32 (x2 + 1))), none, none, none] [] σ))) : seg none call c_M_corners false Q cut 2000 true (toPc 47 c_M_corners) [some (.inr (.inr 49)), some (.inl x1), some (.inl x2), some (.inl x3), some (.inl x4), none] [] σ := h
theorem e_M_corners_47 {d : Nat} {Q : Int → Mem → Prop} {x1 : Int} {x2 : Int} {x3 : Int} {x4 : Int} {σ : Mem} (h :
  (x4 < x2 → K_M_corners_58 d Q x1 x2 x3 x4 (w32 (x2 + 1)) σ) ∧
  (x2 ≤ x4 →
    (x3 = 0 → K_M_corners_32 d Q (orI x1 0) (w32 (x2 + 1)) σ) ∧
    (¬ x3 = 0 → K_M_corners_32 d Q (orI x1 (shlI 1 x2)) (w32 (x2 + 1)) σ))) : K_M_corners_47 d Q x1 x2 x3 x4 σ := XX_intro (g_M_corners_47 (call := wp d) (cut := XX none (wp d) c_M_corners false Q) (Q := Q) (x1 := x1) (x2 := x2) (x3 := x3) (x4 := x4) (σ := σ) (h))
theorem g_M_corners_58 {call : Nat → List AV → Mem → (Int → Mem → Prop) → Prop} {cut : Nat → Lo → List AV → Mem → Prop} {Q : Int → Mem → Prop} {x1 : Int} {x2 : Int} {x3 : Int} {x4 : Int} {x5 : Int} {σ : Mem} (h :
  (x5 < (σ 49 35) →
    (x3 = 0 →
      cut 47 [some (.inr (.inr 49)), some (.inl x1), some (.inl x2), some (.inl x3), some (.inl (w32 (x4 + 1))), none] [] σ) ∧
    (¬ x3 = 0 →
      call m_M_findHeight [.inr (.inr 49), .inl x4, .inl x5, .inl x2] σ (fun (r1 : Int) (s2 : Mem) =>
      (0 ≤ x2 ∧ x2 < (40 : Int)) ∧ (0 ≤ x2 ∧ x2 < (41 : Int)) ∧ ((w64 ((s2 49 42) * (s2 72 x2.toNat))) < (w64 ((s2 75 x2.toNat) * (s2 49 43))) →
          cut 58 [some (.inr (.inr 49)), some (.inl x1), some (.inl x2), some (.inl 1), some (.inl x4), some (.inl (w32 (x5 + 1)))] [] s2) ∧
        ((w64 ((s2 75 x2.toNat) * (s2 49 43))) ≤ (w64 ((s2 49 42) * (s2 72 x2.toNat))) →
          cut 58 [some (.inr (.inr 49)), some (.inl x1), some (.inl x2), some (.inl 0), some (.inl x4), some (.inl (w32 (x5 + 1)))] [] s2)))) ∧
  ((σ 49 35) ≤ x5 →
    cut 47 [some (.inr (.inr 49)), some (.inl x1), some (.inl x2), some (.inl x3), some (.inl (w32 (x4 + 1))), none] [] σ)) : seg none call c_M_corners false Q cut 2000 true (toPc 58 c_M_corners) [some (.inr (.inr 49)), some (.inl x1), some (.inl x2), some (.inl x3), some (.inl x4), some (.inl x5)] [] σ := h
theorem e_M_corners_58 {d : Nat} {Q : Int → Mem → Prop} {x1 : Int} {x2 : Int} {x3 : Int} {x4 : Int} {x5 : Int} {σ : Mem} (h :
  (x5 < (σ 49 35) →
    (x3 = 0 → K_M_corners_47 d Q x1 x2 x3 (w32 (x4 + 1)) σ) ∧
    (¬ x3 = 0 →
      wp d m_M_findHeight [.inr (.inr 49), .inl x4, .inl x5, .inl x2] σ (fun (r1 : Int) (s2 : Mem) =>
      (0 ≤ x2 ∧ x2 < (40 : Int)) ∧ (0 ≤ x2 ∧ x2 < (41 : Int)) ∧ ((w64 ((s2 49 42) * (s2 72 x2.toNat))) < (w64 ((s2 75 x2.toNat) * (s2 49 43))) → K_M_corners_58 d Q x1 x2 1 x4 (w32 (x5 + 1)) s2) ∧
        ((w64 ((s2 75 x2.toNat) * (s2 49 43))) ≤ (w64 ((s2 49 42) * (s2 72 x2.toNat))) → K_M_corners_58 d Q x1 x2 0 x4 (w32 (x5 + 1)) s2)))) ∧
  ((σ 49 35) ≤ x5 → K_M_corners_47 d Q x1 x2 x3 (w32 (x4 + 1)) σ)) : K_M_corners_58 d Q x1 x2 x3 x4 x5 σ := XX_intro (g_M_corners_58 (call := wp d) (cut := XX none (wp d) c_M_corners false Q) (Q := Q) (x1 := x1) (x2 := x2) (x3 := x3) (x4 := x4) (x5 := x5) (σ := σ) (h))
abbrev K_M_prove_90 (d : Nat) (Q : Int → Mem → Prop) (x1 : Int) (x2 : Int) (x3 : Int) (x4 : Int) (x5 : Int) (σ : Mem) : Prop := XX none (wp d) c_M_prove false Q 90 [some (.inr (.inr 49)), some (.inl x1), some (.inl x2), some (.inl x3), some (.inl x4), some (.inl x5), none, none, none, none] [] σ
theorem g_M_prove {call : Nat → List AV → Mem → (Int → Mem → Prop) → Prop} {cut : Nat → Lo → List AV → Mem → Prop} {Q : Int → Mem → Prop} {a1 : Int} {a2 : Int} {a3 : Int} {a4 : Int} {σ : Mem} (h :
  ((σ 49 0) = 2 →
    (a1 < (-9999999) →
      call m_M_refuse [.inr (.inr 49), .inl (-4)] σ (fun (r1 : Int) (s2 : Mem) => Q r1 s2)) ∧
    ((-9999999) ≤ a1 →
      (a3 < (-9999999) →
        call m_M_refuse [.inr (.inr 49), .inl (-4)] σ (fun (r3 : Int) (s4 : Mem) => Q r3 s4)) ∧
      ((-9999999) ≤ a3 →
        (a2 < 1 →
          call m_M_refuse [.inr (.inr 49), .inl (-4)] σ (fun (r5 : Int) (s6 : Mem) => Q r5 s6)) ∧
        (1 ≤ a2 →
          (a4 < 1 →
            call m_M_refuse [.inr (.inr 49), .inl (-4)] σ (fun (r17 : Int) (s18 : Mem) => Q r17 s18)) ∧
          (1 ≤ a4 →
            (9999999 < a1 →
              call m_M_refuse [.inr (.inr 49), .inl (-6)] σ (fun (r7 : Int) (s8 : Mem) => Q r7 s8)) ∧
            (a1 ≤ 9999999 →
              (9999999 < a3 →
                call m_M_refuse [.inr (.inr 49), .inl (-6)] σ (fun (r9 : Int) (s10 : Mem) => Q r9 s10)) ∧
              (a3 ≤ 9999999 →
                (99999 < a2 →
                  call m_M_refuse [.inr (.inr 49), .inl (-6)] σ (fun (r11 : Int) (s12 : Mem) => Q r11 s12)) ∧
                (a2 ≤ 99999 →
                  (99999 < a4 →
                    call m_M_refuse [.inr (.inr 49), .inl (-6)] σ (fun (r15 : Int) (s16 : Mem) => Q r15 s16)) ∧
                  (a4 ≤ 99999 →
                    call m_M_findBest [.inr (.inr 49)] σ (fun (r13 : Int) (s14 : Mem) =>
                    cut 90 [some (.inr (.inr 49)), some (.inl a1), some (.inl a2), some (.inl a3), some (.inl a4), some (.inl 0), none, none, none, none] [] s14)))))))))) ∧
  (¬ (σ 49 0) = 2 →
    call m_M_refuse [.inr (.inr 49), .inl (-3)] σ (fun (r19 : Int) (s20 : Mem) => Q r19 s20))) : seg none call c_M_prove false Q cut 2000 true (toPc 0 c_M_prove) [some (.inr (.inr 49)), some (.inl a1), some (.inl a2), some (.inl a3), some (.inl a4), none, none, none, none, none] [] σ := h
theorem e_M_prove {d : Nat} {Q : Int → Mem → Prop} {a1 : Int} {a2 : Int} {a3 : Int} {a4 : Int} {σ : Mem} (h :
  ((σ 49 0) = 2 →
    (a1 < (-9999999) →
      wp d m_M_refuse [.inr (.inr 49), .inl (-4)] σ (fun (r1 : Int) (s2 : Mem) => Q r1 s2)) ∧
    ((-9999999) ≤ a1 →
      (a3 < (-9999999) →
        wp d m_M_refuse [.inr (.inr 49), .inl (-4)] σ (fun (r3 : Int) (s4 : Mem) => Q r3 s4)) ∧
      ((-9999999) ≤ a3 →
        (a2 < 1 →
          wp d m_M_refuse [.inr (.inr 49), .inl (-4)] σ (fun (r5 : Int) (s6 : Mem) => Q r5 s6)) ∧
        (1 ≤ a2 →
          (a4 < 1 →
            wp d m_M_refuse [.inr (.inr 49), .inl (-4)] σ (fun (r17 : Int) (s18 : Mem) => Q r17 s18)) ∧
          (1 ≤ a4 →
            (9999999 < a1 →
              wp d m_M_refuse [.inr (.inr 49), .inl (-6)] σ (fun (r7 : Int) (s8 : Mem) => Q r7 s8)) ∧
            (a1 ≤ 9999999 →
              (9999999 < a3 →
                wp d m_M_refuse [.inr (.inr 49), .inl (-6)] σ (fun (r9 : Int) (s10 : Mem) => Q r9 s10)) ∧
              (a3 ≤ 9999999 →
                (99999 < a2 →
                  wp d m_M_refuse [.inr (.inr 49), .inl (-6)] σ (fun (r11 : Int) (s12 : Mem) => Q r11 s12)) ∧
                (a2 ≤ 99999 →
                  (99999 < a4 →
                    wp d m_M_refuse [.inr (.inr 49), .inl (-6)] σ (fun (r15 : Int) (s16 : Mem) => Q r15 s16)) ∧
                  (a4 ≤ 99999 →
                    wp d m_M_findBest [.inr (.inr 49)] σ (fun (r13 : Int) (s14 : Mem) => K_M_prove_90 d Q a1 a2 a3 a4 0 s14)))))))))) ∧
  (¬ (σ 49 0) = 2 →
    wp d m_M_refuse [.inr (.inr 49), .inl (-3)] σ (fun (r19 : Int) (s20 : Mem) => Q r19 s20))) : wp (d + 1) m_M_prove [.inr (.inr 49), .inl a1, .inl a2, .inl a3, .inl a4] σ Q := wp_in rfl (XX_intro (g_M_prove (call := wp d) (cut := XX none (wp d) c_M_prove false Q) (Q := Q) (a1 := a1) (a2 := a2) (a3 := a3) (a4 := a4) (σ := σ) (h)))
theorem g_M_prove_90 {call : Nat → List AV → Mem → (Int → Mem → Prop) → Prop} {cut : Nat → Lo → List AV → Mem → Prop} {Q : Int → Mem → Prop} {x1 : Int} {x2 : Int} {x3 : Int} {x4 : Int} {x5 : Int} {σ : Mem} (h :
  ((σ 49 35) < x5 →
    (0 ≤ (σ 49 35) ∧ (σ 49 35) < (40 : Int)) ∧ (0 ≤ (σ 49 35) ∧ (σ 49 35) < (40 : Int)) ∧ (0 ≤ (σ 49 35) ∧ (σ 49 35) < (40 : Int)) ∧ (0 ≤ (σ 49 35) ∧ (σ 49 35) < (40 : Int)) ∧ call m_M_fraction [.inr (.inl (w64 ((w64 ((w64 (x1 * x4)) * (w64 ((σ 72 (σ 49 35).toNat) - (σ 71 (σ 49 35).toNat))))) + (w64 ((w64 (x3 * x2)) * (σ 71 (σ 49 35).toNat)))))), .inr (.inl (w64 ((w64 (x2 * x4)) * (σ 72 (σ 49 35).toNat)))), .inl 0] σ (fun (r1 : Int) (s2 : Mem) =>
    call m_M_fraction [.inr (.inl (s2 49 46)), .inr (.inl (s2 49 47)), .inl 0] s2 (fun (r3 : Int) (s4 : Mem) =>
      (r1 = r3 →
          call m_M_fraction [.inr (.inl (w64 ((w64 ((w64 (x1 * x4)) * (w64 ((σ 72 (σ 49 35).toNat) - (σ 71 (σ 49 35).toNat))))) + (w64 ((w64 (x3 * x2)) * (σ 71 (σ 49 35).toNat)))))), .inr (.inl (w64 ((w64 (x2 * x4)) * (σ 72 (σ 49 35).toNat)))), .inl 1] s4 (fun (r5 : Int) (s6 : Mem) =>
          call m_M_fraction [.inr (.inl (s6 49 46)), .inr (.inl (s6 49 47)), .inl 1] s6 (fun (r7 : Int) (s8 : Mem) =>
            (r5 = r7 →
                ((1 : Int) = 0 → Q 101 s8) ∧
                (¬ (1 : Int) = 0 → Q (-9) s8)) ∧
              (¬ r5 = r7 →
                ((0 : Int) = 0 → Q 101 s8) ∧
                (¬ (0 : Int) = 0 → Q (-9) s8))))) ∧
        (¬ r1 = r3 →
          ((0 : Int) = 0 → Q 101 s4) ∧
          (¬ (0 : Int) = 0 → Q (-9) s4))))) ∧
  (x5 ≤ (σ 49 35) →
    (0 ≤ x5 ∧ x5 < (40 : Int)) ∧ (0 ≤ x5 ∧ x5 < (40 : Int)) ∧ (0 ≤ x5 ∧ x5 < (40 : Int)) ∧ (0 ≤ x5 ∧ x5 < (41 : Int)) ∧ ((w64 ((w64 ((w64 (x1 * x4)) * (w64 ((σ 72 x5.toNat) - (σ 71 x5.toNat))))) + (w64 ((w64 (x3 * x2)) * (σ 71 x5.toNat))))) < (w64 ((w64 ((σ 75 x5.toNat) * x2)) * x4)) →
      (x5 = (σ 49 35) → Q 100 σ) ∧
      (¬ x5 = (σ 49 35) → Q x5 σ)) ∧
    ((w64 ((w64 ((σ 75 x5.toNat) * x2)) * x4)) ≤ (w64 ((w64 ((w64 (x1 * x4)) * (w64 ((σ 72 x5.toNat) - (σ 71 x5.toNat))))) + (w64 ((w64 (x3 * x2)) * (σ 71 x5.toNat))))) →
      cut 90 [some (.inr (.inr 49)), some (.inl x1), some (.inl x2), some (.inl x3), some (.inl x4), some (.inl (w32 (x5 + 1))), none, none, none, none] [] σ))) : seg none call c_M_prove false Q cut 2000 true (toPc 90 c_M_prove) [some (.inr (.inr 49)), some (.inl x1), some (.inl x2), some (.inl x3), some (.inl x4), some (.inl x5), none, none, none, none] [] σ := h
theorem e_M_prove_90 {d : Nat} {Q : Int → Mem → Prop} {x1 : Int} {x2 : Int} {x3 : Int} {x4 : Int} {x5 : Int} {σ : Mem} (h :
  ((σ 49 35) < x5 →
    (0 ≤ (σ 49 35) ∧ (σ 49 35) < (40 : Int)) ∧ (0 ≤ (σ 49 35) ∧ (σ 49 35) < (40 : Int)) ∧ (0 ≤ (σ 49 35) ∧ (σ 49 35) < (40 : Int)) ∧ (0 ≤ (σ 49 35) ∧ (σ 49 35) < (40 : Int)) ∧ wp d m_M_fraction [.inr (.inl (w64 ((w64 ((w64 (x1 * x4)) * (w64 ((σ 72 (σ 49 35).toNat) - (σ 71 (σ 49 35).toNat))))) + (w64 ((w64 (x3 * x2)) * (σ 71 (σ 49 35).toNat)))))), .inr (.inl (w64 ((w64 (x2 * x4)) * (σ 72 (σ 49 35).toNat)))), .inl 0] σ (fun (r1 : Int) (s2 : Mem) =>
    wp d m_M_fraction [.inr (.inl (s2 49 46)), .inr (.inl (s2 49 47)), .inl 0] s2 (fun (r3 : Int) (s4 : Mem) =>
      (r1 = r3 →
          wp d m_M_fraction [.inr (.inl (w64 ((w64 ((w64 (x1 * x4)) * (w64 ((σ 72 (σ 49 35).toNat) - (σ 71 (σ 49 35).toNat))))) + (w64 ((w64 (x3 * x2)) * (σ 71 (σ 49 35).toNat)))))), .inr (.inl (w64 ((w64 (x2 * x4)) * (σ 72 (σ 49 35).toNat)))), .inl 1] s4 (fun (r5 : Int) (s6 : Mem) =>
          wp d m_M_fraction [.inr (.inl (s6 49 46)), .inr (.inl (s6 49 47)), .inl 1] s6 (fun (r7 : Int) (s8 : Mem) => (r5 = r7 → Q (-9) s8) ∧
              (¬ r5 = r7 → Q 101 s8)))) ∧
        (¬ r1 = r3 → Q 101 s4)))) ∧
  (x5 ≤ (σ 49 35) →
    (0 ≤ x5 ∧ x5 < (40 : Int)) ∧ (0 ≤ x5 ∧ x5 < (40 : Int)) ∧ (0 ≤ x5 ∧ x5 < (40 : Int)) ∧ (0 ≤ x5 ∧ x5 < (41 : Int)) ∧ ((w64 ((w64 ((w64 (x1 * x4)) * (w64 ((σ 72 x5.toNat) - (σ 71 x5.toNat))))) + (w64 ((w64 (x3 * x2)) * (σ 71 x5.toNat))))) < (w64 ((w64 ((σ 75 x5.toNat) * x2)) * x4)) →
      (x5 = (σ 49 35) → Q 100 σ) ∧
      (¬ x5 = (σ 49 35) → Q x5 σ)) ∧
    ((w64 ((w64 ((σ 75 x5.toNat) * x2)) * x4)) ≤ (w64 ((w64 ((w64 (x1 * x4)) * (w64 ((σ 72 x5.toNat) - (σ 71 x5.toNat))))) + (w64 ((w64 (x3 * x2)) * (σ 71 x5.toNat))))) → K_M_prove_90 d Q x1 x2 x3 x4 (w32 (x5 + 1)) σ))) : K_M_prove_90 d Q x1 x2 x3 x4 x5 σ := XX_intro (g_M_prove_90 (call := wp d) (cut := XX none (wp d) c_M_prove false Q) (Q := Q) (x1 := x1) (x2 := x2) (x3 := x3) (x4 := x4) (x5 := x5) (σ := σ) (⟨fun z10 => ⟨(((h).1 z10)).1, ⟨((((h).1 z10)).2).1, ⟨(((((h).1 z10)).2).2).1, ⟨((((((h).1 z10)).2).2).2).1, wp_conseq (fun _ _ z9 => wp_conseq (fun _ _ z8 => ⟨fun z7 => wp_conseq (fun _ _ z6 => wp_conseq (fun _ _ z5 => ⟨fun z4 => ⟨fun z3 => absurd z3 (by decide), fun _ => ((z5).1 z4)⟩, fun z4 => ⟨fun _ => ((z5).2 z4), fun z2 => absurd z2 (by decide)⟩⟩) (z6)) (((z8).1 z7)), fun z7 => ⟨fun _ => ((z8).2 z7), fun z1 => absurd z1 (by decide)⟩⟩) (z9)) (((((((h).1 z10)).2).2).2).2)⟩⟩⟩⟩, fun z10 => (h).2 z10⟩))
theorem g_M_test {call : Nat → List AV → Mem → (Int → Mem → Prop) → Prop} {cut : Nat → Lo → List AV → Mem → Prop} {Q : Int → Mem → Prop} {a1 : Int} {a2 : Int} {σ : Mem} (h :
  ((σ 49 0) = 0 →
    call m_M_refuse [.inr (.inr 49), .inl (-3)] σ (fun (r13 : Int) (s14 : Mem) => Q r13 s14)) ∧
  (¬ (σ 49 0) = 0 →
    call m_M_isLook [.inr (.inr 49), .inl a1] σ (fun (r1 : Int) (s2 : Mem) =>
    (r1 = 0 →
        call m_M_refuse [.inr (.inr 49), .inl (-1)] s2 (fun (r11 : Int) (s12 : Mem) => Q r11 s12)) ∧
      (¬ r1 = 0 →
        (a2 < 0 →
          call m_M_refuse [.inr (.inr 49), .inl (-4)] s2 (fun (r9 : Int) (s10 : Mem) => Q r9 s10)) ∧
        (0 ≤ a2 →
          (99 < a2 →
            call m_M_refuse [.inr (.inr 49), .inl (-6)] s2 (fun (r3 : Int) (s4 : Mem) => Q r3 s4)) ∧
          (a2 ≤ 99 →
            ((s2 49 9) = 6 →
              call m_M_refuse [.inr (.inr 49), .inl (-6)] s2 (fun (r7 : Int) (s8 : Mem) => Q r7 s8)) ∧
            (¬ (s2 49 9) = 6 →
              (0 ≤ (s2 49 9) ∧ (s2 49 9) < (6 : Int)) ∧ (0 ≤ ((mset s2 55 (s2 49 9).toNat a1) 49 9) ∧ ((mset s2 55 (s2 49 9).toNat a1) 49 9) < (6 : Int)) ∧ call m_M_keepBack [.inr (.inr 49), .inl 1, .inl 0, .inl 0] (mset (mset s2 55 (s2 49 9).toNat a1) 56 ((mset s2 55 (s2 49 9).toNat a1) 49 9).toNat a2) (fun (r5 : Int) (s6 : Mem) =>
              Q (w32 (((mset s6 49 9 (w32 ((s6 49 9) + 1))) 49 9) - 1)) (mset s6 49 9 (w32 ((s6 49 9) + 1))))))))))) : seg none call c_M_test false Q cut 2000 true (toPc 0 c_M_test) [some (.inr (.inr 49)), some (.inl a1), some (.inl a2)] [] σ := h
theorem e_M_test {d : Nat} {Q : Int → Mem → Prop} {a1 : Int} {a2 : Int} {σ : Mem} (h :
  ((σ 49 0) = 0 →
    wp d m_M_refuse [.inr (.inr 49), .inl (-3)] σ (fun (r13 : Int) (s14 : Mem) => Q r13 s14)) ∧
  (¬ (σ 49 0) = 0 →
    wp d m_M_isLook [.inr (.inr 49), .inl a1] σ (fun (r1 : Int) (s2 : Mem) =>
    (r1 = 0 →
        wp d m_M_refuse [.inr (.inr 49), .inl (-1)] s2 (fun (r11 : Int) (s12 : Mem) => Q r11 s12)) ∧
      (¬ r1 = 0 →
        (a2 < 0 →
          wp d m_M_refuse [.inr (.inr 49), .inl (-4)] s2 (fun (r9 : Int) (s10 : Mem) => Q r9 s10)) ∧
        (0 ≤ a2 →
          (99 < a2 →
            wp d m_M_refuse [.inr (.inr 49), .inl (-6)] s2 (fun (r3 : Int) (s4 : Mem) => Q r3 s4)) ∧
          (a2 ≤ 99 →
            ((s2 49 9) = 6 →
              wp d m_M_refuse [.inr (.inr 49), .inl (-6)] s2 (fun (r7 : Int) (s8 : Mem) => Q r7 s8)) ∧
            (¬ (s2 49 9) = 6 →
              (0 ≤ (s2 49 9) ∧ (s2 49 9) < (6 : Int)) ∧ (0 ≤ ((mset s2 55 (s2 49 9).toNat a1) 49 9) ∧ ((mset s2 55 (s2 49 9).toNat a1) 49 9) < (6 : Int)) ∧ wp d m_M_keepBack [.inr (.inr 49), .inl 1, .inl 0, .inl 0] (mset (mset s2 55 (s2 49 9).toNat a1) 56 ((mset s2 55 (s2 49 9).toNat a1) 49 9).toNat a2) (fun (r5 : Int) (s6 : Mem) =>
              Q (w32 (((mset s6 49 9 (w32 ((s6 49 9) + 1))) 49 9) - 1)) (mset s6 49 9 (w32 ((s6 49 9) + 1))))))))))) : wp (d + 1) m_M_test [.inr (.inr 49), .inl a1, .inl a2] σ Q := wp_in rfl (XX_intro (g_M_test (call := wp d) (cut := XX none (wp d) c_M_test false Q) (Q := Q) (a1 := a1) (a2 := a2) (σ := σ) (h)))
abbrev K_M_power_4 (d : Nat) (Q : Int → Mem → Prop) (x0 : Int) (x1 : Int) (x3 : Int) (σ : Mem) : Prop := XX none (wp d) c_M_power false Q 4 [some (.inl x0), some (.inr (.inl x1)), none, some (.inl x3)] [] σ
theorem g_M_power {call : Nat → List AV → Mem → (Int → Mem → Prop) → Prop} {cut : Nat → Lo → List AV → Mem → Prop} {Q : Int → Mem → Prop} {a0 : Int} {σ : Mem} (h :
  cut 4 [some (.inl a0), some (.inr (.inl 1)), none, some (.inl 0)] [] σ) : seg none call c_M_power false Q cut 2000 true (toPc 0 c_M_power) [some (.inl a0), none, none, none] [] σ := h
theorem e_M_power {d : Nat} {Q : Int → Mem → Prop} {a0 : Int} {σ : Mem} (h :
  K_M_power_4 d Q a0 1 0 σ) : wp (d + 1) m_M_power [.inl a0] σ Q := wp_in rfl (XX_intro (g_M_power (call := wp d) (cut := XX none (wp d) c_M_power false Q) (Q := Q) (a0 := a0) (σ := σ) (h)))
theorem g_M_power_4 {call : Nat → List AV → Mem → (Int → Mem → Prop) → Prop} {cut : Nat → Lo → List AV → Mem → Prop} {Q : Int → Mem → Prop} {x0 : Int} {x1 : Int} {x3 : Int} {σ : Mem} (h :
  (x3 < x0 →
    cut 4 [some (.inl x0), some (.inr (.inl (w64 (x1 * 60)))), none, some (.inl (w32 (x3 + 1)))] [] σ) ∧
  (x0 ≤ x3 → Q x1 σ)) : seg none call c_M_power false Q cut 2000 true (toPc 4 c_M_power) [some (.inl x0), some (.inr (.inl x1)), none, some (.inl x3)] [] σ := h
theorem e_M_power_4 {d : Nat} {Q : Int → Mem → Prop} {x0 : Int} {x1 : Int} {x3 : Int} {σ : Mem} (h :
  (x3 < x0 → K_M_power_4 d Q x0 (w64 (x1 * 60)) (w32 (x3 + 1)) σ) ∧
  (x0 ≤ x3 → Q x1 σ)) : K_M_power_4 d Q x0 x1 x3 σ := XX_intro (g_M_power_4 (call := wp d) (cut := XX none (wp d) c_M_power false Q) (Q := Q) (x0 := x0) (x1 := x1) (x3 := x3) (σ := σ) (h))
abbrev K_M_waysOf_4 (d : Nat) (Q : Int → Mem → Prop) (x1 : Int) (x2 : Int) (x3 : Int) (σ : Mem) : Prop := XX none (wp d) c_M_waysOf false Q 4 [some (.inr (.inr 49)), some (.inl x1), some (.inl x2), some (.inl x3)] [] σ
theorem g_M_waysOf {call : Nat → List AV → Mem → (Int → Mem → Prop) → Prop} {cut : Nat → Lo → List AV → Mem → Prop} {Q : Int → Mem → Prop} {a1 : Int} {σ : Mem} (h :
  cut 4 [some (.inr (.inr 49)), some (.inl a1), some (.inl 1), some (.inl 0)] [] σ) : seg none call c_M_waysOf false Q cut 2000 true (toPc 0 c_M_waysOf) [some (.inr (.inr 49)), some (.inl a1), none, none] [] σ := h
theorem e_M_waysOf {d : Nat} {Q : Int → Mem → Prop} {a1 : Int} {σ : Mem} (h :
  K_M_waysOf_4 d Q a1 1 0 σ) : wp (d + 1) m_M_waysOf [.inr (.inr 49), .inl a1] σ Q := wp_in rfl (XX_intro (g_M_waysOf (call := wp d) (cut := XX none (wp d) c_M_waysOf false Q) (Q := Q) (a1 := a1) (σ := σ) (h)))
theorem g_M_waysOf_4 {call : Nat → List AV → Mem → (Int → Mem → Prop) → Prop} {cut : Nat → Lo → List AV → Mem → Prop} {Q : Int → Mem → Prop} {x1 : Int} {x2 : Int} {x3 : Int} {σ : Mem} (h :
  (x3 < x1 →
    (0 ≤ x3 ∧ x3 < (3 : Int)) ∧ (0 ≤ (σ 76 x3.toNat) ∧ (σ 76 x3.toNat) < (13 : Int)) ∧ cut 4 [some (.inr (.inr 49)), some (.inl x1), some (.inl (w32 (x2 * (σ 53 (σ 76 x3.toNat).toNat)))), some (.inl (w32 (x3 + 1)))] [] σ) ∧
  (x1 ≤ x3 → Q x2 σ)) : seg none call c_M_waysOf false Q cut 2000 true (toPc 4 c_M_waysOf) [some (.inr (.inr 49)), some (.inl x1), some (.inl x2), some (.inl x3)] [] σ := h
theorem e_M_waysOf_4 {d : Nat} {Q : Int → Mem → Prop} {x1 : Int} {x2 : Int} {x3 : Int} {σ : Mem} (h :
  (x3 < x1 →
    (0 ≤ x3 ∧ x3 < (3 : Int)) ∧ (0 ≤ (σ 76 x3.toNat) ∧ (σ 76 x3.toNat) < (13 : Int)) ∧ K_M_waysOf_4 d Q x1 (w32 (x2 * (σ 53 (σ 76 x3.toNat).toNat))) (w32 (x3 + 1)) σ) ∧
  (x1 ≤ x3 → Q x2 σ)) : K_M_waysOf_4 d Q x1 x2 x3 σ := XX_intro (g_M_waysOf_4 (call := wp d) (cut := XX none (wp d) c_M_waysOf false Q) (Q := Q) (x1 := x1) (x2 := x2) (x3 := x3) (σ := σ) (h))
abbrev K_M_hearWay_2 (d : Nat) (Q : Int → Mem → Prop) (x1 : Int) (x2 : Int) (x3 : Int) (σ : Mem) : Prop := XX none (wp d) c_M_hearWay true Q 2 [some (.inr (.inr 49)), some (.inl x1), some (.inl x2), some (.inl x3), none, none, none] [] σ
abbrev K_M_hearWay_45 (d : Nat) (Q : Int → Mem → Prop) (x3 : Int) (x4 : Int) (σ : Mem) : Prop := XX none (wp d) c_M_hearWay true Q 45 [some (.inr (.inr 49)), none, none, some (.inl x3), some (.inl x4), none, none] [] σ
abbrev K_M_hearWay_84 (d : Nat) (Q : Int → Mem → Prop) (x3 : Int) (x4 : Int) (x5 : Int) (x6 : Int) (σ : Mem) : Prop := XX none (wp d) c_M_hearWay true Q 84 [some (.inr (.inr 49)), none, none, some (.inl x3), some (.inl x4), some (.inl x5), some (.inl x6)] [] σ
theorem g_M_hearWay {call : Nat → List AV → Mem → (Int → Mem → Prop) → Prop} {cut : Nat → Lo → List AV → Mem → Prop} {Q : Int → Mem → Prop} {a1 : Int} {a2 : Int} {σ : Mem} (h :
  cut 2 [some (.inr (.inr 49)), some (.inl a1), some (.inl a2), some (.inl 0), none, none, none] [] σ) : seg none call c_M_hearWay true Q cut 2000 true (toPc 0 c_M_hearWay) [some (.inr (.inr 49)), some (.inl a1), some (.inl a2), none, none, none, none] [] σ := h
theorem e_M_hearWay {d : Nat} {Q : Int → Mem → Prop} {a1 : Int} {a2 : Int} {σ : Mem} (h :
  K_M_hearWay_2 d Q a1 a2 0 σ) : wp (d + 1) m_M_hearWay [.inr (.inr 49), .inl a1, .inl a2] σ Q := wp_in rfl (XX_intro (g_M_hearWay (call := wp d) (cut := XX none (wp d) c_M_hearWay true Q) (Q := Q) (a1 := a1) (a2 := a2) (σ := σ) (h)))
theorem g_M_hearWay_2 {call : Nat → List AV → Mem → (Int → Mem → Prop) → Prop} {cut : Nat → Lo → List AV → Mem → Prop} {Q : Int → Mem → Prop} {x1 : Int} {x2 : Int} {x3 : Int} {σ : Mem} (h :
  (x3 < 4 →
    (x3 < (σ 49 0) →
      (0 ≤ x3 ∧ x3 < (4 : Int)) ∧ (0 ≤ x3 ∧ x3 < (4 : Int)) ∧ cut 2 [some (.inr (.inr 49)), some (.inl x1), some (.inl x2), some (.inl (w32 (x3 + 1))), none, none, none] [] (mset σ 67 x3.toNat (σ 51 x3.toNat))) ∧
    ((σ 49 0) ≤ x3 →
      (0 ≤ x3 ∧ x3 < (4 : Int)) ∧ cut 2 [some (.inr (.inr 49)), some (.inl x1), some (.inl x2), some (.inl (w32 (x3 + 1))), none, none, none] [] (mset σ 67 x3.toNat 0))) ∧
  (4 ≤ x3 →
    cut 45 [some (.inr (.inr 49)), none, none, some (.inl x1), some (.inl (w32 (x2 - 1))), none, none] [] σ)) : seg none call c_M_hearWay true Q cut 2000 true (toPc 2 c_M_hearWay) [some (.inr (.inr 49)), some (.inl x1), some (.inl x2), some (.inl x3), none, none, none] [] σ := h
theorem e_M_hearWay_2 {d : Nat} {Q : Int → Mem → Prop} {x1 : Int} {x2 : Int} {x3 : Int} {σ : Mem} (h :
  (x3 < 4 →
    (x3 < (σ 49 0) →
      (0 ≤ x3 ∧ x3 < (4 : Int)) ∧ (0 ≤ x3 ∧ x3 < (4 : Int)) ∧ K_M_hearWay_2 d Q x1 x2 (w32 (x3 + 1)) (mset σ 67 x3.toNat (σ 51 x3.toNat))) ∧
    ((σ 49 0) ≤ x3 →
      (0 ≤ x3 ∧ x3 < (4 : Int)) ∧ K_M_hearWay_2 d Q x1 x2 (w32 (x3 + 1)) (mset σ 67 x3.toNat 0))) ∧
  (4 ≤ x3 → K_M_hearWay_45 d Q x1 (w32 (x2 - 1)) σ)) : K_M_hearWay_2 d Q x1 x2 x3 σ := XX_intro (g_M_hearWay_2 (call := wp d) (cut := XX none (wp d) c_M_hearWay true Q) (Q := Q) (x1 := x1) (x2 := x2) (x3 := x3) (σ := σ) (h))
theorem g_M_hearWay_45 {call : Nat → List AV → Mem → (Int → Mem → Prop) → Prop} {cut : Nat → Lo → List AV → Mem → Prop} {Q : Int → Mem → Prop} {x3 : Int} {x4 : Int} {σ : Mem} (h :
  (x4 < 0 →
    call m_M_allMass [.inr (.inr 49)] σ (fun (r1 : Int) (s2 : Mem) => (0 < r1 → isB 1 ∧ Q 1 s2) ∧
      (r1 ≤ 0 → isB 0 ∧ Q 0 s2))) ∧
  (0 ≤ x4 →
    (0 ≤ x4 ∧ x4 < (3 : Int)) ∧ (0 ≤ (σ 76 x4.toNat) ∧ (σ 76 x4.toNat) < (13 : Int)) ∧ (¬ (σ 53 (σ 76 x4.toNat).toNat) = 0) ∧ (0 ≤ x4 ∧ x4 < (3 : Int)) ∧ (0 ≤ (σ 76 x4.toNat) ∧ (σ 76 x4.toNat) < (13 : Int)) ∧ (¬ (σ 53 (σ 76 x4.toNat).toNat) = 0) ∧ cut 84 [some (.inr (.inr 49)), none, none, some (.inl (w32 (Int.tdiv x3 (σ 53 (σ 76 x4.toNat).toNat)))), some (.inl x4), some (.inl (Int.tmod x3 (σ 53 (σ 76 x4.toNat).toNat))), some (.inl 0)] [] σ)) : seg none call c_M_hearWay true Q cut 2000 true (toPc 45 c_M_hearWay) [some (.inr (.inr 49)), none, none, some (.inl x3), some (.inl x4), none, none] [] σ := h
theorem e_M_hearWay_45 {d : Nat} {Q : Int → Mem → Prop} {x3 : Int} {x4 : Int} {σ : Mem} (h :
  (x4 < 0 →
    wp d m_M_allMass [.inr (.inr 49)] σ (fun (r1 : Int) (s2 : Mem) => (0 < r1 → Q 1 s2) ∧
      (r1 ≤ 0 → Q 0 s2))) ∧
  (0 ≤ x4 →
    (0 ≤ x4 ∧ x4 < (3 : Int)) ∧ (0 ≤ (σ 76 x4.toNat) ∧ (σ 76 x4.toNat) < (13 : Int)) ∧ (¬ (σ 53 (σ 76 x4.toNat).toNat) = 0) ∧ (0 ≤ x4 ∧ x4 < (3 : Int)) ∧ (0 ≤ (σ 76 x4.toNat) ∧ (σ 76 x4.toNat) < (13 : Int)) ∧ (¬ (σ 53 (σ 76 x4.toNat).toNat) = 0) ∧ K_M_hearWay_84 d Q (w32 (Int.tdiv x3 (σ 53 (σ 76 x4.toNat).toNat))) x4 (Int.tmod x3 (σ 53 (σ 76 x4.toNat).toNat)) 0 σ)) : K_M_hearWay_45 d Q x3 x4 σ := XX_intro (g_M_hearWay_45 (call := wp d) (cut := XX none (wp d) c_M_hearWay true Q) (Q := Q) (x3 := x3) (x4 := x4) (σ := σ) (⟨fun z3 => wp_conseq (fun _ _ z2 => ⟨fun z1 => ⟨isB1, ((z2).1 z1)⟩, fun z1 => ⟨isB0, ((z2).2 z1)⟩⟩) (((h).1 z3)), fun z3 => (h).2 z3⟩))
theorem g_M_hearWay_84 {call : Nat → List AV → Mem → (Int → Mem → Prop) → Prop} {cut : Nat → Lo → List AV → Mem → Prop} {Q : Int → Mem → Prop} {x3 : Int} {x4 : Int} {x5 : Int} {x6 : Int} {σ : Mem} (h :
  (x6 < (σ 49 0) →
    (0 ≤ x6 ∧ x6 < (4 : Int)) ∧ (0 ≤ x4 ∧ x4 < (3 : Int)) ∧ call m_M_place [.inl (σ 76 x4.toNat), .inl x6, .inl x5] σ (fun (r1 : Int) (s2 : Mem) =>
    (0 ≤ r1 ∧ r1 < (312 : Int)) ∧ (0 ≤ x6 ∧ x6 < (4 : Int)) ∧ cut 84 [some (.inr (.inr 49)), none, none, some (.inl x3), some (.inl x4), some (.inl x5), some (.inl (w32 (x6 + 1)))] [] (mset s2 67 x6.toNat (w64 ((σ 67 x6.toNat) * (s2 54 r1.toNat)))))) ∧
  ((σ 49 0) ≤ x6 →
    cut 45 [some (.inr (.inr 49)), none, none, some (.inl x3), some (.inl (w32 (x4 + (-1)))), none, none] [] σ)) : seg none call c_M_hearWay true Q cut 2000 true (toPc 84 c_M_hearWay) [some (.inr (.inr 49)), none, none, some (.inl x3), some (.inl x4), some (.inl x5), some (.inl x6)] [] σ := h
theorem e_M_hearWay_84 {d : Nat} {Q : Int → Mem → Prop} {x3 : Int} {x4 : Int} {x5 : Int} {x6 : Int} {σ : Mem} (h :
  (x6 < (σ 49 0) →
    (0 ≤ x6 ∧ x6 < (4 : Int)) ∧ (0 ≤ x4 ∧ x4 < (3 : Int)) ∧ wp d m_M_place [.inl (σ 76 x4.toNat), .inl x6, .inl x5] σ (fun (r1 : Int) (s2 : Mem) =>
    (0 ≤ r1 ∧ r1 < (312 : Int)) ∧ (0 ≤ x6 ∧ x6 < (4 : Int)) ∧ K_M_hearWay_84 d Q x3 x4 x5 (w32 (x6 + 1)) (mset s2 67 x6.toNat (w64 ((σ 67 x6.toNat) * (s2 54 r1.toNat)))))) ∧
  ((σ 49 0) ≤ x6 → K_M_hearWay_45 d Q x3 (w32 (x4 + (-1))) σ)) : K_M_hearWay_84 d Q x3 x4 x5 x6 σ := XX_intro (g_M_hearWay_84 (call := wp d) (cut := XX none (wp d) c_M_hearWay true Q) (Q := Q) (x3 := x3) (x4 := x4) (x5 := x5) (x6 := x6) (σ := σ) (h))
abbrev K_M_gotTogether_5 (d : Nat) (Q : Int → Mem → Prop) (x1 : Int) (x2 : Int) (x4 : Int) (σ : Mem) : Prop := XX none (wp d) c_M_gotTogether false Q 5 [some (.inr (.inr 49)), some (.inl x1), some (.inr (.inl x2)), none, some (.inl x4)] [] σ
theorem g_M_gotTogether {call : Nat → List AV → Mem → (Int → Mem → Prop) → Prop} {cut : Nat → Lo → List AV → Mem → Prop} {Q : Int → Mem → Prop} {a1 : Int} {σ : Mem} (h :
  cut 5 [some (.inr (.inr 49)), some (.inl a1), some (.inr (.inl 0)), none, some (.inl 0)] [] σ) : seg none call c_M_gotTogether false Q cut 2000 true (toPc 0 c_M_gotTogether) [some (.inr (.inr 49)), some (.inl a1), none, none, none] [] σ := h
theorem e_M_gotTogether {d : Nat} {Q : Int → Mem → Prop} {a1 : Int} {σ : Mem} (h :
  K_M_gotTogether_5 d Q a1 0 0 σ) : wp (d + 1) m_M_gotTogether [.inr (.inr 49), .inl a1] σ Q := wp_in rfl (XX_intro (g_M_gotTogether (call := wp d) (cut := XX none (wp d) c_M_gotTogether false Q) (Q := Q) (a1 := a1) (σ := σ) (h)))
theorem g_M_gotTogether_5 {call : Nat → List AV → Mem → (Int → Mem → Prop) → Prop} {cut : Nat → Lo → List AV → Mem → Prop} {Q : Int → Mem → Prop} {x1 : Int} {x2 : Int} {x4 : Int} {σ : Mem} (h :
  call m_M_waysOf [.inr (.inr 49), .inl (σ 49 48)] σ (fun (r1 : Int) (s2 : Mem) =>
  (x4 < r1 →
      call m_M_hearWay [.inr (.inr 49), .inl x4, .inl (s2 49 48)] s2 (fun (r3 : Int) (s4 : Mem) =>
      (r3 = 0 →
          cut 5 [some (.inr (.inr 49)), some (.inl x1), some (.inr (.inl (w64 (x2 + 0)))), none, some (.inl (w32 (x4 + 1)))] [] s4) ∧
        (¬ r3 = 0 →
          call m_M_doneBy [.inr (.inr 49), .inl 0] s4 (fun (r5 : Int) (s6 : Mem) =>
          call m_M_sumOf [.inr (.inr 49), .inl x1, .inl r5] s6 (fun (r7 : Int) (s8 : Mem) =>
            cut 5 [some (.inr (.inr 49)), some (.inl x1), some (.inr (.inl (w64 (x2 + r7)))), none, some (.inl (w32 (x4 + 1)))] [] s8))))) ∧
    (r1 ≤ x4 → Q x2 s2))) : seg none call c_M_gotTogether false Q cut 2000 true (toPc 5 c_M_gotTogether) [some (.inr (.inr 49)), some (.inl x1), some (.inr (.inl x2)), none, some (.inl x4)] [] σ := h
theorem e_M_gotTogether_5 {d : Nat} {Q : Int → Mem → Prop} {x1 : Int} {x2 : Int} {x4 : Int} {σ : Mem} (h :
  wp d m_M_waysOf [.inr (.inr 49), .inl (σ 49 48)] σ (fun (r1 : Int) (s2 : Mem) =>
  (x4 < r1 →
      wp d m_M_hearWay [.inr (.inr 49), .inl x4, .inl (s2 49 48)] s2 (fun (r3 : Int) (s4 : Mem) =>
      (r3 = 0 → K_M_gotTogether_5 d Q x1 (w64 (x2 + 0)) (w32 (x4 + 1)) s4) ∧
        (¬ r3 = 0 →
          wp d m_M_doneBy [.inr (.inr 49), .inl 0] s4 (fun (r5 : Int) (s6 : Mem) =>
          wp d m_M_sumOf [.inr (.inr 49), .inl x1, .inl r5] s6 (fun (r7 : Int) (s8 : Mem) => K_M_gotTogether_5 d Q x1 (w64 (x2 + r7)) (w32 (x4 + 1)) s8))))) ∧
    (r1 ≤ x4 → Q x2 s2))) : K_M_gotTogether_5 d Q x1 x2 x4 σ := XX_intro (g_M_gotTogether_5 (call := wp d) (cut := XX none (wp d) c_M_gotTogether false Q) (Q := Q) (x1 := x1) (x2 := x2) (x4 := x4) (σ := σ) (h))
abbrev K_M_ones_4 (d : Nat) (Q : Int → Mem → Prop) (x1 : Int) (x2 : Int) (σ : Mem) : Prop := XX none (wp d) c_M_ones false Q 4 [none, some (.inl x1), some (.inl x2)] [] σ
theorem g_M_ones {call : Nat → List AV → Mem → (Int → Mem → Prop) → Prop} {cut : Nat → Lo → List AV → Mem → Prop} {Q : Int → Mem → Prop} {a0 : Int} {σ : Mem} (h :
  cut 4 [none, some (.inl 0), some (.inl a0)] [] σ) : seg none call c_M_ones false Q cut 2000 true (toPc 0 c_M_ones) [some (.inl a0), none, none] [] σ := h
theorem e_M_ones {d : Nat} {Q : Int → Mem → Prop} {a0 : Int} {σ : Mem} (h :
  K_M_ones_4 d Q 0 a0 σ) : wp (d + 1) m_M_ones [.inl a0] σ Q := wp_in rfl (XX_intro (g_M_ones (call := wp d) (cut := XX none (wp d) c_M_ones false Q) (Q := Q) (a0 := a0) (σ := σ) (h)))
theorem g_M_ones_4 {call : Nat → List AV → Mem → (Int → Mem → Prop) → Prop} {cut : Nat → Lo → List AV → Mem → Prop} {Q : Int → Mem → Prop} {x1 : Int} {x2 : Int} {σ : Mem} (h :
  (0 < x2 →
    (¬ (2 : Int) = 0) ∧ (¬ (2 : Int) = 0) ∧ cut 4 [none, some (.inl (w32 (x1 + (Int.tmod x2 2)))), some (.inl (w32 (Int.tdiv x2 2)))] [] σ) ∧
  (x2 ≤ 0 → Q x1 σ)) : seg none call c_M_ones false Q cut 2000 true (toPc 4 c_M_ones) [none, some (.inl x1), some (.inl x2)] [] σ := h
theorem e_M_ones_4 {d : Nat} {Q : Int → Mem → Prop} {x1 : Int} {x2 : Int} {σ : Mem} (h :
  (0 < x2 → K_M_ones_4 d Q (w32 (x1 + (Int.tmod x2 2))) (w32 (Int.tdiv x2 2)) σ) ∧
  (x2 ≤ 0 → Q x1 σ)) : K_M_ones_4 d Q x1 x2 σ := XX_intro (g_M_ones_4 (call := wp d) (cut := XX none (wp d) c_M_ones false Q) (Q := Q) (x1 := x1) (x2 := x2) (σ := σ) (⟨fun z1 => ⟨(by decide), ⟨(by decide), ((h).1 z1)⟩⟩, fun z1 => (h).2 z1⟩))
abbrev K_M_costOf_4 (d : Nat) (Q : Int → Mem → Prop) (x1 : Int) (x2 : Int) (x3 : Int) (σ : Mem) : Prop := XX none (wp d) c_M_costOf false Q 4 [some (.inr (.inr 49)), some (.inl x1), some (.inl x2), some (.inl x3)] [] σ
theorem g_M_costOf {call : Nat → List AV → Mem → (Int → Mem → Prop) → Prop} {cut : Nat → Lo → List AV → Mem → Prop} {Q : Int → Mem → Prop} {a1 : Int} {σ : Mem} (h :
  cut 4 [some (.inr (.inr 49)), some (.inl a1), some (.inl 0), some (.inl 0)] [] σ) : seg none call c_M_costOf false Q cut 2000 true (toPc 0 c_M_costOf) [some (.inr (.inr 49)), some (.inl a1), none, none] [] σ := h
theorem e_M_costOf {d : Nat} {Q : Int → Mem → Prop} {a1 : Int} {σ : Mem} (h :
  K_M_costOf_4 d Q a1 0 0 σ) : wp (d + 1) m_M_costOf [.inr (.inr 49), .inl a1] σ Q := wp_in rfl (XX_intro (g_M_costOf (call := wp d) (cut := XX none (wp d) c_M_costOf false Q) (Q := Q) (a1 := a1) (σ := σ) (h)))
theorem g_M_costOf_4 {call : Nat → List AV → Mem → (Int → Mem → Prop) → Prop} {cut : Nat → Lo → List AV → Mem → Prop} {Q : Int → Mem → Prop} {x1 : Int} {x2 : Int} {x3 : Int} {σ : Mem} (h :
  (x3 < (σ 49 9) →
    (0 ≤ x3 ∧ x3 < (6 : Int)) ∧ cut 4 [some (.inr (.inr 49)), some (.inl x1), some (.inl (w32 (x2 + (w32 ((andI (shrI x1 x3) 1) * (σ 56 x3.toNat)))))), some (.inl (w32 (x3 + 1)))] [] σ) ∧
  ((σ 49 9) ≤ x3 → Q x2 σ)) : seg none call c_M_costOf false Q cut 2000 true (toPc 4 c_M_costOf) [some (.inr (.inr 49)), some (.inl x1), some (.inl x2), some (.inl x3)] [] σ := h
theorem e_M_costOf_4 {d : Nat} {Q : Int → Mem → Prop} {x1 : Int} {x2 : Int} {x3 : Int} {σ : Mem} (h :
  (x3 < (σ 49 9) →
    (0 ≤ x3 ∧ x3 < (6 : Int)) ∧ K_M_costOf_4 d Q x1 (w32 (x2 + (w32 ((andI (shrI x1 x3) 1) * (σ 56 x3.toNat))))) (w32 (x3 + 1)) σ) ∧
  ((σ 49 9) ≤ x3 → Q x2 σ)) : K_M_costOf_4 d Q x1 x2 x3 σ := XX_intro (g_M_costOf_4 (call := wp d) (cut := XX none (wp d) c_M_costOf false Q) (Q := Q) (x1 := x1) (x2 := x2) (x3 := x3) (σ := σ) (h))
abbrev K_M_hearSet_7 (d : Nat) (Q : Int → Mem → Prop) (x1 : Int) (x2 : Int) (σ : Mem) : Prop := XX none (wp d) c_M_hearSet false Q 7 [some (.inr (.inr 49)), some (.inl x1), some (.inl x2)] [] σ
theorem g_M_hearSet {call : Nat → List AV → Mem → (Int → Mem → Prop) → Prop} {cut : Nat → Lo → List AV → Mem → Prop} {Q : Int → Mem → Prop} {a1 : Int} {σ : Mem} (h :
  cut 7 [some (.inr (.inr 49)), some (.inl a1), some (.inl 0)] [] (mset σ 49 48 0)) : seg none call c_M_hearSet false Q cut 2000 true (toPc 0 c_M_hearSet) [some (.inr (.inr 49)), some (.inl a1), none] [] σ := h
theorem e_M_hearSet {d : Nat} {Q : Int → Mem → Prop} {a1 : Int} {σ : Mem} (h :
  K_M_hearSet_7 d Q a1 0 (mset σ 49 48 0)) : wp (d + 1) m_M_hearSet [.inr (.inr 49), .inl a1] σ Q := wp_in rfl (XX_intro (g_M_hearSet (call := wp d) (cut := XX none (wp d) c_M_hearSet false Q) (Q := Q) (a1 := a1) (σ := σ) (h)))
theorem g_M_hearSet_7 {call : Nat → List AV → Mem → (Int → Mem → Prop) → Prop} {cut : Nat → Lo → List AV → Mem → Prop} {Q : Int → Mem → Prop} {x1 : Int} {x2 : Int} {σ : Mem} (h :
  (x2 < (σ 49 9) →
    ((andI (shrI x1 x2) 1) = 1 →
      (0 ≤ x2 ∧ x2 < (6 : Int)) ∧ (0 ≤ (σ 49 48) ∧ (σ 49 48) < (3 : Int)) ∧ cut 7 [some (.inr (.inr 49)), some (.inl x1), some (.inl (w32 (x2 + 1)))] [] (mset (mset σ 76 (σ 49 48).toNat (σ 55 x2.toNat)) 49 48 (w32 (((mset σ 76 (σ 49 48).toNat (σ 55 x2.toNat)) 49 48) + 1)))) ∧
    (¬ (andI (shrI x1 x2) 1) = 1 → cut 7 [some (.inr (.inr 49)), some (.inl x1), some (.inl (w32 (x2 + 1)))] [] σ)) ∧
  ((σ 49 9) ≤ x2 → Q 0 σ)) : seg none call c_M_hearSet false Q cut 2000 true (toPc 7 c_M_hearSet) [some (.inr (.inr 49)), some (.inl x1), some (.inl x2)] [] σ := h
theorem e_M_hearSet_7 {d : Nat} {Q : Int → Mem → Prop} {x1 : Int} {x2 : Int} {σ : Mem} (h :
  (x2 < (σ 49 9) →
    ((andI (shrI x1 x2) 1) = 1 →
      (0 ≤ x2 ∧ x2 < (6 : Int)) ∧ (0 ≤ (σ 49 48) ∧ (σ 49 48) < (3 : Int)) ∧ K_M_hearSet_7 d Q x1 (w32 (x2 + 1)) (mset (mset σ 76 (σ 49 48).toNat (σ 55 x2.toNat)) 49 48 (w32 (((mset σ 76 (σ 49 48).toNat (σ 55 x2.toNat)) 49 48) + 1)))) ∧
    (¬ (andI (shrI x1 x2) 1) = 1 → K_M_hearSet_7 d Q x1 (w32 (x2 + 1)) σ)) ∧
  ((σ 49 9) ≤ x2 → Q 0 σ)) : K_M_hearSet_7 d Q x1 x2 σ := XX_intro (g_M_hearSet_7 (call := wp d) (cut := XX none (wp d) c_M_hearSet false Q) (Q := Q) (x1 := x1) (x2 := x2) (σ := σ) (h))
theorem g_M_findSet {call : Nat → List AV → Mem → (Int → Mem → Prop) → Prop} {cut : Nat → Lo → List AV → Mem → Prop} {Q : Int → Mem → Prop} {a1 : Int} {a2 : Int} {σ : Mem} (h :
  call m_M_hearSet [.inr (.inr 49), .inl a1] σ (fun (r1 : Int) (s2 : Mem) =>
  call m_M_power [.inl (s2 49 48)] s2 (fun (r3 : Int) (s4 : Mem) =>
    call m_M_allBefore [.inr (.inr 49)] s4 (fun (r5 : Int) (s6 : Mem) =>
      call m_M_gotTogether [.inr (.inr 49), .inl 1] (mset s6 49 51 (w64 (r3 * r5))) (fun (r7 : Int) (s8 : Mem) =>
        (a2 = 0 →
            call m_M_divisor [.inr (.inl ((mset s8 49 50 (w64 (r7 - 0))) 49 50)), .inr (.inl ((mset s8 49 50 (w64 (r7 - 0))) 49 51))] (mset s8 49 50 (w64 (r7 - 0))) (fun (r9 : Int) (s10 : Mem) =>
            (¬ r9 = 0) ∧ (¬ r9 = 0) ∧ Q 0 (mset (mset s10 49 50 (w64 (Int.tdiv (s10 49 50) r9))) 49 51 (w64 (Int.tdiv ((mset s10 49 50 (w64 (Int.tdiv (s10 49 50) r9))) 49 51) r9))))) ∧
          (¬ a2 = 0 →
            call m_M_costOf [.inr (.inr 49), .inl a1] s8 (fun (r11 : Int) (s12 : Mem) =>
            call m_M_divisor [.inr (.inl ((mset s12 49 50 (w64 (r7 - (w64 (r11 * (s12 49 51)))))) 49 50)), .inr (.inl ((mset s12 49 50 (w64 (r7 - (w64 (r11 * (s12 49 51)))))) 49 51))] (mset s12 49 50 (w64 (r7 - (w64 (r11 * (s12 49 51)))))) (fun (r13 : Int) (s14 : Mem) =>
              (¬ r13 = 0) ∧ (¬ r13 = 0) ∧ Q 0 (mset (mset s14 49 50 (w64 (Int.tdiv (s14 49 50) r13))) 49 51 (w64 (Int.tdiv ((mset s14 49 50 (w64 (Int.tdiv (s14 49 50) r13))) 49 51) r13))))))))))) : seg none call c_M_findSet false Q cut 2000 true (toPc 0 c_M_findSet) [some (.inr (.inr 49)), some (.inl a1), some (.inl a2), none, none] [] σ := h
theorem e_M_findSet {d : Nat} {Q : Int → Mem → Prop} {a1 : Int} {a2 : Int} {σ : Mem} (h :
  wp d m_M_hearSet [.inr (.inr 49), .inl a1] σ (fun (r1 : Int) (s2 : Mem) =>
  wp d m_M_power [.inl (s2 49 48)] s2 (fun (r3 : Int) (s4 : Mem) =>
    wp d m_M_allBefore [.inr (.inr 49)] s4 (fun (r5 : Int) (s6 : Mem) =>
      wp d m_M_gotTogether [.inr (.inr 49), .inl 1] (mset s6 49 51 (w64 (r3 * r5))) (fun (r7 : Int) (s8 : Mem) =>
        (a2 = 0 →
            wp d m_M_divisor [.inr (.inl ((mset s8 49 50 (w64 (r7 - 0))) 49 50)), .inr (.inl ((mset s8 49 50 (w64 (r7 - 0))) 49 51))] (mset s8 49 50 (w64 (r7 - 0))) (fun (r9 : Int) (s10 : Mem) =>
            (¬ r9 = 0) ∧ (¬ r9 = 0) ∧ Q 0 (mset (mset s10 49 50 (w64 (Int.tdiv (s10 49 50) r9))) 49 51 (w64 (Int.tdiv ((mset s10 49 50 (w64 (Int.tdiv (s10 49 50) r9))) 49 51) r9))))) ∧
          (¬ a2 = 0 →
            wp d m_M_costOf [.inr (.inr 49), .inl a1] s8 (fun (r11 : Int) (s12 : Mem) =>
            wp d m_M_divisor [.inr (.inl ((mset s12 49 50 (w64 (r7 - (w64 (r11 * (s12 49 51)))))) 49 50)), .inr (.inl ((mset s12 49 50 (w64 (r7 - (w64 (r11 * (s12 49 51)))))) 49 51))] (mset s12 49 50 (w64 (r7 - (w64 (r11 * (s12 49 51)))))) (fun (r13 : Int) (s14 : Mem) =>
              (¬ r13 = 0) ∧ (¬ r13 = 0) ∧ Q 0 (mset (mset s14 49 50 (w64 (Int.tdiv (s14 49 50) r13))) 49 51 (w64 (Int.tdiv ((mset s14 49 50 (w64 (Int.tdiv (s14 49 50) r13))) 49 51) r13))))))))))) : wp (d + 1) m_M_findSet [.inr (.inr 49), .inl a1, .inl a2] σ Q := wp_in rfl (XX_intro (g_M_findSet (call := wp d) (cut := XX none (wp d) c_M_findSet false Q) (Q := Q) (a1 := a1) (a2 := a2) (σ := σ) (h)))
theorem g_M_isSet {call : Nat → List AV → Mem → (Int → Mem → Prop) → Prop} {cut : Nat → Lo → List AV → Mem → Prop} {Q : Int → Mem → Prop} {a1 : Int} {σ : Mem} (h :
  call m_M_in [.inr (.inl a1), .inr (.inl 0), .inr (.inl (w32 ((shlI 1 (σ 49 9)) - 1)))] σ (fun (r1 : Int) (s2 : Mem) => isB r1 ∧ Q r1 s2)) : seg none call c_M_isSet true Q cut 2000 true (toPc 0 c_M_isSet) [some (.inr (.inr 49)), some (.inl a1)] [] σ := h
theorem e_M_isSet {d : Nat} {Q : Int → Mem → Prop} {a1 : Int} {σ : Mem} (h :
  wp d m_M_in [.inr (.inl a1), .inr (.inl 0), .inr (.inl (w32 ((shlI 1 (σ 49 9)) - 1)))] σ (fun (r1 : Int) (s2 : Mem) => isB r1 ∧ Q r1 s2)) : wp (d + 1) m_M_isSet [.inr (.inr 49), .inl a1] σ Q := wp_in rfl (XX_intro (g_M_isSet (call := wp d) (cut := XX none (wp d) c_M_isSet true Q) (Q := Q) (a1 := a1) (σ := σ) (h)))
theorem g_M_set {call : Nat → List AV → Mem → (Int → Mem → Prop) → Prop} {cut : Nat → Lo → List AV → Mem → Prop} {Q : Int → Mem → Prop} {a1 : Int} {a2 : Int} {σ : Mem} (h :
  call m_M_isPart [.inl a2] σ (fun (r1 : Int) (s2 : Mem) =>
  (r1 = 0 →
      call m_M_refuseFar [.inr (.inr 49), .inl (-2)] s2 (fun (r17 : Int) (s18 : Mem) => Q r17 s18)) ∧
    (¬ r1 = 0 →
      ((s2 49 0) = 0 →
        call m_M_refuseFar [.inr (.inr 49), .inl (-3)] s2 (fun (r15 : Int) (s16 : Mem) => Q r15 s16)) ∧
      (¬ (s2 49 0) = 0 →
        call m_M_isSet [.inr (.inr 49), .inl a1] s2 (fun (r3 : Int) (s4 : Mem) =>
        (r3 = 0 →
            call m_M_refuseFar [.inr (.inr 49), .inl (-1)] s4 (fun (r13 : Int) (s14 : Mem) => Q r13 s14)) ∧
          (¬ r3 = 0 →
            call m_M_ones [.inl a1] s4 (fun (r5 : Int) (s6 : Mem) =>
            (3 < r5 →
                call m_M_refuseFar [.inr (.inr 49), .inl (-6)] s6 (fun (r11 : Int) (s12 : Mem) => Q r11 s12)) ∧
              (r5 ≤ 3 →
                call m_M_findSet [.inr (.inr 49), .inl a1, .inl 1] s6 (fun (r7 : Int) (s8 : Mem) =>
                call m_M_fraction [.inr (.inl (s8 49 50)), .inr (.inl (s8 49 51)), .inl a2] s8 (fun (r9 : Int) (s10 : Mem) => Q r9 s10)))))))))) : seg none call c_M_set false Q cut 2000 true (toPc 0 c_M_set) [some (.inr (.inr 49)), some (.inl a1), some (.inl a2)] [] σ := h
theorem e_M_set {d : Nat} {Q : Int → Mem → Prop} {a1 : Int} {a2 : Int} {σ : Mem} (h :
  wp d m_M_isPart [.inl a2] σ (fun (r1 : Int) (s2 : Mem) =>
  (r1 = 0 →
      wp d m_M_refuseFar [.inr (.inr 49), .inl (-2)] s2 (fun (r17 : Int) (s18 : Mem) => Q r17 s18)) ∧
    (¬ r1 = 0 →
      ((s2 49 0) = 0 →
        wp d m_M_refuseFar [.inr (.inr 49), .inl (-3)] s2 (fun (r15 : Int) (s16 : Mem) => Q r15 s16)) ∧
      (¬ (s2 49 0) = 0 →
        wp d m_M_isSet [.inr (.inr 49), .inl a1] s2 (fun (r3 : Int) (s4 : Mem) =>
        (r3 = 0 →
            wp d m_M_refuseFar [.inr (.inr 49), .inl (-1)] s4 (fun (r13 : Int) (s14 : Mem) => Q r13 s14)) ∧
          (¬ r3 = 0 →
            wp d m_M_ones [.inl a1] s4 (fun (r5 : Int) (s6 : Mem) =>
            (3 < r5 →
                wp d m_M_refuseFar [.inr (.inr 49), .inl (-6)] s6 (fun (r11 : Int) (s12 : Mem) => Q r11 s12)) ∧
              (r5 ≤ 3 →
                wp d m_M_findSet [.inr (.inr 49), .inl a1, .inl 1] s6 (fun (r7 : Int) (s8 : Mem) =>
                wp d m_M_fraction [.inr (.inl (s8 49 50)), .inr (.inl (s8 49 51)), .inl a2] s8 (fun (r9 : Int) (s10 : Mem) => Q r9 s10)))))))))) : wp (d + 1) m_M_set [.inr (.inr 49), .inl a1, .inl a2] σ Q := wp_in rfl (XX_intro (g_M_set (call := wp d) (cut := XX none (wp d) c_M_set false Q) (Q := Q) (a1 := a1) (a2 := a2) (σ := σ) (h)))
abbrev K_M_chosen_24 (d : Nat) (Q : Int → Mem → Prop) (x1 : Int) (x2 : Int) (x4 : Int) (x6 : Int) (σ : Mem) : Prop := XX none (wp d) c_M_chosen false Q 24 [some (.inr (.inr 49)), some (.inl x1), some (.inr (.inl x2)), none, some (.inr (.inl x4)), none, some (.inl x6), none, none, none, none] [] σ
theorem g_M_chosen {call : Nat → List AV → Mem → (Int → Mem → Prop) → Prop} {cut : Nat → Lo → List AV → Mem → Prop} {Q : Int → Mem → Prop}  {σ : Mem} (h :
  ((σ 49 0) = 0 →
    call m_M_refuse [.inr (.inr 49), .inl (-3)] σ (fun (r1 : Int) (s2 : Mem) => Q r1 s2)) ∧
  (¬ (σ 49 0) = 0 →
    cut 24 [some (.inr (.inr 49)), some (.inl (-1)), some (.inr (.inl 0)), none, some (.inr (.inl 1)), none, some (.inl 0), none, none, none, none] [] σ)) : seg none call c_M_chosen false Q cut 2000 true (toPc 0 c_M_chosen) [some (.inr (.inr 49)), none, none, none, none, none, none, none, none, none, none] [] σ := h
theorem e_M_chosen {d : Nat} {Q : Int → Mem → Prop}  {σ : Mem} (h :
  ((σ 49 0) = 0 →
    wp d m_M_refuse [.inr (.inr 49), .inl (-3)] σ (fun (r1 : Int) (s2 : Mem) => Q r1 s2)) ∧
  (¬ (σ 49 0) = 0 → K_M_chosen_24 d Q (-1) 0 1 0 σ)) : wp (d + 1) m_M_chosen [.inr (.inr 49)] σ Q := wp_in rfl (XX_intro (g_M_chosen (call := wp d) (cut := XX none (wp d) c_M_chosen false Q) (Q := Q)  (σ := σ) (h)))
theorem g_M_chosen_24 {call : Nat → List AV → Mem → (Int → Mem → Prop) → Prop} {cut : Nat → Lo → List AV → Mem → Prop} {Q : Int → Mem → Prop} {x1 : Int} {x2 : Int} {x4 : Int} {x6 : Int} {σ : Mem} (h :
  (x6 < (shlI 1 (σ 49 9)) →
    call m_M_ones [.inl x6] σ (fun (r1 : Int) (s2 : Mem) =>
    (3 < r1 →
        cut 24 [some (.inr (.inr 49)), some (.inl x1), some (.inr (.inl x2)), none, some (.inr (.inl x4)), none, some (.inl (w32 (x6 + 1))), none, none, none, none] [] s2) ∧
      (r1 ≤ 3 →
        call m_M_findSet [.inr (.inr 49), .inl x6, .inl 1] s2 (fun (r3 : Int) (s4 : Mem) =>
        (x1 < 0 →
            cut 24 [some (.inr (.inr 49)), some (.inl x6), some (.inr (.inl (s4 49 50))), none, some (.inr (.inl (s4 49 51))), none, some (.inl (w32 (x6 + 1))), none, none, none, none] [] s4) ∧
          (0 ≤ x1 →
            ((w64 (x2 * (s4 49 51))) < (w64 ((s4 49 50) * x4)) →
              cut 24 [some (.inr (.inr 49)), some (.inl x6), some (.inr (.inl (s4 49 50))), none, some (.inr (.inl (s4 49 51))), none, some (.inl (w32 (x6 + 1))), none, none, none, none] [] s4) ∧
            ((w64 ((s4 49 50) * x4)) ≤ (w64 (x2 * (s4 49 51))) →
              ((w64 ((s4 49 50) * x4)) = (w64 (x2 * (s4 49 51))) →
                call m_M_ones [.inl x6] s4 (fun (r5 : Int) (s6 : Mem) =>
                call m_M_ones [.inl x1] s6 (fun (r7 : Int) (s8 : Mem) =>
                  (r5 < r7 →
                      cut 24 [some (.inr (.inr 49)), some (.inl x6), some (.inr (.inl (s8 49 50))), none, some (.inr (.inl (s8 49 51))), none, some (.inl (w32 (x6 + 1))), none, none, none, none] [] s8) ∧
                    (r7 ≤ r5 →
                      cut 24 [some (.inr (.inr 49)), some (.inl x1), some (.inr (.inl x2)), none, some (.inr (.inl x4)), none, some (.inl (w32 (x6 + 1))), none, none, none, none] [] s8)))) ∧
              (¬ (w64 ((s4 49 50) * x4)) = (w64 (x2 * (s4 49 51))) →
                cut 24 [some (.inr (.inr 49)), some (.inl x1), some (.inr (.inl x2)), none, some (.inr (.inl x4)), none, some (.inl (w32 (x6 + 1))), none, none, none, none] [] s4))))))) ∧
  ((shlI 1 (σ 49 9)) ≤ x6 → Q x1 σ)) : seg none call c_M_chosen false Q cut 2000 true (toPc 24 c_M_chosen) [some (.inr (.inr 49)), some (.inl x1), some (.inr (.inl x2)), none, some (.inr (.inl x4)), none, some (.inl x6), none, none, none, none] [] σ := h
theorem e_M_chosen_24 {d : Nat} {Q : Int → Mem → Prop} {x1 : Int} {x2 : Int} {x4 : Int} {x6 : Int} {σ : Mem} (h :
  (x6 < (shlI 1 (σ 49 9)) →
    wp d m_M_ones [.inl x6] σ (fun (r1 : Int) (s2 : Mem) =>
    (3 < r1 → K_M_chosen_24 d Q x1 x2 x4 (w32 (x6 + 1)) s2) ∧
      (r1 ≤ 3 →
        wp d m_M_findSet [.inr (.inr 49), .inl x6, .inl 1] s2 (fun (r3 : Int) (s4 : Mem) =>
        (x1 < 0 → K_M_chosen_24 d Q x6 (s4 49 50) (s4 49 51) (w32 (x6 + 1)) s4) ∧
          (0 ≤ x1 →
            ((w64 (x2 * (s4 49 51))) < (w64 ((s4 49 50) * x4)) → K_M_chosen_24 d Q x6 (s4 49 50) (s4 49 51) (w32 (x6 + 1)) s4) ∧
            ((w64 ((s4 49 50) * x4)) ≤ (w64 (x2 * (s4 49 51))) →
              ((w64 ((s4 49 50) * x4)) = (w64 (x2 * (s4 49 51))) →
                wp d m_M_ones [.inl x6] s4 (fun (r5 : Int) (s6 : Mem) =>
                wp d m_M_ones [.inl x1] s6 (fun (r7 : Int) (s8 : Mem) =>
                  (r5 < r7 → K_M_chosen_24 d Q x6 (s8 49 50) (s8 49 51) (w32 (x6 + 1)) s8) ∧
                    (r7 ≤ r5 → K_M_chosen_24 d Q x1 x2 x4 (w32 (x6 + 1)) s8)))) ∧
              (¬ (w64 ((s4 49 50) * x4)) = (w64 (x2 * (s4 49 51))) → K_M_chosen_24 d Q x1 x2 x4 (w32 (x6 + 1)) s4))))))) ∧
  ((shlI 1 (σ 49 9)) ≤ x6 → Q x1 σ)) : K_M_chosen_24 d Q x1 x2 x4 x6 σ := XX_intro (g_M_chosen_24 (call := wp d) (cut := XX none (wp d) c_M_chosen false Q) (Q := Q) (x1 := x1) (x2 := x2) (x4 := x4) (x6 := x6) (σ := σ) (h))
abbrev K_M_enough_60 (d : Nat) (Q : Int → Mem → Prop) (x1 : Int) (x2 : Int) (x3 : Int) (x4 : Int) (σ : Mem) : Prop := XX none (wp d) c_M_enough false Q 60 [some (.inr (.inr 49)), some (.inl x1), some (.inl x2), some (.inl x3), some (.inl x4), none, none] [] σ
theorem g_M_enough {call : Nat → List AV → Mem → (Int → Mem → Prop) → Prop} {cut : Nat → Lo → List AV → Mem → Prop} {Q : Int → Mem → Prop} {a1 : Int} {a2 : Int} {σ : Mem} (h :
  ((σ 49 0) = 0 →
    call m_M_refuse [.inr (.inr 49), .inl (-3)] σ (fun (r9 : Int) (s10 : Mem) => Q r9 s10)) ∧
  (¬ (σ 49 0) = 0 →
    (a1 < (-9999) →
      call m_M_refuse [.inr (.inr 49), .inl (-4)] σ (fun (r1 : Int) (s2 : Mem) => Q r1 s2)) ∧
    ((-9999) ≤ a1 →
      (a2 < 1 →
        call m_M_refuse [.inr (.inr 49), .inl (-4)] σ (fun (r7 : Int) (s8 : Mem) => Q r7 s8)) ∧
      (1 ≤ a2 →
        (9999 < a1 →
          call m_M_refuse [.inr (.inr 49), .inl (-6)] σ (fun (r3 : Int) (s4 : Mem) => Q r3 s4)) ∧
        (a1 ≤ 9999 →
          (9999 < a2 →
            call m_M_refuse [.inr (.inr 49), .inl (-6)] σ (fun (r5 : Int) (s6 : Mem) => Q r5 s6)) ∧
          (a2 ≤ 9999 →
            cut 60 [some (.inr (.inr 49)), some (.inl a1), some (.inl a2), some (.inl (-9)), some (.inl 0), none, none] [] σ)))))) : seg none call c_M_enough false Q cut 2000 true (toPc 0 c_M_enough) [some (.inr (.inr 49)), some (.inl a1), some (.inl a2), none, none, none, none] [] σ := h
theorem e_M_enough {d : Nat} {Q : Int → Mem → Prop} {a1 : Int} {a2 : Int} {σ : Mem} (h :
  ((σ 49 0) = 0 →
    wp d m_M_refuse [.inr (.inr 49), .inl (-3)] σ (fun (r9 : Int) (s10 : Mem) => Q r9 s10)) ∧
  (¬ (σ 49 0) = 0 →
    (a1 < (-9999) →
      wp d m_M_refuse [.inr (.inr 49), .inl (-4)] σ (fun (r1 : Int) (s2 : Mem) => Q r1 s2)) ∧
    ((-9999) ≤ a1 →
      (a2 < 1 →
        wp d m_M_refuse [.inr (.inr 49), .inl (-4)] σ (fun (r7 : Int) (s8 : Mem) => Q r7 s8)) ∧
      (1 ≤ a2 →
        (9999 < a1 →
          wp d m_M_refuse [.inr (.inr 49), .inl (-6)] σ (fun (r3 : Int) (s4 : Mem) => Q r3 s4)) ∧
        (a1 ≤ 9999 →
          (9999 < a2 →
            wp d m_M_refuse [.inr (.inr 49), .inl (-6)] σ (fun (r5 : Int) (s6 : Mem) => Q r5 s6)) ∧
          (a2 ≤ 9999 → K_M_enough_60 d Q a1 a2 (-9) 0 σ)))))) : wp (d + 1) m_M_enough [.inr (.inr 49), .inl a1, .inl a2] σ Q := wp_in rfl (XX_intro (g_M_enough (call := wp d) (cut := XX none (wp d) c_M_enough false Q) (Q := Q) (a1 := a1) (a2 := a2) (σ := σ) (h)))
theorem g_M_enough_60 {call : Nat → List AV → Mem → (Int → Mem → Prop) → Prop} {cut : Nat → Lo → List AV → Mem → Prop} {Q : Int → Mem → Prop} {x1 : Int} {x2 : Int} {x3 : Int} {x4 : Int} {σ : Mem} (h :
  (x4 < (shlI 1 (σ 49 9)) →
    call m_M_ones [.inl x4] σ (fun (r1 : Int) (s2 : Mem) =>
    (3 < r1 →
        cut 60 [some (.inr (.inr 49)), some (.inl x1), some (.inl x2), some (.inl x3), some (.inl (w32 (x4 + 1))), none, none] [] s2) ∧
      (r1 ≤ 3 →
        call m_M_findSet [.inr (.inr 49), .inl x4, .inl 0] s2 (fun (r3 : Int) (s4 : Mem) =>
        ((w64 ((s4 49 50) * x2)) < (w64 (x1 * (s4 49 51))) →
            (x3 < 0 →
              ((0 : Int) = 0 →
                cut 60 [some (.inr (.inr 49)), some (.inl x1), some (.inl x2), some (.inl x3), some (.inl (w32 (x4 + 1))), none, none] [] s4) ∧
              (¬ (0 : Int) = 0 →
                ((1 : Int) = 0 →
                  cut 60 [some (.inr (.inr 49)), some (.inl x1), some (.inl x2), some (.inl x3), some (.inl (w32 (x4 + 1))), none, none] [] s4) ∧
                (¬ (1 : Int) = 0 →
                  cut 60 [some (.inr (.inr 49)), some (.inl x1), some (.inl x2), some (.inl x4), some (.inl (w32 (x4 + 1))), none, none] [] s4))) ∧
            (0 ≤ x3 →
              call m_M_costOf [.inr (.inr 49), .inl x4] s4 (fun (r5 : Int) (s6 : Mem) =>
              call m_M_costOf [.inr (.inr 49), .inl x3] s6 (fun (r7 : Int) (s8 : Mem) =>
                (r5 < r7 →
                    ((0 : Int) = 0 →
                      cut 60 [some (.inr (.inr 49)), some (.inl x1), some (.inl x2), some (.inl x3), some (.inl (w32 (x4 + 1))), none, none] [] s8) ∧
                    (¬ (0 : Int) = 0 →
                      ((1 : Int) = 0 →
                        cut 60 [some (.inr (.inr 49)), some (.inl x1), some (.inl x2), some (.inl x3), some (.inl (w32 (x4 + 1))), none, none] [] s8) ∧
                      (¬ (1 : Int) = 0 →
                        cut 60 [some (.inr (.inr 49)), some (.inl x1), some (.inl x2), some (.inl x4), some (.inl (w32 (x4 + 1))), none, none] [] s8))) ∧
                  (r7 ≤ r5 →
                    call m_M_costOf [.inr (.inr 49), .inl x4] s8 (fun (r9 : Int) (s10 : Mem) =>
                    call m_M_costOf [.inr (.inr 49), .inl x3] s10 (fun (r11 : Int) (s12 : Mem) =>
                      (r9 = r11 →
                          call m_M_ones [.inl x4] s12 (fun (r13 : Int) (s14 : Mem) =>
                          call m_M_ones [.inl x3] s14 (fun (r15 : Int) (s16 : Mem) =>
                            (r13 < r15 →
                                ((0 : Int) = 0 →
                                  cut 60 [some (.inr (.inr 49)), some (.inl x1), some (.inl x2), some (.inl x3), some (.inl (w32 (x4 + 1))), none, none] [] s16) ∧
                                (¬ (0 : Int) = 0 →
                                  ((1 : Int) = 0 →
                                    cut 60 [some (.inr (.inr 49)), some (.inl x1), some (.inl x2), some (.inl x3), some (.inl (w32 (x4 + 1))), none, none] [] s16) ∧
                                  (¬ (1 : Int) = 0 →
                                    cut 60 [some (.inr (.inr 49)), some (.inl x1), some (.inl x2), some (.inl x4), some (.inl (w32 (x4 + 1))), none, none] [] s16))) ∧
                              (r15 ≤ r13 →
                                ((0 : Int) = 0 →
                                  cut 60 [some (.inr (.inr 49)), some (.inl x1), some (.inl x2), some (.inl x3), some (.inl (w32 (x4 + 1))), none, none] [] s16) ∧
                                (¬ (0 : Int) = 0 →
                                  ((0 : Int) = 0 →
                                    cut 60 [some (.inr (.inr 49)), some (.inl x1), some (.inl x2), some (.inl x3), some (.inl (w32 (x4 + 1))), none, none] [] s16) ∧
                                  (¬ (0 : Int) = 0 →
                                    cut 60 [some (.inr (.inr 49)), some (.inl x1), some (.inl x2), some (.inl x4), some (.inl (w32 (x4 + 1))), none, none] [] s16)))))) ∧
                        (¬ r9 = r11 →
                          ((0 : Int) = 0 →
                            cut 60 [some (.inr (.inr 49)), some (.inl x1), some (.inl x2), some (.inl x3), some (.inl (w32 (x4 + 1))), none, none] [] s12) ∧
                          (¬ (0 : Int) = 0 →
                            ((0 : Int) = 0 →
                              cut 60 [some (.inr (.inr 49)), some (.inl x1), some (.inl x2), some (.inl x3), some (.inl (w32 (x4 + 1))), none, none] [] s12) ∧
                            (¬ (0 : Int) = 0 →
                              cut 60 [some (.inr (.inr 49)), some (.inl x1), some (.inl x2), some (.inl x4), some (.inl (w32 (x4 + 1))), none, none] [] s12)))))))))) ∧
          ((w64 (x1 * (s4 49 51))) ≤ (w64 ((s4 49 50) * x2)) →
            (x3 < 0 →
              ((1 : Int) = 0 →
                cut 60 [some (.inr (.inr 49)), some (.inl x1), some (.inl x2), some (.inl x3), some (.inl (w32 (x4 + 1))), none, none] [] s4) ∧
              (¬ (1 : Int) = 0 →
                ((1 : Int) = 0 →
                  cut 60 [some (.inr (.inr 49)), some (.inl x1), some (.inl x2), some (.inl x3), some (.inl (w32 (x4 + 1))), none, none] [] s4) ∧
                (¬ (1 : Int) = 0 →
                  cut 60 [some (.inr (.inr 49)), some (.inl x1), some (.inl x2), some (.inl x4), some (.inl (w32 (x4 + 1))), none, none] [] s4))) ∧
            (0 ≤ x3 →
              call m_M_costOf [.inr (.inr 49), .inl x4] s4 (fun (r17 : Int) (s18 : Mem) =>
              call m_M_costOf [.inr (.inr 49), .inl x3] s18 (fun (r19 : Int) (s20 : Mem) =>
                (r17 < r19 →
                    ((1 : Int) = 0 →
                      cut 60 [some (.inr (.inr 49)), some (.inl x1), some (.inl x2), some (.inl x3), some (.inl (w32 (x4 + 1))), none, none] [] s20) ∧
                    (¬ (1 : Int) = 0 →
                      ((1 : Int) = 0 →
                        cut 60 [some (.inr (.inr 49)), some (.inl x1), some (.inl x2), some (.inl x3), some (.inl (w32 (x4 + 1))), none, none] [] s20) ∧
                      (¬ (1 : Int) = 0 →
                        cut 60 [some (.inr (.inr 49)), some (.inl x1), some (.inl x2), some (.inl x4), some (.inl (w32 (x4 + 1))), none, none] [] s20))) ∧
                  (r19 ≤ r17 →
                    call m_M_costOf [.inr (.inr 49), .inl x4] s20 (fun (r21 : Int) (s22 : Mem) =>
                    call m_M_costOf [.inr (.inr 49), .inl x3] s22 (fun (r23 : Int) (s24 : Mem) =>
                      (r21 = r23 →
                          call m_M_ones [.inl x4] s24 (fun (r25 : Int) (s26 : Mem) =>
                          call m_M_ones [.inl x3] s26 (fun (r27 : Int) (s28 : Mem) =>
                            (r25 < r27 →
                                ((1 : Int) = 0 →
                                  cut 60 [some (.inr (.inr 49)), some (.inl x1), some (.inl x2), some (.inl x3), some (.inl (w32 (x4 + 1))), none, none] [] s28) ∧
                                (¬ (1 : Int) = 0 →
                                  ((1 : Int) = 0 →
                                    cut 60 [some (.inr (.inr 49)), some (.inl x1), some (.inl x2), some (.inl x3), some (.inl (w32 (x4 + 1))), none, none] [] s28) ∧
                                  (¬ (1 : Int) = 0 →
                                    cut 60 [some (.inr (.inr 49)), some (.inl x1), some (.inl x2), some (.inl x4), some (.inl (w32 (x4 + 1))), none, none] [] s28))) ∧
                              (r27 ≤ r25 →
                                ((1 : Int) = 0 →
                                  cut 60 [some (.inr (.inr 49)), some (.inl x1), some (.inl x2), some (.inl x3), some (.inl (w32 (x4 + 1))), none, none] [] s28) ∧
                                (¬ (1 : Int) = 0 →
                                  ((0 : Int) = 0 →
                                    cut 60 [some (.inr (.inr 49)), some (.inl x1), some (.inl x2), some (.inl x3), some (.inl (w32 (x4 + 1))), none, none] [] s28) ∧
                                  (¬ (0 : Int) = 0 →
                                    cut 60 [some (.inr (.inr 49)), some (.inl x1), some (.inl x2), some (.inl x4), some (.inl (w32 (x4 + 1))), none, none] [] s28)))))) ∧
                        (¬ r21 = r23 →
                          ((1 : Int) = 0 →
                            cut 60 [some (.inr (.inr 49)), some (.inl x1), some (.inl x2), some (.inl x3), some (.inl (w32 (x4 + 1))), none, none] [] s24) ∧
                          (¬ (1 : Int) = 0 →
                            ((0 : Int) = 0 →
                              cut 60 [some (.inr (.inr 49)), some (.inl x1), some (.inl x2), some (.inl x3), some (.inl (w32 (x4 + 1))), none, none] [] s24) ∧
                            (¬ (0 : Int) = 0 →
                              cut 60 [some (.inr (.inr 49)), some (.inl x1), some (.inl x2), some (.inl x4), some (.inl (w32 (x4 + 1))), none, none] [] s24)))))))))))))) ∧
  ((shlI 1 (σ 49 9)) ≤ x4 → Q x3 σ)) : seg none call c_M_enough false Q cut 2000 true (toPc 60 c_M_enough) [some (.inr (.inr 49)), some (.inl x1), some (.inl x2), some (.inl x3), some (.inl x4), none, none] [] σ := h
theorem e_M_enough_60 {d : Nat} {Q : Int → Mem → Prop} {x1 : Int} {x2 : Int} {x3 : Int} {x4 : Int} {σ : Mem} (h :
  (x4 < (shlI 1 (σ 49 9)) →
    wp d m_M_ones [.inl x4] σ (fun (r1 : Int) (s2 : Mem) =>
    (3 < r1 → K_M_enough_60 d Q x1 x2 x3 (w32 (x4 + 1)) s2) ∧
      (r1 ≤ 3 →
        wp d m_M_findSet [.inr (.inr 49), .inl x4, .inl 0] s2 (fun (r3 : Int) (s4 : Mem) =>
        ((w64 ((s4 49 50) * x2)) < (w64 (x1 * (s4 49 51))) →
            (x3 < 0 → K_M_enough_60 d Q x1 x2 x3 (w32 (x4 + 1)) s4) ∧
            (0 ≤ x3 →
              wp d m_M_costOf [.inr (.inr 49), .inl x4] s4 (fun (r5 : Int) (s6 : Mem) =>
              wp d m_M_costOf [.inr (.inr 49), .inl x3] s6 (fun (r7 : Int) (s8 : Mem) =>
                (r5 < r7 → K_M_enough_60 d Q x1 x2 x3 (w32 (x4 + 1)) s8) ∧
                  (r7 ≤ r5 →
                    wp d m_M_costOf [.inr (.inr 49), .inl x4] s8 (fun (r9 : Int) (s10 : Mem) =>
                    wp d m_M_costOf [.inr (.inr 49), .inl x3] s10 (fun (r11 : Int) (s12 : Mem) =>
                      (r9 = r11 →
                          wp d m_M_ones [.inl x4] s12 (fun (r13 : Int) (s14 : Mem) =>
                          wp d m_M_ones [.inl x3] s14 (fun (r15 : Int) (s16 : Mem) =>
                            (r13 < r15 → K_M_enough_60 d Q x1 x2 x3 (w32 (x4 + 1)) s16) ∧
                              (r15 ≤ r13 → K_M_enough_60 d Q x1 x2 x3 (w32 (x4 + 1)) s16)))) ∧
                        (¬ r9 = r11 → K_M_enough_60 d Q x1 x2 x3 (w32 (x4 + 1)) s12)))))))) ∧
          ((w64 (x1 * (s4 49 51))) ≤ (w64 ((s4 49 50) * x2)) →
            (x3 < 0 → K_M_enough_60 d Q x1 x2 x4 (w32 (x4 + 1)) s4) ∧
            (0 ≤ x3 →
              wp d m_M_costOf [.inr (.inr 49), .inl x4] s4 (fun (r17 : Int) (s18 : Mem) =>
              wp d m_M_costOf [.inr (.inr 49), .inl x3] s18 (fun (r19 : Int) (s20 : Mem) =>
                (r17 < r19 → K_M_enough_60 d Q x1 x2 x4 (w32 (x4 + 1)) s20) ∧
                  (r19 ≤ r17 →
                    wp d m_M_costOf [.inr (.inr 49), .inl x4] s20 (fun (r21 : Int) (s22 : Mem) =>
                    wp d m_M_costOf [.inr (.inr 49), .inl x3] s22 (fun (r23 : Int) (s24 : Mem) =>
                      (r21 = r23 →
                          wp d m_M_ones [.inl x4] s24 (fun (r25 : Int) (s26 : Mem) =>
                          wp d m_M_ones [.inl x3] s26 (fun (r27 : Int) (s28 : Mem) =>
                            (r25 < r27 → K_M_enough_60 d Q x1 x2 x4 (w32 (x4 + 1)) s28) ∧
                              (r27 ≤ r25 → K_M_enough_60 d Q x1 x2 x3 (w32 (x4 + 1)) s28)))) ∧
                        (¬ r21 = r23 → K_M_enough_60 d Q x1 x2 x3 (w32 (x4 + 1)) s24)))))))))))) ∧
  ((shlI 1 (σ 49 9)) ≤ x4 → Q x3 σ)) : K_M_enough_60 d Q x1 x2 x3 x4 σ := XX_intro (g_M_enough_60 (call := wp d) (cut := XX none (wp d) c_M_enough false Q) (Q := Q) (x1 := x1) (x2 := x2) (x3 := x3) (x4 := x4) (σ := σ) (⟨fun z45 => wp_conseq (fun _ _ z44 => ⟨fun z43 => (z44).1 z43, fun z43 => wp_conseq (fun _ _ z42 => ⟨fun z41 => ⟨fun z20 => ⟨fun _ => ((((z42).1 z41)).1 z20), fun z2 => absurd z2 (by decide)⟩, fun z20 => wp_conseq (fun _ _ z19 => wp_conseq (fun _ _ z18 => ⟨fun z17 => ⟨fun _ => ((z18).1 z17), fun z4 => absurd z4 (by decide)⟩, fun z17 => wp_conseq (fun _ _ z16 => wp_conseq (fun _ _ z15 => ⟨fun z14 => wp_conseq (fun _ _ z13 => wp_conseq (fun _ _ z12 => ⟨fun z11 => ⟨fun _ => ((z12).1 z11), fun z10 => absurd z10 (by decide)⟩, fun z11 => ⟨fun _ => ((z12).2 z11), fun z8 => absurd z8 (by decide)⟩⟩) (z13)) (((z15).1 z14)), fun z14 => ⟨fun _ => ((z15).2 z14), fun z6 => absurd z6 (by decide)⟩⟩) (z16)) (((z18).2 z17))⟩) (z19)) (((((z42).1 z41)).2 z20))⟩, fun z41 => ⟨fun z40 => ⟨fun z22 => absurd z22 (by decide), fun _ => ⟨fun z21 => absurd z21 (by decide), fun _ => ((((z42).2 z41)).1 z40)⟩⟩, fun z40 => wp_conseq (fun _ _ z39 => wp_conseq (fun _ _ z38 => ⟨fun z37 => ⟨fun z24 => absurd z24 (by decide), fun _ => ⟨fun z23 => absurd z23 (by decide), fun _ => ((z38).1 z37)⟩⟩, fun z37 => wp_conseq (fun _ _ z36 => wp_conseq (fun _ _ z35 => ⟨fun z34 => wp_conseq (fun _ _ z33 => wp_conseq (fun _ _ z32 => ⟨fun z31 => ⟨fun z30 => absurd z30 (by decide), fun _ => ⟨fun z29 => absurd z29 (by decide), fun _ => ((z32).1 z31)⟩⟩, fun z31 => ⟨fun z28 => absurd z28 (by decide), fun _ => ⟨fun _ => ((z32).2 z31), fun z27 => absurd z27 (by decide)⟩⟩⟩) (z33)) (((z35).1 z34)), fun z34 => ⟨fun z26 => absurd z26 (by decide), fun _ => ⟨fun _ => ((z35).2 z34), fun z25 => absurd z25 (by decide)⟩⟩⟩) (z36)) (((z38).2 z37))⟩) (z39)) (((((z42).2 z41)).2 z40))⟩⟩) (((z44).2 z43))⟩) (((h).1 z45)), fun z45 => (h).2 z45⟩))
theorem g_M_hear {call : Nat → List AV → Mem → (Int → Mem → Prop) → Prop} {cut : Nat → Lo → List AV → Mem → Prop} {Q : Int → Mem → Prop} {a1 : Int} {a2 : Int} {a3 : Int} {σ : Mem} (h :
  call m_M_isPart [.inl a3] σ (fun (r1 : Int) (s2 : Mem) =>
  (r1 = 0 →
      call m_M_refuseFar [.inr (.inr 49), .inl (-2)] s2 (fun (r41 : Int) (s42 : Mem) => Q r41 s42)) ∧
    (¬ r1 = 0 →
      ((s2 49 0) = 0 →
        call m_M_refuseFar [.inr (.inr 49), .inl (-3)] s2 (fun (r39 : Int) (s40 : Mem) => Q r39 s40)) ∧
      (¬ (s2 49 0) = 0 →
        call m_M_isLook [.inr (.inr 49), .inl a1] s2 (fun (r3 : Int) (s4 : Mem) =>
        (r3 = 0 →
            call m_M_refuseFar [.inr (.inr 49), .inl (-1)] s4 (fun (r5 : Int) (s6 : Mem) => Q r5 s6)) ∧
          (¬ r3 = 0 →
            (a2 = (-1) →
              call m_M_gotOf [.inr (.inr 49), .inl a1, .inl 0, .inl 1] s4 (fun (r7 : Int) (s8 : Mem) =>
              (a2 < 0 →
                  call m_M_gotOf [.inr (.inr 49), .inl a1, .inl 1, .inl 1] s8 (fun (r15 : Int) (s16 : Mem) =>
                  call m_M_allBefore [.inr (.inr 49)] s16 (fun (r17 : Int) (s18 : Mem) =>
                    call m_M_fraction [.inr (.inl (w64 (r7 + r15))), .inr (.inl (w64 (60 * r17))), .inl a3] s18 (fun (r19 : Int) (s20 : Mem) => Q r19 s20)))) ∧
                (0 ≤ a2 →
                  call m_M_gotOf [.inr (.inr 49), .inl a2, .inl 1, .inl 1] s8 (fun (r9 : Int) (s10 : Mem) =>
                  call m_M_allBefore [.inr (.inr 49)] s10 (fun (r11 : Int) (s12 : Mem) =>
                    call m_M_fraction [.inr (.inl (w64 (r7 + r9))), .inr (.inl (w64 (60 * r11))), .inl a3] s12 (fun (r13 : Int) (s14 : Mem) => Q r13 s14)))))) ∧
            (¬ a2 = (-1) →
              call m_M_isLook [.inr (.inr 49), .inl a2] s4 (fun (r21 : Int) (s22 : Mem) =>
              (r21 = 0 →
                  call m_M_refuseFar [.inr (.inr 49), .inl (-1)] s22 (fun (r37 : Int) (s38 : Mem) => Q r37 s38)) ∧
                (¬ r21 = 0 →
                  call m_M_gotOf [.inr (.inr 49), .inl a1, .inl 0, .inl 1] s22 (fun (r23 : Int) (s24 : Mem) =>
                  (a2 < 0 →
                      call m_M_gotOf [.inr (.inr 49), .inl a1, .inl 1, .inl 1] s24 (fun (r31 : Int) (s32 : Mem) =>
                      call m_M_allBefore [.inr (.inr 49)] s32 (fun (r33 : Int) (s34 : Mem) =>
                        call m_M_fraction [.inr (.inl (w64 (r23 + r31))), .inr (.inl (w64 (60 * r33))), .inl a3] s34 (fun (r35 : Int) (s36 : Mem) => Q r35 s36)))) ∧
                    (0 ≤ a2 →
                      call m_M_gotOf [.inr (.inr 49), .inl a2, .inl 1, .inl 1] s24 (fun (r25 : Int) (s26 : Mem) =>
                      call m_M_allBefore [.inr (.inr 49)] s26 (fun (r27 : Int) (s28 : Mem) =>
                        call m_M_fraction [.inr (.inl (w64 (r23 + r25))), .inr (.inl (w64 (60 * r27))), .inl a3] s28 (fun (r29 : Int) (s30 : Mem) => Q r29 s30)))))))))))))) : seg none call c_M_hear false Q cut 2000 true (toPc 0 c_M_hear) [some (.inr (.inr 49)), some (.inl a1), some (.inl a2), some (.inl a3)] [] σ := h
theorem e_M_hear {d : Nat} {Q : Int → Mem → Prop} {a1 : Int} {a2 : Int} {a3 : Int} {σ : Mem} (h :
  wp d m_M_isPart [.inl a3] σ (fun (r1 : Int) (s2 : Mem) =>
  (r1 = 0 →
      wp d m_M_refuseFar [.inr (.inr 49), .inl (-2)] s2 (fun (r41 : Int) (s42 : Mem) => Q r41 s42)) ∧
    (¬ r1 = 0 →
      ((s2 49 0) = 0 →
        wp d m_M_refuseFar [.inr (.inr 49), .inl (-3)] s2 (fun (r39 : Int) (s40 : Mem) => Q r39 s40)) ∧
      (¬ (s2 49 0) = 0 →
        wp d m_M_isLook [.inr (.inr 49), .inl a1] s2 (fun (r3 : Int) (s4 : Mem) =>
        (r3 = 0 →
            wp d m_M_refuseFar [.inr (.inr 49), .inl (-1)] s4 (fun (r5 : Int) (s6 : Mem) => Q r5 s6)) ∧
          (¬ r3 = 0 →
            (a2 = (-1) →
              wp d m_M_gotOf [.inr (.inr 49), .inl a1, .inl 0, .inl 1] s4 (fun (r7 : Int) (s8 : Mem) =>
              (a2 < 0 →
                  wp d m_M_gotOf [.inr (.inr 49), .inl a1, .inl 1, .inl 1] s8 (fun (r15 : Int) (s16 : Mem) =>
                  wp d m_M_allBefore [.inr (.inr 49)] s16 (fun (r17 : Int) (s18 : Mem) =>
                    wp d m_M_fraction [.inr (.inl (w64 (r7 + r15))), .inr (.inl (w64 (60 * r17))), .inl a3] s18 (fun (r19 : Int) (s20 : Mem) => Q r19 s20)))) ∧
                (0 ≤ a2 →
                  wp d m_M_gotOf [.inr (.inr 49), .inl a2, .inl 1, .inl 1] s8 (fun (r9 : Int) (s10 : Mem) =>
                  wp d m_M_allBefore [.inr (.inr 49)] s10 (fun (r11 : Int) (s12 : Mem) =>
                    wp d m_M_fraction [.inr (.inl (w64 (r7 + r9))), .inr (.inl (w64 (60 * r11))), .inl a3] s12 (fun (r13 : Int) (s14 : Mem) => Q r13 s14)))))) ∧
            (¬ a2 = (-1) →
              wp d m_M_isLook [.inr (.inr 49), .inl a2] s4 (fun (r21 : Int) (s22 : Mem) =>
              (r21 = 0 →
                  wp d m_M_refuseFar [.inr (.inr 49), .inl (-1)] s22 (fun (r37 : Int) (s38 : Mem) => Q r37 s38)) ∧
                (¬ r21 = 0 →
                  wp d m_M_gotOf [.inr (.inr 49), .inl a1, .inl 0, .inl 1] s22 (fun (r23 : Int) (s24 : Mem) =>
                  (a2 < 0 →
                      wp d m_M_gotOf [.inr (.inr 49), .inl a1, .inl 1, .inl 1] s24 (fun (r31 : Int) (s32 : Mem) =>
                      wp d m_M_allBefore [.inr (.inr 49)] s32 (fun (r33 : Int) (s34 : Mem) =>
                        wp d m_M_fraction [.inr (.inl (w64 (r23 + r31))), .inr (.inl (w64 (60 * r33))), .inl a3] s34 (fun (r35 : Int) (s36 : Mem) => Q r35 s36)))) ∧
                    (0 ≤ a2 →
                      wp d m_M_gotOf [.inr (.inr 49), .inl a2, .inl 1, .inl 1] s24 (fun (r25 : Int) (s26 : Mem) =>
                      wp d m_M_allBefore [.inr (.inr 49)] s26 (fun (r27 : Int) (s28 : Mem) =>
                        wp d m_M_fraction [.inr (.inl (w64 (r23 + r25))), .inr (.inl (w64 (60 * r27))), .inl a3] s28 (fun (r29 : Int) (s30 : Mem) => Q r29 s30)))))))))))))) : wp (d + 1) m_M_hear [.inr (.inr 49), .inl a1, .inl a2, .inl a3] σ Q := wp_in rfl (XX_intro (g_M_hear (call := wp d) (cut := XX none (wp d) c_M_hear false Q) (Q := Q) (a1 := a1) (a2 := a2) (a3 := a3) (σ := σ) (h)))
theorem g_M_knows {call : Nat → List AV → Mem → (Int → Mem → Prop) → Prop} {cut : Nat → Lo → List AV → Mem → Prop} {Q : Int → Mem → Prop} {a1 : Int} {a2 : Int} {a3 : Int} {a4 : Int} {σ : Mem} (h :
  call m_M_isPart [.inl a4] σ (fun (r1 : Int) (s2 : Mem) =>
  (r1 = 0 →
      call m_M_refuseFar [.inr (.inr 49), .inl (-2)] s2 (fun (r25 : Int) (s26 : Mem) => Q r25 s26)) ∧
    (¬ r1 = 0 →
      ((s2 49 0) = 0 →
        call m_M_refuseFar [.inr (.inr 49), .inl (-3)] s2 (fun (r23 : Int) (s24 : Mem) => Q r23 s24)) ∧
      (¬ (s2 49 0) = 0 →
        call m_M_isLook [.inr (.inr 49), .inl a1] s2 (fun (r3 : Int) (s4 : Mem) =>
        (r3 = 0 →
            call m_M_refuseFar [.inr (.inr 49), .inl (-1)] s4 (fun (r5 : Int) (s6 : Mem) => Q r5 s6)) ∧
          (¬ r3 = 0 →
            call m_M_isLook [.inr (.inr 49), .inl a2] s4 (fun (r7 : Int) (s8 : Mem) =>
            (r7 = 0 →
                call m_M_refuseFar [.inr (.inr 49), .inl (-1)] s8 (fun (r21 : Int) (s22 : Mem) => Q r21 s22)) ∧
              (¬ r7 = 0 →
                (0 ≤ (0 : Int) ∧ 0 < (3 : Int)) ∧ (0 ≤ (1 : Int) ∧ 1 < (3 : Int)) ∧ (a3 = 0 →
                  call m_M_gotTogether [.inr (.inr 49), .inl 1] (mset (mset (mset s8 49 48 2) 76 0 a1) 76 1 a2) (fun (r9 : Int) (s10 : Mem) =>
                  call m_M_allBefore [.inr (.inr 49)] s10 (fun (r11 : Int) (s12 : Mem) =>
                    call m_M_fraction [.inr (.inl r9), .inr (.inl (w64 (3600 * r11))), .inl a4] s12 (fun (r13 : Int) (s14 : Mem) => Q r13 s14)))) ∧
                (¬ a3 = 0 →
                  call m_M_gotTogether [.inr (.inr 49), .inl 0] (mset (mset (mset s8 49 48 2) 76 0 a1) 76 1 a2) (fun (r15 : Int) (s16 : Mem) =>
                  call m_M_allBefore [.inr (.inr 49)] s16 (fun (r17 : Int) (s18 : Mem) =>
                    call m_M_fraction [.inr (.inl r15), .inr (.inl (w64 (3600 * r17))), .inl a4] s18 (fun (r19 : Int) (s20 : Mem) => Q r19 s20)))))))))))) : seg none call c_M_knows false Q cut 2000 true (toPc 0 c_M_knows) [some (.inr (.inr 49)), some (.inl a1), some (.inl a2), some (.inl a3), some (.inl a4)] [] σ := h
theorem e_M_knows {d : Nat} {Q : Int → Mem → Prop} {a1 : Int} {a2 : Int} {a3 : Int} {a4 : Int} {σ : Mem} (h :
  wp d m_M_isPart [.inl a4] σ (fun (r1 : Int) (s2 : Mem) =>
  (r1 = 0 →
      wp d m_M_refuseFar [.inr (.inr 49), .inl (-2)] s2 (fun (r25 : Int) (s26 : Mem) => Q r25 s26)) ∧
    (¬ r1 = 0 →
      ((s2 49 0) = 0 →
        wp d m_M_refuseFar [.inr (.inr 49), .inl (-3)] s2 (fun (r23 : Int) (s24 : Mem) => Q r23 s24)) ∧
      (¬ (s2 49 0) = 0 →
        wp d m_M_isLook [.inr (.inr 49), .inl a1] s2 (fun (r3 : Int) (s4 : Mem) =>
        (r3 = 0 →
            wp d m_M_refuseFar [.inr (.inr 49), .inl (-1)] s4 (fun (r5 : Int) (s6 : Mem) => Q r5 s6)) ∧
          (¬ r3 = 0 →
            wp d m_M_isLook [.inr (.inr 49), .inl a2] s4 (fun (r7 : Int) (s8 : Mem) =>
            (r7 = 0 →
                wp d m_M_refuseFar [.inr (.inr 49), .inl (-1)] s8 (fun (r21 : Int) (s22 : Mem) => Q r21 s22)) ∧
              (¬ r7 = 0 →
                (a3 = 0 →
                  wp d m_M_gotTogether [.inr (.inr 49), .inl 1] (mset (mset (mset s8 49 48 2) 76 0 a1) 76 1 a2) (fun (r9 : Int) (s10 : Mem) =>
                  wp d m_M_allBefore [.inr (.inr 49)] s10 (fun (r11 : Int) (s12 : Mem) =>
                    wp d m_M_fraction [.inr (.inl r9), .inr (.inl (w64 (3600 * r11))), .inl a4] s12 (fun (r13 : Int) (s14 : Mem) => Q r13 s14)))) ∧
                (¬ a3 = 0 →
                  wp d m_M_gotTogether [.inr (.inr 49), .inl 0] (mset (mset (mset s8 49 48 2) 76 0 a1) 76 1 a2) (fun (r15 : Int) (s16 : Mem) =>
                  wp d m_M_allBefore [.inr (.inr 49)] s16 (fun (r17 : Int) (s18 : Mem) =>
                    wp d m_M_fraction [.inr (.inl r15), .inr (.inl (w64 (3600 * r17))), .inl a4] s18 (fun (r19 : Int) (s20 : Mem) => Q r19 s20)))))))))))) : wp (d + 1) m_M_knows [.inr (.inr 49), .inl a1, .inl a2, .inl a3, .inl a4] σ Q := wp_in rfl (XX_intro (g_M_knows (call := wp d) (cut := XX none (wp d) c_M_knows false Q) (Q := Q) (a1 := a1) (a2 := a2) (a3 := a3) (a4 := a4) (σ := σ) (wp_conseq (fun _ _ z7 => ⟨fun z6 => (z7).1 z6, fun z6 => ⟨fun z5 => (((z7).2 z6)).1 z5, fun z5 => wp_conseq (fun _ _ z4 => ⟨fun z3 => (z4).1 z3, fun z3 => wp_conseq (fun _ _ z2 => ⟨fun z1 => (z2).1 z1, fun z1 => ⟨⟨by decide, by decide⟩, ⟨⟨by decide, by decide⟩, ((z2).2 z1)⟩⟩⟩) (((z4).2 z3))⟩) (((((z7).2 z6)).2 z5))⟩⟩) (h))))
abbrev K_M_findRivals_2 (d : Nat) (Q : Int → Mem → Prop) (x1 : Int) (σ : Mem) : Prop := XX none (wp d) c_M_findRivals false Q 2 [some (.inr (.inr 49)), some (.inl x1), none] [] σ
abbrev K_M_findRivals_12 (d : Nat) (Q : Int → Mem → Prop) (x1 : Int) (x2 : Int) (σ : Mem) : Prop := XX none (wp d) c_M_findRivals false Q 12 [some (.inr (.inr 49)), some (.inl x1), some (.inl x2)] [] σ
theorem g_M_findRivals {call : Nat → List AV → Mem → (Int → Mem → Prop) → Prop} {cut : Nat → Lo → List AV → Mem → Prop} {Q : Int → Mem → Prop}  {σ : Mem} (h :
  cut 2 [some (.inr (.inr 49)), some (.inl 0), none] [] σ) : seg none call c_M_findRivals false Q cut 2000 true (toPc 0 c_M_findRivals) [some (.inr (.inr 49)), none, none] [] σ := h
theorem e_M_findRivals {d : Nat} {Q : Int → Mem → Prop}  {σ : Mem} (h :
  K_M_findRivals_2 d Q 0 σ) : wp (d + 1) m_M_findRivals [.inr (.inr 49)] σ Q := wp_in rfl (XX_intro (g_M_findRivals (call := wp d) (cut := XX none (wp d) c_M_findRivals false Q) (Q := Q)  (σ := σ) (h)))
theorem g_M_findRivals_2 {call : Nat → List AV → Mem → (Int → Mem → Prop) → Prop} {cut : Nat → Lo → List AV → Mem → Prop} {Q : Int → Mem → Prop} {x1 : Int} {σ : Mem} (h :
  ((σ 49 9) < x1 → Q 0 σ) ∧
  (x1 ≤ (σ 49 9) → cut 12 [some (.inr (.inr 49)), some (.inl x1), some (.inl 0)] [] σ)) : seg none call c_M_findRivals false Q cut 2000 true (toPc 2 c_M_findRivals) [some (.inr (.inr 49)), some (.inl x1), none] [] σ := h
theorem e_M_findRivals_2 {d : Nat} {Q : Int → Mem → Prop} {x1 : Int} {σ : Mem} (h :
  ((σ 49 9) < x1 → Q 0 σ) ∧
  (x1 ≤ (σ 49 9) → K_M_findRivals_12 d Q x1 0 σ)) : K_M_findRivals_2 d Q x1 σ := XX_intro (g_M_findRivals_2 (call := wp d) (cut := XX none (wp d) c_M_findRivals false Q) (Q := Q) (x1 := x1) (σ := σ) (h))
theorem g_M_findRivals_12 {call : Nat → List AV → Mem → (Int → Mem → Prop) → Prop} {cut : Nat → Lo → List AV → Mem → Prop} {Q : Int → Mem → Prop} {x1 : Int} {x2 : Int} {σ : Mem} (h :
  ((σ 49 9) < x2 → cut 2 [some (.inr (.inr 49)), some (.inl (w32 (x1 + 1))), none] [] σ) ∧
  (x2 ≤ (σ 49 9) →
    (0 < x1 →
      (0 ≤ (w32 (x1 - 1)) ∧ (w32 (x1 - 1)) < (6 : Int)) ∧ (0 ≤ ((mset σ 49 48 0) 49 48) ∧ ((mset σ 49 48 0) 49 48) < (3 : Int)) ∧ (0 < x2 →
        (0 ≤ (w32 (x2 - 1)) ∧ (w32 (x2 - 1)) < (6 : Int)) ∧ (0 ≤ ((mset (mset (mset σ 49 48 0) 76 ((mset σ 49 48 0) 49 48).toNat ((mset σ 49 48 0) 55 (w32 (x1 - 1)).toNat)) 49 48 (w32 (((mset (mset σ 49 48 0) 76 ((mset σ 49 48 0) 49 48).toNat ((mset σ 49 48 0) 55 (w32 (x1 - 1)).toNat)) 49 48) + 1))) 49 48) ∧ ((mset (mset (mset σ 49 48 0) 76 ((mset σ 49 48 0) 49 48).toNat ((mset σ 49 48 0) 55 (w32 (x1 - 1)).toNat)) 49 48 (w32 (((mset (mset σ 49 48 0) 76 ((mset σ 49 48 0) 49 48).toNat ((mset σ 49 48 0) 55 (w32 (x1 - 1)).toNat)) 49 48) + 1))) 49 48) < (3 : Int)) ∧ call m_M_gotTogether [.inr (.inr 49), .inl 1] (mset (mset (mset (mset (mset σ 49 48 0) 76 ((mset σ 49 48 0) 49 48).toNat ((mset σ 49 48 0) 55 (w32 (x1 - 1)).toNat)) 49 48 (w32 (((mset (mset σ 49 48 0) 76 ((mset σ 49 48 0) 49 48).toNat ((mset σ 49 48 0) 55 (w32 (x1 - 1)).toNat)) 49 48) + 1))) 76 ((mset (mset (mset σ 49 48 0) 76 ((mset σ 49 48 0) 49 48).toNat ((mset σ 49 48 0) 55 (w32 (x1 - 1)).toNat)) 49 48 (w32 (((mset (mset σ 49 48 0) 76 ((mset σ 49 48 0) 49 48).toNat ((mset σ 49 48 0) 55 (w32 (x1 - 1)).toNat)) 49 48) + 1))) 49 48).toNat ((mset (mset (mset σ 49 48 0) 76 ((mset σ 49 48 0) 49 48).toNat ((mset σ 49 48 0) 55 (w32 (x1 - 1)).toNat)) 49 48 (w32 (((mset (mset σ 49 48 0) 76 ((mset σ 49 48 0) 49 48).toNat ((mset σ 49 48 0) 55 (w32 (x1 - 1)).toNat)) 49 48) + 1))) 55 (w32 (x2 - 1)).toNat)) 49 48 (w32 (((mset (mset (mset (mset σ 49 48 0) 76 ((mset σ 49 48 0) 49 48).toNat ((mset σ 49 48 0) 55 (w32 (x1 - 1)).toNat)) 49 48 (w32 (((mset (mset σ 49 48 0) 76 ((mset σ 49 48 0) 49 48).toNat ((mset σ 49 48 0) 55 (w32 (x1 - 1)).toNat)) 49 48) + 1))) 76 ((mset (mset (mset σ 49 48 0) 76 ((mset σ 49 48 0) 49 48).toNat ((mset σ 49 48 0) 55 (w32 (x1 - 1)).toNat)) 49 48 (w32 (((mset (mset σ 49 48 0) 76 ((mset σ 49 48 0) 49 48).toNat ((mset σ 49 48 0) 55 (w32 (x1 - 1)).toNat)) 49 48) + 1))) 49 48).toNat ((mset (mset (mset σ 49 48 0) 76 ((mset σ 49 48 0) 49 48).toNat ((mset σ 49 48 0) 55 (w32 (x1 - 1)).toNat)) 49 48 (w32 (((mset (mset σ 49 48 0) 76 ((mset σ 49 48 0) 49 48).toNat ((mset σ 49 48 0) 55 (w32 (x1 - 1)).toNat)) 49 48) + 1))) 55 (w32 (x2 - 1)).toNat)) 49 48) + 1))) (fun (r13 : Int) (s14 : Mem) =>
        call m_M_power [.inl (w32 (2 - (s14 49 48)))] s14 (fun (r15 : Int) (s16 : Mem) =>
          (0 ≤ (w32 ((w32 (7 * x1)) + x2)) ∧ (w32 ((w32 (7 * x1)) + x2)) < (49 : Int)) ∧ cut 12 [some (.inr (.inr 49)), some (.inl x1), some (.inl (w32 (x2 + 1)))] [] (mset s16 77 (w32 ((w32 (7 * x1)) + x2)).toNat (w64 (r13 * r15)))))) ∧
      (x2 ≤ 0 →
        call m_M_gotTogether [.inr (.inr 49), .inl 1] (mset (mset (mset σ 49 48 0) 76 ((mset σ 49 48 0) 49 48).toNat ((mset σ 49 48 0) 55 (w32 (x1 - 1)).toNat)) 49 48 (w32 (((mset (mset σ 49 48 0) 76 ((mset σ 49 48 0) 49 48).toNat ((mset σ 49 48 0) 55 (w32 (x1 - 1)).toNat)) 49 48) + 1))) (fun (r9 : Int) (s10 : Mem) =>
        call m_M_power [.inl (w32 (2 - (s10 49 48)))] s10 (fun (r11 : Int) (s12 : Mem) =>
          (0 ≤ (w32 ((w32 (7 * x1)) + x2)) ∧ (w32 ((w32 (7 * x1)) + x2)) < (49 : Int)) ∧ cut 12 [some (.inr (.inr 49)), some (.inl x1), some (.inl (w32 (x2 + 1)))] [] (mset s12 77 (w32 ((w32 (7 * x1)) + x2)).toNat (w64 (r9 * r11))))))) ∧
    (x1 ≤ 0 →
      (0 < x2 →
        (0 ≤ (w32 (x2 - 1)) ∧ (w32 (x2 - 1)) < (6 : Int)) ∧ (0 ≤ ((mset σ 49 48 0) 49 48) ∧ ((mset σ 49 48 0) 49 48) < (3 : Int)) ∧ call m_M_gotTogether [.inr (.inr 49), .inl 1] (mset (mset (mset σ 49 48 0) 76 ((mset σ 49 48 0) 49 48).toNat ((mset σ 49 48 0) 55 (w32 (x2 - 1)).toNat)) 49 48 (w32 (((mset (mset σ 49 48 0) 76 ((mset σ 49 48 0) 49 48).toNat ((mset σ 49 48 0) 55 (w32 (x2 - 1)).toNat)) 49 48) + 1))) (fun (r5 : Int) (s6 : Mem) =>
        call m_M_power [.inl (w32 (2 - (s6 49 48)))] s6 (fun (r7 : Int) (s8 : Mem) =>
          (0 ≤ (w32 ((w32 (7 * x1)) + x2)) ∧ (w32 ((w32 (7 * x1)) + x2)) < (49 : Int)) ∧ cut 12 [some (.inr (.inr 49)), some (.inl x1), some (.inl (w32 (x2 + 1)))] [] (mset s8 77 (w32 ((w32 (7 * x1)) + x2)).toNat (w64 (r5 * r7)))))) ∧
      (x2 ≤ 0 →
        call m_M_gotTogether [.inr (.inr 49), .inl 1] (mset σ 49 48 0) (fun (r1 : Int) (s2 : Mem) =>
        call m_M_power [.inl (w32 (2 - (s2 49 48)))] s2 (fun (r3 : Int) (s4 : Mem) =>
          (0 ≤ (w32 ((w32 (7 * x1)) + x2)) ∧ (w32 ((w32 (7 * x1)) + x2)) < (49 : Int)) ∧ cut 12 [some (.inr (.inr 49)), some (.inl x1), some (.inl (w32 (x2 + 1)))] [] (mset s4 77 (w32 ((w32 (7 * x1)) + x2)).toNat (w64 (r1 * r3))))))))) : seg none call c_M_findRivals false Q cut 2000 true (toPc 12 c_M_findRivals) [some (.inr (.inr 49)), some (.inl x1), some (.inl x2)] [] σ := h
theorem e_M_findRivals_12 {d : Nat} {Q : Int → Mem → Prop} {x1 : Int} {x2 : Int} {σ : Mem} (h :
  ((σ 49 9) < x2 → K_M_findRivals_2 d Q (w32 (x1 + 1)) σ) ∧
  (x2 ≤ (σ 49 9) →
    (0 < x1 →
      (0 ≤ (w32 (x1 - 1)) ∧ (w32 (x1 - 1)) < (6 : Int)) ∧ (0 ≤ ((mset σ 49 48 0) 49 48) ∧ ((mset σ 49 48 0) 49 48) < (3 : Int)) ∧ (0 < x2 →
        (0 ≤ (w32 (x2 - 1)) ∧ (w32 (x2 - 1)) < (6 : Int)) ∧ (0 ≤ ((mset (mset (mset σ 49 48 0) 76 ((mset σ 49 48 0) 49 48).toNat ((mset σ 49 48 0) 55 (w32 (x1 - 1)).toNat)) 49 48 (w32 (((mset (mset σ 49 48 0) 76 ((mset σ 49 48 0) 49 48).toNat ((mset σ 49 48 0) 55 (w32 (x1 - 1)).toNat)) 49 48) + 1))) 49 48) ∧ ((mset (mset (mset σ 49 48 0) 76 ((mset σ 49 48 0) 49 48).toNat ((mset σ 49 48 0) 55 (w32 (x1 - 1)).toNat)) 49 48 (w32 (((mset (mset σ 49 48 0) 76 ((mset σ 49 48 0) 49 48).toNat ((mset σ 49 48 0) 55 (w32 (x1 - 1)).toNat)) 49 48) + 1))) 49 48) < (3 : Int)) ∧ wp d m_M_gotTogether [.inr (.inr 49), .inl 1] (mset (mset (mset (mset (mset σ 49 48 0) 76 ((mset σ 49 48 0) 49 48).toNat ((mset σ 49 48 0) 55 (w32 (x1 - 1)).toNat)) 49 48 (w32 (((mset (mset σ 49 48 0) 76 ((mset σ 49 48 0) 49 48).toNat ((mset σ 49 48 0) 55 (w32 (x1 - 1)).toNat)) 49 48) + 1))) 76 ((mset (mset (mset σ 49 48 0) 76 ((mset σ 49 48 0) 49 48).toNat ((mset σ 49 48 0) 55 (w32 (x1 - 1)).toNat)) 49 48 (w32 (((mset (mset σ 49 48 0) 76 ((mset σ 49 48 0) 49 48).toNat ((mset σ 49 48 0) 55 (w32 (x1 - 1)).toNat)) 49 48) + 1))) 49 48).toNat ((mset (mset (mset σ 49 48 0) 76 ((mset σ 49 48 0) 49 48).toNat ((mset σ 49 48 0) 55 (w32 (x1 - 1)).toNat)) 49 48 (w32 (((mset (mset σ 49 48 0) 76 ((mset σ 49 48 0) 49 48).toNat ((mset σ 49 48 0) 55 (w32 (x1 - 1)).toNat)) 49 48) + 1))) 55 (w32 (x2 - 1)).toNat)) 49 48 (w32 (((mset (mset (mset (mset σ 49 48 0) 76 ((mset σ 49 48 0) 49 48).toNat ((mset σ 49 48 0) 55 (w32 (x1 - 1)).toNat)) 49 48 (w32 (((mset (mset σ 49 48 0) 76 ((mset σ 49 48 0) 49 48).toNat ((mset σ 49 48 0) 55 (w32 (x1 - 1)).toNat)) 49 48) + 1))) 76 ((mset (mset (mset σ 49 48 0) 76 ((mset σ 49 48 0) 49 48).toNat ((mset σ 49 48 0) 55 (w32 (x1 - 1)).toNat)) 49 48 (w32 (((mset (mset σ 49 48 0) 76 ((mset σ 49 48 0) 49 48).toNat ((mset σ 49 48 0) 55 (w32 (x1 - 1)).toNat)) 49 48) + 1))) 49 48).toNat ((mset (mset (mset σ 49 48 0) 76 ((mset σ 49 48 0) 49 48).toNat ((mset σ 49 48 0) 55 (w32 (x1 - 1)).toNat)) 49 48 (w32 (((mset (mset σ 49 48 0) 76 ((mset σ 49 48 0) 49 48).toNat ((mset σ 49 48 0) 55 (w32 (x1 - 1)).toNat)) 49 48) + 1))) 55 (w32 (x2 - 1)).toNat)) 49 48) + 1))) (fun (r13 : Int) (s14 : Mem) =>
        wp d m_M_power [.inl (w32 (2 - (s14 49 48)))] s14 (fun (r15 : Int) (s16 : Mem) =>
          (0 ≤ (w32 ((w32 (7 * x1)) + x2)) ∧ (w32 ((w32 (7 * x1)) + x2)) < (49 : Int)) ∧ K_M_findRivals_12 d Q x1 (w32 (x2 + 1)) (mset s16 77 (w32 ((w32 (7 * x1)) + x2)).toNat (w64 (r13 * r15)))))) ∧
      (x2 ≤ 0 →
        wp d m_M_gotTogether [.inr (.inr 49), .inl 1] (mset (mset (mset σ 49 48 0) 76 ((mset σ 49 48 0) 49 48).toNat ((mset σ 49 48 0) 55 (w32 (x1 - 1)).toNat)) 49 48 (w32 (((mset (mset σ 49 48 0) 76 ((mset σ 49 48 0) 49 48).toNat ((mset σ 49 48 0) 55 (w32 (x1 - 1)).toNat)) 49 48) + 1))) (fun (r9 : Int) (s10 : Mem) =>
        wp d m_M_power [.inl (w32 (2 - (s10 49 48)))] s10 (fun (r11 : Int) (s12 : Mem) =>
          (0 ≤ (w32 ((w32 (7 * x1)) + x2)) ∧ (w32 ((w32 (7 * x1)) + x2)) < (49 : Int)) ∧ K_M_findRivals_12 d Q x1 (w32 (x2 + 1)) (mset s12 77 (w32 ((w32 (7 * x1)) + x2)).toNat (w64 (r9 * r11))))))) ∧
    (x1 ≤ 0 →
      (0 < x2 →
        (0 ≤ (w32 (x2 - 1)) ∧ (w32 (x2 - 1)) < (6 : Int)) ∧ (0 ≤ ((mset σ 49 48 0) 49 48) ∧ ((mset σ 49 48 0) 49 48) < (3 : Int)) ∧ wp d m_M_gotTogether [.inr (.inr 49), .inl 1] (mset (mset (mset σ 49 48 0) 76 ((mset σ 49 48 0) 49 48).toNat ((mset σ 49 48 0) 55 (w32 (x2 - 1)).toNat)) 49 48 (w32 (((mset (mset σ 49 48 0) 76 ((mset σ 49 48 0) 49 48).toNat ((mset σ 49 48 0) 55 (w32 (x2 - 1)).toNat)) 49 48) + 1))) (fun (r5 : Int) (s6 : Mem) =>
        wp d m_M_power [.inl (w32 (2 - (s6 49 48)))] s6 (fun (r7 : Int) (s8 : Mem) =>
          (0 ≤ (w32 ((w32 (7 * x1)) + x2)) ∧ (w32 ((w32 (7 * x1)) + x2)) < (49 : Int)) ∧ K_M_findRivals_12 d Q x1 (w32 (x2 + 1)) (mset s8 77 (w32 ((w32 (7 * x1)) + x2)).toNat (w64 (r5 * r7)))))) ∧
      (x2 ≤ 0 →
        wp d m_M_gotTogether [.inr (.inr 49), .inl 1] (mset σ 49 48 0) (fun (r1 : Int) (s2 : Mem) =>
        wp d m_M_power [.inl (w32 (2 - (s2 49 48)))] s2 (fun (r3 : Int) (s4 : Mem) =>
          (0 ≤ (w32 ((w32 (7 * x1)) + x2)) ∧ (w32 ((w32 (7 * x1)) + x2)) < (49 : Int)) ∧ K_M_findRivals_12 d Q x1 (w32 (x2 + 1)) (mset s4 77 (w32 ((w32 (7 * x1)) + x2)).toNat (w64 (r1 * r3))))))))) : K_M_findRivals_12 d Q x1 x2 σ := XX_intro (g_M_findRivals_12 (call := wp d) (cut := XX none (wp d) c_M_findRivals false Q) (Q := Q) (x1 := x1) (x2 := x2) (σ := σ) (h))
theorem g_M_mayChoose {call : Nat → List AV → Mem → (Int → Mem → Prop) → Prop} {cut : Nat → Lo → List AV → Mem → Prop} {Q : Int → Mem → Prop} {a0 : Int} {a1 : Int} {σ : Mem} (h :
  (a1 = 0 → isB 1 ∧ Q 1 σ) ∧
  (¬ a1 = 0 →
    ((andI (shrI a0 (w32 (a1 - 1))) 1) = 1 → isB 1 ∧ Q 1 σ) ∧
    (¬ (andI (shrI a0 (w32 (a1 - 1))) 1) = 1 → isB 0 ∧ Q 0 σ))) : seg none call c_M_mayChoose true Q cut 2000 true (toPc 0 c_M_mayChoose) [some (.inl a0), some (.inl a1)] [] σ := h
theorem e_M_mayChoose {d : Nat} {Q : Int → Mem → Prop} {a0 : Int} {a1 : Int} {σ : Mem} (h :
  (a1 = 0 → Q 1 σ) ∧
  (¬ a1 = 0 →
    ((andI (shrI a0 (w32 (a1 - 1))) 1) = 1 → Q 1 σ) ∧
    (¬ (andI (shrI a0 (w32 (a1 - 1))) 1) = 1 → Q 0 σ))) : wp (d + 1) m_M_mayChoose [.inl a0, .inl a1] σ Q := wp_in rfl (XX_intro (g_M_mayChoose (call := wp d) (cut := XX none (wp d) c_M_mayChoose true Q) (Q := Q) (a0 := a0) (a1 := a1) (σ := σ) (⟨fun z2 => ⟨isB1, ((h).1 z2)⟩, fun z2 => ⟨fun z1 => ⟨isB1, ((((h).2 z2)).1 z1)⟩, fun z1 => ⟨isB0, ((((h).2 z2)).2 z1)⟩⟩⟩)))
abbrev K_M_isRest_27 (d : Nat) (Q : Int → Mem → Prop) (x1 : Int) (x2 : Int) (x3 : Int) (x4 : Int) (x5 : Int) (x6 : Int) (σ : Mem) : Prop := XX none (wp d) c_M_isRest true Q 27 [some (.inr (.inr 49)), some (.inl x1), some (.inl x2), some (.inl x3), some (.inl x4), some (.inl x5), some (.inl x6)] [] σ
theorem g_M_isRest {call : Nat → List AV → Mem → (Int → Mem → Prop) → Prop} {cut : Nat → Lo → List AV → Mem → Prop} {Q : Int → Mem → Prop} {a1 : Int} {a2 : Int} {a3 : Int} {a4 : Int} {σ : Mem} (h :
  call m_M_mayChoose [.inl a1, .inl a3] σ (fun (r1 : Int) (s2 : Mem) =>
  (r1 = 0 →
      cut 27 [some (.inr (.inr 49)), some (.inl a1), some (.inl a2), some (.inl a3), some (.inl a4), some (.inl 0), some (.inl 0)] [] s2) ∧
    (¬ r1 = 0 →
      call m_M_mayChoose [.inl a2, .inl a4] s2 (fun (r3 : Int) (s4 : Mem) =>
      (r3 = 0 →
          cut 27 [some (.inr (.inr 49)), some (.inl a1), some (.inl a2), some (.inl a3), some (.inl a4), some (.inl 0), some (.inl 0)] [] s4) ∧
        (¬ r3 = 0 →
          cut 27 [some (.inr (.inr 49)), some (.inl a1), some (.inl a2), some (.inl a3), some (.inl a4), some (.inl 1), some (.inl 0)] [] s4))))) : seg none call c_M_isRest true Q cut 2000 true (toPc 0 c_M_isRest) [some (.inr (.inr 49)), some (.inl a1), some (.inl a2), some (.inl a3), some (.inl a4), none, none] [] σ := h
theorem e_M_isRest {d : Nat} {Q : Int → Mem → Prop} {a1 : Int} {a2 : Int} {a3 : Int} {a4 : Int} {σ : Mem} (h :
  wp d m_M_mayChoose [.inl a1, .inl a3] σ (fun (r1 : Int) (s2 : Mem) =>
  (r1 = 0 → K_M_isRest_27 d Q a1 a2 a3 a4 0 0 s2) ∧
    (¬ r1 = 0 →
      wp d m_M_mayChoose [.inl a2, .inl a4] s2 (fun (r3 : Int) (s4 : Mem) =>
      (r3 = 0 → K_M_isRest_27 d Q a1 a2 a3 a4 0 0 s4) ∧
        (¬ r3 = 0 → K_M_isRest_27 d Q a1 a2 a3 a4 1 0 s4))))) : wp (d + 1) m_M_isRest [.inr (.inr 49), .inl a1, .inl a2, .inl a3, .inl a4] σ Q := wp_in rfl (XX_intro (g_M_isRest (call := wp d) (cut := XX none (wp d) c_M_isRest true Q) (Q := Q) (a1 := a1) (a2 := a2) (a3 := a3) (a4 := a4) (σ := σ) (h)))
theorem g_M_isRest_27 {call : Nat → List AV → Mem → (Int → Mem → Prop) → Prop} {cut : Nat → Lo → List AV → Mem → Prop} {Q : Int → Mem → Prop} {x1 : Int} {x2 : Int} {x3 : Int} {x4 : Int} {x5 : Int} {x6 : Int} {σ : Mem} (h :
  ((σ 49 9) < x6 → isB x5 ∧ Q x5 σ) ∧
  (x6 ≤ (σ 49 9) →
    (x5 = 0 → isB x5 ∧ Q x5 σ) ∧
    (¬ x5 = 0 →
      call m_M_mayChoose [.inl x1, .inl x6] σ (fun (r1 : Int) (s2 : Mem) =>
      (r1 = 0 →
          call m_M_mayChoose [.inl x2, .inl x6] s2 (fun (r3 : Int) (s4 : Mem) =>
          (r3 = 0 →
              cut 27 [some (.inr (.inr 49)), some (.inl x1), some (.inl x2), some (.inl x3), some (.inl x4), some (.inl 1), some (.inl (w32 (x6 + 1)))] [] s4) ∧
            (¬ r3 = 0 →
              (0 ≤ (w32 ((w32 (7 * x3)) + x6)) ∧ (w32 ((w32 (7 * x3)) + x6)) < (49 : Int)) ∧ (0 ≤ (w32 ((w32 (7 * x3)) + x4)) ∧ (w32 ((w32 (7 * x3)) + x4)) < (49 : Int)) ∧ ((s4 77 (w32 ((w32 (7 * x3)) + x6)).toNat) < (s4 77 (w32 ((w32 (7 * x3)) + x4)).toNat) →
                cut 27 [some (.inr (.inr 49)), some (.inl x1), some (.inl x2), some (.inl x3), some (.inl x4), some (.inl 0), some (.inl (w32 (x6 + 1)))] [] s4) ∧
              ((s4 77 (w32 ((w32 (7 * x3)) + x4)).toNat) ≤ (s4 77 (w32 ((w32 (7 * x3)) + x6)).toNat) →
                cut 27 [some (.inr (.inr 49)), some (.inl x1), some (.inl x2), some (.inl x3), some (.inl x4), some (.inl 1), some (.inl (w32 (x6 + 1)))] [] s4)))) ∧
        (¬ r1 = 0 →
          (0 ≤ (w32 ((w32 (7 * x6)) + x4)) ∧ (w32 ((w32 (7 * x6)) + x4)) < (49 : Int)) ∧ (0 ≤ (w32 ((w32 (7 * x3)) + x4)) ∧ (w32 ((w32 (7 * x3)) + x4)) < (49 : Int)) ∧ ((s2 77 (w32 ((w32 (7 * x3)) + x4)).toNat) < (s2 77 (w32 ((w32 (7 * x6)) + x4)).toNat) →
            cut 27 [some (.inr (.inr 49)), some (.inl x1), some (.inl x2), some (.inl x3), some (.inl x4), some (.inl 0), some (.inl (w32 (x6 + 1)))] [] s2) ∧
          ((s2 77 (w32 ((w32 (7 * x6)) + x4)).toNat) ≤ (s2 77 (w32 ((w32 (7 * x3)) + x4)).toNat) →
            call m_M_mayChoose [.inl x2, .inl x6] s2 (fun (r5 : Int) (s6 : Mem) =>
            (r5 = 0 →
                cut 27 [some (.inr (.inr 49)), some (.inl x1), some (.inl x2), some (.inl x3), some (.inl x4), some (.inl 1), some (.inl (w32 (x6 + 1)))] [] s6) ∧
              (¬ r5 = 0 →
                (0 ≤ (w32 ((w32 (7 * x3)) + x6)) ∧ (w32 ((w32 (7 * x3)) + x6)) < (49 : Int)) ∧ (0 ≤ (w32 ((w32 (7 * x3)) + x4)) ∧ (w32 ((w32 (7 * x3)) + x4)) < (49 : Int)) ∧ ((s6 77 (w32 ((w32 (7 * x3)) + x6)).toNat) < (s6 77 (w32 ((w32 (7 * x3)) + x4)).toNat) →
                  cut 27 [some (.inr (.inr 49)), some (.inl x1), some (.inl x2), some (.inl x3), some (.inl x4), some (.inl 0), some (.inl (w32 (x6 + 1)))] [] s6) ∧
                ((s6 77 (w32 ((w32 (7 * x3)) + x4)).toNat) ≤ (s6 77 (w32 ((w32 (7 * x3)) + x6)).toNat) →
                  cut 27 [some (.inr (.inr 49)), some (.inl x1), some (.inl x2), some (.inl x3), some (.inl x4), some (.inl 1), some (.inl (w32 (x6 + 1)))] [] s6))))))))) : seg none call c_M_isRest true Q cut 2000 true (toPc 27 c_M_isRest) [some (.inr (.inr 49)), some (.inl x1), some (.inl x2), some (.inl x3), some (.inl x4), some (.inl x5), some (.inl x6)] [] σ := h
theorem e_M_isRest_27 {d : Nat} {Q : Int → Mem → Prop} {x1 : Int} {x2 : Int} {x3 : Int} {x4 : Int} {x5 : Int} {x6 : Int} {σ : Mem} (h :
  ((σ 49 9) < x6 → isB x5 ∧ Q x5 σ) ∧
  (x6 ≤ (σ 49 9) →
    (x5 = 0 → isB x5 ∧ Q x5 σ) ∧
    (¬ x5 = 0 →
      wp d m_M_mayChoose [.inl x1, .inl x6] σ (fun (r1 : Int) (s2 : Mem) =>
      (r1 = 0 →
          wp d m_M_mayChoose [.inl x2, .inl x6] s2 (fun (r3 : Int) (s4 : Mem) =>
          (r3 = 0 → K_M_isRest_27 d Q x1 x2 x3 x4 1 (w32 (x6 + 1)) s4) ∧
            (¬ r3 = 0 →
              (0 ≤ (w32 ((w32 (7 * x3)) + x6)) ∧ (w32 ((w32 (7 * x3)) + x6)) < (49 : Int)) ∧ (0 ≤ (w32 ((w32 (7 * x3)) + x4)) ∧ (w32 ((w32 (7 * x3)) + x4)) < (49 : Int)) ∧ ((s4 77 (w32 ((w32 (7 * x3)) + x6)).toNat) < (s4 77 (w32 ((w32 (7 * x3)) + x4)).toNat) → K_M_isRest_27 d Q x1 x2 x3 x4 0 (w32 (x6 + 1)) s4) ∧
              ((s4 77 (w32 ((w32 (7 * x3)) + x4)).toNat) ≤ (s4 77 (w32 ((w32 (7 * x3)) + x6)).toNat) → K_M_isRest_27 d Q x1 x2 x3 x4 1 (w32 (x6 + 1)) s4)))) ∧
        (¬ r1 = 0 →
          (0 ≤ (w32 ((w32 (7 * x6)) + x4)) ∧ (w32 ((w32 (7 * x6)) + x4)) < (49 : Int)) ∧ (0 ≤ (w32 ((w32 (7 * x3)) + x4)) ∧ (w32 ((w32 (7 * x3)) + x4)) < (49 : Int)) ∧ ((s2 77 (w32 ((w32 (7 * x3)) + x4)).toNat) < (s2 77 (w32 ((w32 (7 * x6)) + x4)).toNat) → K_M_isRest_27 d Q x1 x2 x3 x4 0 (w32 (x6 + 1)) s2) ∧
          ((s2 77 (w32 ((w32 (7 * x6)) + x4)).toNat) ≤ (s2 77 (w32 ((w32 (7 * x3)) + x4)).toNat) →
            wp d m_M_mayChoose [.inl x2, .inl x6] s2 (fun (r5 : Int) (s6 : Mem) =>
            (r5 = 0 → K_M_isRest_27 d Q x1 x2 x3 x4 1 (w32 (x6 + 1)) s6) ∧
              (¬ r5 = 0 →
                (0 ≤ (w32 ((w32 (7 * x3)) + x6)) ∧ (w32 ((w32 (7 * x3)) + x6)) < (49 : Int)) ∧ (0 ≤ (w32 ((w32 (7 * x3)) + x4)) ∧ (w32 ((w32 (7 * x3)) + x4)) < (49 : Int)) ∧ ((s6 77 (w32 ((w32 (7 * x3)) + x6)).toNat) < (s6 77 (w32 ((w32 (7 * x3)) + x4)).toNat) → K_M_isRest_27 d Q x1 x2 x3 x4 0 (w32 (x6 + 1)) s6) ∧
                ((s6 77 (w32 ((w32 (7 * x3)) + x4)).toNat) ≤ (s6 77 (w32 ((w32 (7 * x3)) + x6)).toNat) → K_M_isRest_27 d Q x1 x2 x3 x4 1 (w32 (x6 + 1)) s6))))))))) : K_M_isRest_27 d Q x1 x2 x3 x4 x5 x6 σ := XX_intro (g_M_isRest_27 (call := wp d) (cut := XX none (wp d) c_M_isRest true Q) (Q := Q) (x1 := x1) (x2 := x2) (x3 := x3) (x4 := x4) (x5 := x5) (x6 := x6) (σ := σ) (h))
abbrev K_M_rests_69 (d : Nat) (Q : Int → Mem → Prop) (x1 : Int) (x2 : Int) (x3 : Int) (x4 : Int) (x5 : Int) (x6 : Int) (σ : Mem) : Prop := XX none (wp d) c_M_rests false Q 69 [some (.inr (.inr 49)), some (.inl x1), some (.inl x2), some (.inl x3), some (.inl x4), some (.inl x5), some (.inl x6), none] [] σ
abbrev K_M_rests_81 (d : Nat) (Q : Int → Mem → Prop) (x1 : Int) (x2 : Int) (x3 : Int) (x4 : Int) (x5 : Int) (x6 : Int) (x7 : Int) (σ : Mem) : Prop := XX none (wp d) c_M_rests false Q 81 [some (.inr (.inr 49)), some (.inl x1), some (.inl x2), some (.inl x3), some (.inl x4), some (.inl x5), some (.inl x6), some (.inl x7)] [] σ
theorem g_M_rests {call : Nat → List AV → Mem → (Int → Mem → Prop) → Prop} {cut : Nat → Lo → List AV → Mem → Prop} {Q : Int → Mem → Prop} {a1 : Int} {a2 : Int} {a3 : Int} {σ : Mem} (h :
  call m_M_in [.inr (.inl a3), .inr (.inl 0), .inr (.inl 2)] σ (fun (r1 : Int) (s2 : Mem) =>
  (r1 = 0 →
      call m_M_refuse [.inr (.inr 49), .inl (-2)] s2 (fun (r15 : Int) (s16 : Mem) => Q r15 s16)) ∧
    (¬ r1 = 0 →
      ((s2 49 0) = 0 →
        call m_M_refuse [.inr (.inr 49), .inl (-3)] s2 (fun (r13 : Int) (s14 : Mem) => Q r13 s14)) ∧
      (¬ (s2 49 0) = 0 →
        call m_M_isSet [.inr (.inr 49), .inl a1] s2 (fun (r3 : Int) (s4 : Mem) =>
        (r3 = 0 →
            call m_M_refuse [.inr (.inr 49), .inl (-1)] s4 (fun (r5 : Int) (s6 : Mem) => Q r5 s6)) ∧
          (¬ r3 = 0 →
            call m_M_isSet [.inr (.inr 49), .inl a2] s4 (fun (r7 : Int) (s8 : Mem) =>
            (r7 = 0 →
                call m_M_refuse [.inr (.inr 49), .inl (-1)] s8 (fun (r11 : Int) (s12 : Mem) => Q r11 s12)) ∧
              (¬ r7 = 0 →
                call m_M_findRivals [.inr (.inr 49)] s8 (fun (r9 : Int) (s10 : Mem) =>
                cut 69 [some (.inr (.inr 49)), some (.inl a1), some (.inl a2), some (.inl a3), some (.inl 0), some (.inl (-9)), some (.inl 0), none] [] s10))))))))) : seg none call c_M_rests false Q cut 2000 true (toPc 0 c_M_rests) [some (.inr (.inr 49)), some (.inl a1), some (.inl a2), some (.inl a3), none, none, none, none] [] σ := h
theorem e_M_rests {d : Nat} {Q : Int → Mem → Prop} {a1 : Int} {a2 : Int} {a3 : Int} {σ : Mem} (h :
  wp d m_M_in [.inr (.inl a3), .inr (.inl 0), .inr (.inl 2)] σ (fun (r1 : Int) (s2 : Mem) =>
  (r1 = 0 →
      wp d m_M_refuse [.inr (.inr 49), .inl (-2)] s2 (fun (r15 : Int) (s16 : Mem) => Q r15 s16)) ∧
    (¬ r1 = 0 →
      ((s2 49 0) = 0 →
        wp d m_M_refuse [.inr (.inr 49), .inl (-3)] s2 (fun (r13 : Int) (s14 : Mem) => Q r13 s14)) ∧
      (¬ (s2 49 0) = 0 →
        wp d m_M_isSet [.inr (.inr 49), .inl a1] s2 (fun (r3 : Int) (s4 : Mem) =>
        (r3 = 0 →
            wp d m_M_refuse [.inr (.inr 49), .inl (-1)] s4 (fun (r5 : Int) (s6 : Mem) => Q r5 s6)) ∧
          (¬ r3 = 0 →
            wp d m_M_isSet [.inr (.inr 49), .inl a2] s4 (fun (r7 : Int) (s8 : Mem) =>
            (r7 = 0 →
                wp d m_M_refuse [.inr (.inr 49), .inl (-1)] s8 (fun (r11 : Int) (s12 : Mem) => Q r11 s12)) ∧
              (¬ r7 = 0 →
                wp d m_M_findRivals [.inr (.inr 49)] s8 (fun (r9 : Int) (s10 : Mem) => K_M_rests_69 d Q a1 a2 a3 0 (-9) 0 s10))))))))) : wp (d + 1) m_M_rests [.inr (.inr 49), .inl a1, .inl a2, .inl a3] σ Q := wp_in rfl (XX_intro (g_M_rests (call := wp d) (cut := XX none (wp d) c_M_rests false Q) (Q := Q) (a1 := a1) (a2 := a2) (a3 := a3) (σ := σ) (h)))
theorem g_M_rests_69 {call : Nat → List AV → Mem → (Int → Mem → Prop) → Prop} {cut : Nat → Lo → List AV → Mem → Prop} {Q : Int → Mem → Prop} {x1 : Int} {x2 : Int} {x3 : Int} {x4 : Int} {x5 : Int} {x6 : Int} {σ : Mem} (h :
  ((σ 49 9) < x6 →
    (x3 = 0 → Q x4 σ) ∧
    (¬ x3 = 0 → Q x5 σ)) ∧
  (x6 ≤ (σ 49 9) →
    cut 81 [some (.inr (.inr 49)), some (.inl x1), some (.inl x2), some (.inl x3), some (.inl x4), some (.inl x5), some (.inl x6), some (.inl 0)] [] σ)) : seg none call c_M_rests false Q cut 2000 true (toPc 69 c_M_rests) [some (.inr (.inr 49)), some (.inl x1), some (.inl x2), some (.inl x3), some (.inl x4), some (.inl x5), some (.inl x6), none] [] σ := h
theorem e_M_rests_69 {d : Nat} {Q : Int → Mem → Prop} {x1 : Int} {x2 : Int} {x3 : Int} {x4 : Int} {x5 : Int} {x6 : Int} {σ : Mem} (h :
  ((σ 49 9) < x6 →
    (x3 = 0 → Q x4 σ) ∧
    (¬ x3 = 0 → Q x5 σ)) ∧
  (x6 ≤ (σ 49 9) → K_M_rests_81 d Q x1 x2 x3 x4 x5 x6 0 σ)) : K_M_rests_69 d Q x1 x2 x3 x4 x5 x6 σ := XX_intro (g_M_rests_69 (call := wp d) (cut := XX none (wp d) c_M_rests false Q) (Q := Q) (x1 := x1) (x2 := x2) (x3 := x3) (x4 := x4) (x5 := x5) (x6 := x6) (σ := σ) (h))
theorem g_M_rests_81 {call : Nat → List AV → Mem → (Int → Mem → Prop) → Prop} {cut : Nat → Lo → List AV → Mem → Prop} {Q : Int → Mem → Prop} {x1 : Int} {x2 : Int} {x3 : Int} {x4 : Int} {x5 : Int} {x6 : Int} {x7 : Int} {σ : Mem} (h :
  ((σ 49 9) < x7 →
    cut 69 [some (.inr (.inr 49)), some (.inl x1), some (.inl x2), some (.inl x3), some (.inl x4), some (.inl x5), some (.inl (w32 (x6 + 1))), none] [] σ) ∧
  (x7 ≤ (σ 49 9) →
    call m_M_isRest [.inr (.inr 49), .inl x1, .inl x2, .inl x6, .inl x7] σ (fun (r1 : Int) (s2 : Mem) =>
    (r1 = 0 →
        cut 81 [some (.inr (.inr 49)), some (.inl x1), some (.inl x2), some (.inl x3), some (.inl x4), some (.inl x5), some (.inl x6), some (.inl (w32 (x7 + 1)))] [] s2) ∧
      (¬ r1 = 0 →
        (x4 = 0 →
          (x3 = 1 →
            cut 81 [some (.inr (.inr 49)), some (.inl x1), some (.inl x2), some (.inl x3), some (.inl (w32 (x4 + 1))), some (.inl x6), some (.inl x6), some (.inl (w32 (x7 + 1)))] [] s2) ∧
          (¬ x3 = 1 →
            cut 81 [some (.inr (.inr 49)), some (.inl x1), some (.inl x2), some (.inl x3), some (.inl (w32 (x4 + 1))), some (.inl x7), some (.inl x6), some (.inl (w32 (x7 + 1)))] [] s2)) ∧
        (¬ x4 = 0 →
          cut 81 [some (.inr (.inr 49)), some (.inl x1), some (.inl x2), some (.inl x3), some (.inl (w32 (x4 + 1))), some (.inl x5), some (.inl x6), some (.inl (w32 (x7 + 1)))] [] s2))))) : seg none call c_M_rests false Q cut 2000 true (toPc 81 c_M_rests) [some (.inr (.inr 49)), some (.inl x1), some (.inl x2), some (.inl x3), some (.inl x4), some (.inl x5), some (.inl x6), some (.inl x7)] [] σ := h
theorem e_M_rests_81 {d : Nat} {Q : Int → Mem → Prop} {x1 : Int} {x2 : Int} {x3 : Int} {x4 : Int} {x5 : Int} {x6 : Int} {x7 : Int} {σ : Mem} (h :
  ((σ 49 9) < x7 → K_M_rests_69 d Q x1 x2 x3 x4 x5 (w32 (x6 + 1)) σ) ∧
  (x7 ≤ (σ 49 9) →
    wp d m_M_isRest [.inr (.inr 49), .inl x1, .inl x2, .inl x6, .inl x7] σ (fun (r1 : Int) (s2 : Mem) =>
    (r1 = 0 → K_M_rests_81 d Q x1 x2 x3 x4 x5 x6 (w32 (x7 + 1)) s2) ∧
      (¬ r1 = 0 →
        (x4 = 0 →
          (x3 = 1 → K_M_rests_81 d Q x1 x2 x3 (w32 (x4 + 1)) x6 x6 (w32 (x7 + 1)) s2) ∧
          (¬ x3 = 1 → K_M_rests_81 d Q x1 x2 x3 (w32 (x4 + 1)) x7 x6 (w32 (x7 + 1)) s2)) ∧
        (¬ x4 = 0 → K_M_rests_81 d Q x1 x2 x3 (w32 (x4 + 1)) x5 x6 (w32 (x7 + 1)) s2))))) : K_M_rests_81 d Q x1 x2 x3 x4 x5 x6 x7 σ := XX_intro (g_M_rests_81 (call := wp d) (cut := XX none (wp d) c_M_rests false Q) (Q := Q) (x1 := x1) (x2 := x2) (x3 := x3) (x4 := x4) (x5 := x5) (x6 := x6) (x7 := x7) (σ := σ) (h))
abbrev K_M_beSilent_14 (d : Nat) (Q : Int → Mem → Prop) (x1 : Int) (x2 : Int) (x3 : Int) (x5 : Int) (x7 : Int) (x9 : Int) (x11 : Int) (σ : Mem) : Prop := XX none (wp d) c_M_beSilent true Q 14 [some (.inr (.inr 49)), some (.inl x1), some (.inl x2), some (.inr (.inl x3)), none, some (.inr (.inl x5)), none, some (.inr (.inl x7)), none, some (.inr (.inl x9)), none, some (.inl x11)] [] σ
theorem g_M_beSilent {call : Nat → List AV → Mem → (Int → Mem → Prop) → Prop} {cut : Nat → Lo → List AV → Mem → Prop} {Q : Int → Mem → Prop} {a1 : Int} {a2 : Int} {σ : Mem} (h :
  cut 14 [some (.inr (.inr 49)), some (.inl a1), some (.inl a2), some (.inr (.inl 0)), none, some (.inr (.inl 0)), none, some (.inr (.inl 0)), none, some (.inr (.inl 0)), none, some (.inl 0)] [] σ) : seg none call c_M_beSilent true Q cut 2000 true (toPc 0 c_M_beSilent) [some (.inr (.inr 49)), some (.inl a1), some (.inl a2), none, none, none, none, none, none, none, none, none] [] σ := h
theorem e_M_beSilent {d : Nat} {Q : Int → Mem → Prop} {a1 : Int} {a2 : Int} {σ : Mem} (h :
  K_M_beSilent_14 d Q a1 a2 0 0 0 0 0 σ) : wp (d + 1) m_M_beSilent [.inr (.inr 49), .inl a1, .inl a2] σ Q := wp_in rfl (XX_intro (g_M_beSilent (call := wp d) (cut := XX none (wp d) c_M_beSilent true Q) (Q := Q) (a1 := a1) (a2 := a2) (σ := σ) (h)))
theorem g_M_beSilent_14 {call : Nat → List AV → Mem → (Int → Mem → Prop) → Prop} {cut : Nat → Lo → List AV → Mem → Prop} {Q : Int → Mem → Prop} {x1 : Int} {x2 : Int} {x3 : Int} {x5 : Int} {x7 : Int} {x9 : Int} {x11 : Int} {σ : Mem} (h :
  (0 ≤ x1 ∧ x1 < (13 : Int)) ∧ (x11 < (σ 53 x1.toNat) →
    ((andI (shrI x2 x11) 1) = 0 →
      call m_M_leave [.inr (.inr 49), .inl x1, .inl x11] σ (fun (r3 : Int) (s4 : Mem) =>
      (r3 = 0 →
          cut 14 [some (.inr (.inr 49)), some (.inl x1), some (.inl x2), some (.inr (.inl x3)), none, some (.inr (.inl x5)), none, some (.inr (.inl x7)), none, some (.inr (.inl x9)), none, some (.inl (w32 (x11 + 1)))] [] s4) ∧
        (¬ r3 = 0 →
          (0 ≤ (0 : Int) ∧ 0 < (4 : Int)) ∧ (0 ≤ (1 : Int) ∧ 1 < (4 : Int)) ∧ (0 ≤ (2 : Int) ∧ 2 < (4 : Int)) ∧ (0 ≤ (3 : Int) ∧ 3 < (4 : Int)) ∧ cut 14 [some (.inr (.inr 49)), some (.inl x1), some (.inl x2), some (.inr (.inl (w64 (x3 + (s4 67 0))))), none, some (.inr (.inl (w64 (x5 + (s4 67 1))))), none, some (.inr (.inl (w64 (x7 + (s4 67 2))))), none, some (.inr (.inl (w64 (x9 + (s4 67 3))))), none, some (.inl (w32 (x11 + 1)))] [] s4))) ∧
    (¬ (andI (shrI x2 x11) 1) = 0 →
      cut 14 [some (.inr (.inr 49)), some (.inl x1), some (.inl x2), some (.inr (.inl x3)), none, some (.inr (.inl x5)), none, some (.inr (.inl x7)), none, some (.inr (.inl x9)), none, some (.inl (w32 (x11 + 1)))] [] σ)) ∧
  ((σ 53 x1.toNat) ≤ x11 →
    (0 ≤ (0 : Int) ∧ 0 < (4 : Int)) ∧ (0 ≤ (1 : Int) ∧ 1 < (4 : Int)) ∧ (0 ≤ (2 : Int) ∧ 2 < (4 : Int)) ∧ (0 ≤ (3 : Int) ∧ 3 < (4 : Int)) ∧ call m_M_allMass [.inr (.inr 49)] (mset (mset (mset (mset σ 67 0 x3) 67 1 x5) 67 2 x7) 67 3 x9) (fun (r1 : Int) (s2 : Mem) => (0 < r1 → isB 1 ∧ Q 1 s2) ∧
      (r1 ≤ 0 → isB 0 ∧ Q 0 s2)))) : seg none call c_M_beSilent true Q cut 2000 true (toPc 14 c_M_beSilent) [some (.inr (.inr 49)), some (.inl x1), some (.inl x2), some (.inr (.inl x3)), none, some (.inr (.inl x5)), none, some (.inr (.inl x7)), none, some (.inr (.inl x9)), none, some (.inl x11)] [] σ := h
theorem e_M_beSilent_14 {d : Nat} {Q : Int → Mem → Prop} {x1 : Int} {x2 : Int} {x3 : Int} {x5 : Int} {x7 : Int} {x9 : Int} {x11 : Int} {σ : Mem} (h :
  (0 ≤ x1 ∧ x1 < (13 : Int)) ∧ (x11 < (σ 53 x1.toNat) →
    ((andI (shrI x2 x11) 1) = 0 →
      wp d m_M_leave [.inr (.inr 49), .inl x1, .inl x11] σ (fun (r3 : Int) (s4 : Mem) =>
      (r3 = 0 → K_M_beSilent_14 d Q x1 x2 x3 x5 x7 x9 (w32 (x11 + 1)) s4) ∧
        (¬ r3 = 0 →
          K_M_beSilent_14 d Q x1 x2 (w64 (x3 + (s4 67 0))) (w64 (x5 + (s4 67 1))) (w64 (x7 + (s4 67 2))) (w64 (x9 + (s4 67 3))) (w32 (x11 + 1)) s4))) ∧
    (¬ (andI (shrI x2 x11) 1) = 0 → K_M_beSilent_14 d Q x1 x2 x3 x5 x7 x9 (w32 (x11 + 1)) σ)) ∧
  ((σ 53 x1.toNat) ≤ x11 →
    wp d m_M_allMass [.inr (.inr 49)] (mset (mset (mset (mset σ 67 0 x3) 67 1 x5) 67 2 x7) 67 3 x9) (fun (r1 : Int) (s2 : Mem) => (0 < r1 → Q 1 s2) ∧
      (r1 ≤ 0 → Q 0 s2)))) : K_M_beSilent_14 d Q x1 x2 x3 x5 x7 x9 x11 σ := XX_intro (g_M_beSilent_14 (call := wp d) (cut := XX none (wp d) c_M_beSilent true Q) (Q := Q) (x1 := x1) (x2 := x2) (x3 := x3) (x5 := x5) (x7 := x7) (x9 := x9) (x11 := x11) (σ := σ) (⟨(h).1, ⟨fun z6 => ⟨fun z5 => wp_conseq (fun _ _ z4 => ⟨fun z3 => (z4).1 z3, fun z3 => ⟨⟨by decide, by decide⟩, ⟨⟨by decide, by decide⟩, ⟨⟨by decide, by decide⟩, ⟨⟨by decide, by decide⟩, ((z4).2 z3)⟩⟩⟩⟩⟩) ((((((h).2).1 z6)).1 z5)), fun z5 => ((((h).2).1 z6)).2 z5⟩, fun z6 => ⟨⟨by decide, by decide⟩, ⟨⟨by decide, by decide⟩, ⟨⟨by decide, by decide⟩, ⟨⟨by decide, by decide⟩, wp_conseq (fun _ _ z2 => ⟨fun z1 => ⟨isB1, ((z2).1 z1)⟩, fun z1 => ⟨isB0, ((z2).2 z1)⟩⟩) ((((h).2).2 z6))⟩⟩⟩⟩⟩⟩))
abbrev K_M_findShown_4 (d : Nat) (Q : Int → Mem → Prop) (x1 : Int) (x2 : Int) (x3 : Int) (σ : Mem) : Prop := XX none (wp d) c_M_findShown false Q 4 [some (.inr (.inr 49)), some (.inl x1), some (.inl x2), some (.inl x3), none, none, none, none, none, none] [] σ
abbrev K_M_findShown_43 (d : Nat) (Q : Int → Mem → Prop) (x1 : Int) (x2 : Int) (x4 : Int) (x6 : Int) (x8 : Int) (x9 : Int) (σ : Mem) : Prop := XX none (wp d) c_M_findShown false Q 43 [some (.inr (.inr 49)), some (.inl x1), some (.inl x2), none, some (.inr (.inl x4)), none, some (.inr (.inl x6)), none, some (.inl x8), some (.inl x9)] [] σ
theorem g_M_findShown {call : Nat → List AV → Mem → (Int → Mem → Prop) → Prop} {cut : Nat → Lo → List AV → Mem → Prop} {Q : Int → Mem → Prop} {a1 : Int} {σ : Mem} (h :
  cut 4 [some (.inr (.inr 49)), some (.inl a1), some (.inl 0), some (.inl 1), none, none, none, none, none, none] [] σ) : seg none call c_M_findShown false Q cut 2000 true (toPc 0 c_M_findShown) [some (.inr (.inr 49)), some (.inl a1), none, none, none, none, none, none, none, none] [] σ := h
theorem e_M_findShown {d : Nat} {Q : Int → Mem → Prop} {a1 : Int} {σ : Mem} (h :
  K_M_findShown_4 d Q a1 0 1 σ) : wp (d + 1) m_M_findShown [.inr (.inr 49), .inl a1] σ Q := wp_in rfl (XX_intro (g_M_findShown (call := wp d) (cut := XX none (wp d) c_M_findShown false Q) (Q := Q) (a1 := a1) (σ := σ) (h)))
theorem g_M_findShown_4 {call : Nat → List AV → Mem → (Int → Mem → Prop) → Prop} {cut : Nat → Lo → List AV → Mem → Prop} {Q : Int → Mem → Prop} {x1 : Int} {x2 : Int} {x3 : Int} {σ : Mem} (h :
  (x3 = 0 → Q x2 σ) ∧
  (¬ x3 = 0 →
    call m_M_beSilent [.inr (.inr 49), .inl x1, .inl x2] σ (fun (r1 : Int) (s2 : Mem) =>
    (r1 = 0 →
        cut 4 [some (.inr (.inr 49)), some (.inl x1), some (.inl x2), some (.inl 0), none, none, none, none, none, none] [] s2) ∧
      (¬ r1 = 0 →
        call m_M_doneBy [.inr (.inr 49), .inl 0] s2 (fun (r3 : Int) (s4 : Mem) =>
        call m_M_sumOf [.inr (.inr 49), .inl 1, .inl r3] s4 (fun (r5 : Int) (s6 : Mem) =>
          call m_M_allMass [.inr (.inr 49)] s6 (fun (r7 : Int) (s8 : Mem) =>
            cut 43 [some (.inr (.inr 49)), some (.inl x1), some (.inl x2), none, some (.inr (.inl r5)), none, some (.inr (.inl r7)), none, some (.inl x2), some (.inl 0)] [] s8))))))) : seg none call c_M_findShown false Q cut 2000 true (toPc 4 c_M_findShown) [some (.inr (.inr 49)), some (.inl x1), some (.inl x2), some (.inl x3), none, none, none, none, none, none] [] σ := h
theorem e_M_findShown_4 {d : Nat} {Q : Int → Mem → Prop} {x1 : Int} {x2 : Int} {x3 : Int} {σ : Mem} (h :
  (x3 = 0 → Q x2 σ) ∧
  (¬ x3 = 0 →
    wp d m_M_beSilent [.inr (.inr 49), .inl x1, .inl x2] σ (fun (r1 : Int) (s2 : Mem) =>
    (r1 = 0 → K_M_findShown_4 d Q x1 x2 0 s2) ∧
      (¬ r1 = 0 →
        wp d m_M_doneBy [.inr (.inr 49), .inl 0] s2 (fun (r3 : Int) (s4 : Mem) =>
        wp d m_M_sumOf [.inr (.inr 49), .inl 1, .inl r3] s4 (fun (r5 : Int) (s6 : Mem) =>
          wp d m_M_allMass [.inr (.inr 49)] s6 (fun (r7 : Int) (s8 : Mem) => K_M_findShown_43 d Q x1 x2 r5 r7 x2 0 s8))))))) : K_M_findShown_4 d Q x1 x2 x3 σ := XX_intro (g_M_findShown_4 (call := wp d) (cut := XX none (wp d) c_M_findShown false Q) (Q := Q) (x1 := x1) (x2 := x2) (x3 := x3) (σ := σ) (h))
theorem g_M_findShown_43 {call : Nat → List AV → Mem → (Int → Mem → Prop) → Prop} {cut : Nat → Lo → List AV → Mem → Prop} {Q : Int → Mem → Prop} {x1 : Int} {x2 : Int} {x4 : Int} {x6 : Int} {x8 : Int} {x9 : Int} {σ : Mem} (h :
  (0 ≤ x1 ∧ x1 < (13 : Int)) ∧ (x9 < (σ 53 x1.toNat) →
    ((andI (shrI x2 x9) 1) = 0 →
      call m_M_leave [.inr (.inr 49), .inl x1, .inl x9] σ (fun (r1 : Int) (s2 : Mem) =>
      (r1 = 0 →
          cut 43 [some (.inr (.inr 49)), some (.inl x1), some (.inl x2), none, some (.inr (.inl x4)), none, some (.inr (.inl x6)), none, some (.inl x8), some (.inl (w32 (x9 + 1)))] [] s2) ∧
        (¬ r1 = 0 →
          call m_M_doneBy [.inr (.inr 49), .inl 0] s2 (fun (r3 : Int) (s4 : Mem) =>
          call m_M_sumOf [.inr (.inr 49), .inl 1, .inl r3] s4 (fun (r5 : Int) (s6 : Mem) =>
            call m_M_allMass [.inr (.inr 49)] s6 (fun (r7 : Int) (s8 : Mem) =>
              ((w64 (x4 * r7)) < (w64 (r5 * x6)) →
                  cut 43 [some (.inr (.inr 49)), some (.inl x1), some (.inl x2), none, some (.inr (.inl x4)), none, some (.inr (.inl x6)), none, some (.inl (orI x8 (shlI 1 x9))), some (.inl (w32 (x9 + 1)))] [] s8) ∧
                ((w64 (r5 * x6)) ≤ (w64 (x4 * r7)) →
                  cut 43 [some (.inr (.inr 49)), some (.inl x1), some (.inl x2), none, some (.inr (.inl x4)), none, some (.inr (.inl x6)), none, some (.inl x8), some (.inl (w32 (x9 + 1)))] [] s8))))))) ∧
    (¬ (andI (shrI x2 x9) 1) = 0 →
      cut 43 [some (.inr (.inr 49)), some (.inl x1), some (.inl x2), none, some (.inr (.inl x4)), none, some (.inr (.inl x6)), none, some (.inl x8), some (.inl (w32 (x9 + 1)))] [] σ)) ∧
  ((σ 53 x1.toNat) ≤ x9 →
    (x8 = x2 →
      cut 4 [some (.inr (.inr 49)), some (.inl x1), some (.inl x8), some (.inl 0), none, none, none, none, none, none] [] σ) ∧
    (¬ x8 = x2 →
      cut 4 [some (.inr (.inr 49)), some (.inl x1), some (.inl x8), some (.inl 1), none, none, none, none, none, none] [] σ))) : seg none call c_M_findShown false Q cut 2000 true (toPc 43 c_M_findShown) [some (.inr (.inr 49)), some (.inl x1), some (.inl x2), none, some (.inr (.inl x4)), none, some (.inr (.inl x6)), none, some (.inl x8), some (.inl x9)] [] σ := h
theorem e_M_findShown_43 {d : Nat} {Q : Int → Mem → Prop} {x1 : Int} {x2 : Int} {x4 : Int} {x6 : Int} {x8 : Int} {x9 : Int} {σ : Mem} (h :
  (0 ≤ x1 ∧ x1 < (13 : Int)) ∧ (x9 < (σ 53 x1.toNat) →
    ((andI (shrI x2 x9) 1) = 0 →
      wp d m_M_leave [.inr (.inr 49), .inl x1, .inl x9] σ (fun (r1 : Int) (s2 : Mem) =>
      (r1 = 0 → K_M_findShown_43 d Q x1 x2 x4 x6 x8 (w32 (x9 + 1)) s2) ∧
        (¬ r1 = 0 →
          wp d m_M_doneBy [.inr (.inr 49), .inl 0] s2 (fun (r3 : Int) (s4 : Mem) =>
          wp d m_M_sumOf [.inr (.inr 49), .inl 1, .inl r3] s4 (fun (r5 : Int) (s6 : Mem) =>
            wp d m_M_allMass [.inr (.inr 49)] s6 (fun (r7 : Int) (s8 : Mem) =>
              ((w64 (x4 * r7)) < (w64 (r5 * x6)) → K_M_findShown_43 d Q x1 x2 x4 x6 (orI x8 (shlI 1 x9)) (w32 (x9 + 1)) s8) ∧
                ((w64 (r5 * x6)) ≤ (w64 (x4 * r7)) → K_M_findShown_43 d Q x1 x2 x4 x6 x8 (w32 (x9 + 1)) s8))))))) ∧
    (¬ (andI (shrI x2 x9) 1) = 0 → K_M_findShown_43 d Q x1 x2 x4 x6 x8 (w32 (x9 + 1)) σ)) ∧
  ((σ 53 x1.toNat) ≤ x9 →
    (x8 = x2 → K_M_findShown_4 d Q x1 x8 0 σ) ∧
    (¬ x8 = x2 → K_M_findShown_4 d Q x1 x8 1 σ))) : K_M_findShown_43 d Q x1 x2 x4 x6 x8 x9 σ := XX_intro (g_M_findShown_43 (call := wp d) (cut := XX none (wp d) c_M_findShown false Q) (Q := Q) (x1 := x1) (x2 := x2) (x4 := x4) (x6 := x6) (x8 := x8) (x9 := x9) (σ := σ) (h))
theorem g_M_shown {call : Nat → List AV → Mem → (Int → Mem → Prop) → Prop} {cut : Nat → Lo → List AV → Mem → Prop} {Q : Int → Mem → Prop} {a1 : Int} {σ : Mem} (h :
  ((σ 49 0) = 0 →
    call m_M_refuse [.inr (.inr 49), .inl (-3)] σ (fun (r7 : Int) (s8 : Mem) => Q r7 s8)) ∧
  (¬ (σ 49 0) = 0 →
    call m_M_isLook [.inr (.inr 49), .inl a1] σ (fun (r1 : Int) (s2 : Mem) =>
    (r1 = 0 →
        call m_M_refuse [.inr (.inr 49), .inl (-1)] s2 (fun (r3 : Int) (s4 : Mem) => Q r3 s4)) ∧
      (¬ r1 = 0 →
        call m_M_findShown [.inr (.inr 49), .inl a1] s2 (fun (r5 : Int) (s6 : Mem) => Q r5 s6))))) : seg none call c_M_shown false Q cut 2000 true (toPc 0 c_M_shown) [some (.inr (.inr 49)), some (.inl a1)] [] σ := h
theorem e_M_shown {d : Nat} {Q : Int → Mem → Prop} {a1 : Int} {σ : Mem} (h :
  ((σ 49 0) = 0 →
    wp d m_M_refuse [.inr (.inr 49), .inl (-3)] σ (fun (r7 : Int) (s8 : Mem) => Q r7 s8)) ∧
  (¬ (σ 49 0) = 0 →
    wp d m_M_isLook [.inr (.inr 49), .inl a1] σ (fun (r1 : Int) (s2 : Mem) =>
    (r1 = 0 →
        wp d m_M_refuse [.inr (.inr 49), .inl (-1)] s2 (fun (r3 : Int) (s4 : Mem) => Q r3 s4)) ∧
      (¬ r1 = 0 →
        wp d m_M_findShown [.inr (.inr 49), .inl a1] s2 (fun (r5 : Int) (s6 : Mem) => Q r5 s6))))) : wp (d + 1) m_M_shown [.inr (.inr 49), .inl a1] σ Q := wp_in rfl (XX_intro (g_M_shown (call := wp d) (cut := XX none (wp d) c_M_shown false Q) (Q := Q) (a1 := a1) (σ := σ) (h)))
abbrev K_M_law_30 (d : Nat) (Q : Int → Mem → Prop) (x1 : Int) (x2 : Int) (x4 : Int) (x5 : Int) (x7 : Int) (σ : Mem) : Prop := XX none (wp d) c_M_law false Q 30 [some (.inr (.inr 49)), some (.inl x1), some (.inl x2), none, some (.inl x4), some (.inr (.inl x5)), none, some (.inl x7)] [] σ
theorem g_M_law {call : Nat → List AV → Mem → (Int → Mem → Prop) → Prop} {cut : Nat → Lo → List AV → Mem → Prop} {Q : Int → Mem → Prop} {a1 : Int} {a2 : Int} {σ : Mem} (h :
  call m_M_wrongLook [.inr (.inr 49), .inl a1, .inl a2] σ (fun (r1 : Int) (s2 : Mem) =>
  (r1 < 0 →
      call m_M_refuseFar [.inr (.inr 49), .inl r1] s2 (fun (r5 : Int) (s6 : Mem) => Q r5 s6)) ∧
    (0 ≤ r1 →
      call m_M_findShown [.inr (.inr 49), .inl a1] s2 (fun (r3 : Int) (s4 : Mem) =>
      cut 30 [some (.inr (.inr 49)), some (.inl a1), some (.inl a2), none, some (.inl r3), some (.inr (.inl 0)), none, some (.inl 0)] [] s4)))) : seg none call c_M_law false Q cut 2000 true (toPc 0 c_M_law) [some (.inr (.inr 49)), some (.inl a1), some (.inl a2), none, none, none, none, none] [] σ := h
theorem e_M_law {d : Nat} {Q : Int → Mem → Prop} {a1 : Int} {a2 : Int} {σ : Mem} (h :
  wp d m_M_wrongLook [.inr (.inr 49), .inl a1, .inl a2] σ (fun (r1 : Int) (s2 : Mem) =>
  (r1 < 0 →
      wp d m_M_refuseFar [.inr (.inr 49), .inl r1] s2 (fun (r5 : Int) (s6 : Mem) => Q r5 s6)) ∧
    (0 ≤ r1 →
      wp d m_M_findShown [.inr (.inr 49), .inl a1] s2 (fun (r3 : Int) (s4 : Mem) => K_M_law_30 d Q a1 a2 r3 0 0 s4)))) : wp (d + 1) m_M_law [.inr (.inr 49), .inl a1, .inl a2] σ Q := wp_in rfl (XX_intro (g_M_law (call := wp d) (cut := XX none (wp d) c_M_law false Q) (Q := Q) (a1 := a1) (a2 := a2) (σ := σ) (h)))
theorem g_M_law_30 {call : Nat → List AV → Mem → (Int → Mem → Prop) → Prop} {cut : Nat → Lo → List AV → Mem → Prop} {Q : Int → Mem → Prop} {x1 : Int} {x2 : Int} {x4 : Int} {x5 : Int} {x7 : Int} {σ : Mem} (h :
  (0 ≤ x1 ∧ x1 < (13 : Int)) ∧ (x7 < (σ 53 x1.toNat) →
    ((andI (shrI x4 x7) 1) = 1 →
      call m_M_leave [.inr (.inr 49), .inl x1, .inl x7] σ (fun (r19 : Int) (s20 : Mem) =>
      (r19 = 0 →
          cut 30 [some (.inr (.inr 49)), some (.inl x1), some (.inl x2), none, some (.inl x4), some (.inr (.inl (w64 (x5 + 0)))), none, some (.inl (w32 (x7 + 1)))] [] s20) ∧
        (¬ r19 = 0 →
          call m_M_doneBy [.inr (.inr 49), .inl 0] s20 (fun (r21 : Int) (s22 : Mem) =>
          call m_M_sumOf [.inr (.inr 49), .inl 0, .inl r21] s22 (fun (r23 : Int) (s24 : Mem) =>
            cut 30 [some (.inr (.inr 49)), some (.inl x1), some (.inl x2), none, some (.inl x4), some (.inr (.inl (w64 (x5 + r23)))), none, some (.inl (w32 (x7 + 1)))] [] s24))))) ∧
    (¬ (andI (shrI x4 x7) 1) = 1 →
      cut 30 [some (.inr (.inr 49)), some (.inl x1), some (.inl x2), none, some (.inl x4), some (.inr (.inl (w64 (x5 + 0)))), none, some (.inl (w32 (x7 + 1)))] [] σ)) ∧
  ((σ 53 x1.toNat) ≤ x7 →
    call m_M_beSilent [.inr (.inr 49), .inl x1, .inl x4] σ (fun (r1 : Int) (s2 : Mem) =>
    (r1 = 0 →
        call m_M_gotOf [.inr (.inr 49), .inl x1, .inl 0, .inl 0] s2 (fun (r3 : Int) (s4 : Mem) =>
        call m_M_allBefore [.inr (.inr 49)] s4 (fun (r5 : Int) (s6 : Mem) =>
          call m_M_fraction [.inr (.inl (w64 (r3 - (w64 (x5 + 0))))), .inr (.inl (w64 (60 * r5))), .inl x2] s6 (fun (r7 : Int) (s8 : Mem) => Q r7 s8)))) ∧
      (¬ r1 = 0 →
        call m_M_doneBy [.inr (.inr 49), .inl 0] s2 (fun (r9 : Int) (s10 : Mem) =>
        call m_M_sumOf [.inr (.inr 49), .inl 0, .inl r9] s10 (fun (r11 : Int) (s12 : Mem) =>
          call m_M_gotOf [.inr (.inr 49), .inl x1, .inl 0, .inl 0] s12 (fun (r13 : Int) (s14 : Mem) =>
            call m_M_allBefore [.inr (.inr 49)] s14 (fun (r15 : Int) (s16 : Mem) =>
              call m_M_fraction [.inr (.inl (w64 (r13 - (w64 (x5 + r11))))), .inr (.inl (w64 (60 * r15))), .inl x2] s16 (fun (r17 : Int) (s18 : Mem) => Q r17 s18))))))))) : seg none call c_M_law false Q cut 2000 true (toPc 30 c_M_law) [some (.inr (.inr 49)), some (.inl x1), some (.inl x2), none, some (.inl x4), some (.inr (.inl x5)), none, some (.inl x7)] [] σ := h
theorem e_M_law_30 {d : Nat} {Q : Int → Mem → Prop} {x1 : Int} {x2 : Int} {x4 : Int} {x5 : Int} {x7 : Int} {σ : Mem} (h :
  (0 ≤ x1 ∧ x1 < (13 : Int)) ∧ (x7 < (σ 53 x1.toNat) →
    ((andI (shrI x4 x7) 1) = 1 →
      wp d m_M_leave [.inr (.inr 49), .inl x1, .inl x7] σ (fun (r19 : Int) (s20 : Mem) =>
      (r19 = 0 → K_M_law_30 d Q x1 x2 x4 (w64 (x5 + 0)) (w32 (x7 + 1)) s20) ∧
        (¬ r19 = 0 →
          wp d m_M_doneBy [.inr (.inr 49), .inl 0] s20 (fun (r21 : Int) (s22 : Mem) =>
          wp d m_M_sumOf [.inr (.inr 49), .inl 0, .inl r21] s22 (fun (r23 : Int) (s24 : Mem) => K_M_law_30 d Q x1 x2 x4 (w64 (x5 + r23)) (w32 (x7 + 1)) s24))))) ∧
    (¬ (andI (shrI x4 x7) 1) = 1 → K_M_law_30 d Q x1 x2 x4 (w64 (x5 + 0)) (w32 (x7 + 1)) σ)) ∧
  ((σ 53 x1.toNat) ≤ x7 →
    wp d m_M_beSilent [.inr (.inr 49), .inl x1, .inl x4] σ (fun (r1 : Int) (s2 : Mem) =>
    (r1 = 0 →
        wp d m_M_gotOf [.inr (.inr 49), .inl x1, .inl 0, .inl 0] s2 (fun (r3 : Int) (s4 : Mem) =>
        wp d m_M_allBefore [.inr (.inr 49)] s4 (fun (r5 : Int) (s6 : Mem) =>
          wp d m_M_fraction [.inr (.inl (w64 (r3 - (w64 (x5 + 0))))), .inr (.inl (w64 (60 * r5))), .inl x2] s6 (fun (r7 : Int) (s8 : Mem) => Q r7 s8)))) ∧
      (¬ r1 = 0 →
        wp d m_M_doneBy [.inr (.inr 49), .inl 0] s2 (fun (r9 : Int) (s10 : Mem) =>
        wp d m_M_sumOf [.inr (.inr 49), .inl 0, .inl r9] s10 (fun (r11 : Int) (s12 : Mem) =>
          wp d m_M_gotOf [.inr (.inr 49), .inl x1, .inl 0, .inl 0] s12 (fun (r13 : Int) (s14 : Mem) =>
            wp d m_M_allBefore [.inr (.inr 49)] s14 (fun (r15 : Int) (s16 : Mem) =>
              wp d m_M_fraction [.inr (.inl (w64 (r13 - (w64 (x5 + r11))))), .inr (.inl (w64 (60 * r15))), .inl x2] s16 (fun (r17 : Int) (s18 : Mem) => Q r17 s18))))))))) : K_M_law_30 d Q x1 x2 x4 x5 x7 σ := XX_intro (g_M_law_30 (call := wp d) (cut := XX none (wp d) c_M_law false Q) (Q := Q) (x1 := x1) (x2 := x2) (x4 := x4) (x5 := x5) (x7 := x7) (σ := σ) (h))
abbrev K_M_time_86 (d : Nat) (Q : Int → Mem → Prop) (x1 : Int) (x2 : Int) (x3 : Int) (x4 : Int) (σ : Mem) : Prop := XX none (wp d) c_M_time false Q 86 [some (.inr (.inr 49)), some (.inl x1), some (.inl x2), some (.inl x3), some (.inl x4), none, none, none, none, none, none, none, none, none, none, none, none, none] [] σ
abbrev K_M_time_90 (d : Nat) (Q : Int → Mem → Prop) (x1 : Int) (x2 : Int) (x3 : Int) (x4 : Int) (σ : Mem) : Prop := XX none (wp d) c_M_time false Q 90 [some (.inr (.inr 49)), some (.inl x1), some (.inl x2), some (.inl x3), some (.inl x4), none, none, none, none, none, none, none, none, none, none, none, none, none] [] σ
abbrev K_M_time_91 (d : Nat) (Q : Int → Mem → Prop) (x1 : Int) (x2 : Int) (x3 : Int) (x4 : Int) (y0 : Int) (σ : Mem) : Prop := XX none (wp d) c_M_time false Q 91 [some (.inr (.inr 49)), some (.inl x1), some (.inl x2), some (.inl x3), some (.inl x4), none, none, none, none, none, none, none, none, none, none, none, none, none] [.inl y0] σ
abbrev K_M_time_122 (d : Nat) (Q : Int → Mem → Prop) (x1 : Int) (x2 : Int) (x3 : Int) (x4 : Int) (y1 : Int) (σ : Mem) : Prop := XX none (wp d) c_M_time false Q 122 [some (.inr (.inr 49)), some (.inl x1), some (.inl x2), some (.inl x3), some (.inl x4), none, none, none, none, none, none, none, none, none, none, none, none, none] [.inl y1, .inr (.inr 49)] σ
abbrev K_M_time_160 (d : Nat) (Q : Int → Mem → Prop) (x1 : Int) (x2 : Int) (x3 : Int) (x4 : Int) (y1 : Int) (y2 : Int) (σ : Mem) : Prop := XX none (wp d) c_M_time false Q 160 [some (.inr (.inr 49)), some (.inl x1), some (.inl x2), some (.inl x3), some (.inl x4), none, none, none, none, none, none, none, none, none, none, none, none, none] [.inl y2, .inl y1, .inr (.inr 76)] σ
abbrev K_M_time_184 (d : Nat) (Q : Int → Mem → Prop) (x1 : Int) (x2 : Int) (x3 : Int) (x4 : Int) (y1 : Int) (y2 : Int) (σ : Mem) : Prop := XX none (wp d) c_M_time false Q 184 [some (.inr (.inr 49)), some (.inl x1), some (.inl x2), some (.inl x3), some (.inl x4), none, none, none, none, none, none, none, none, none, none, none, none, none] [.inl y2, .inl y1, .inr (.inr 76)] σ
abbrev K_M_time_191 (d : Nat) (Q : Int → Mem → Prop) (x1 : Int) (x2 : Int) (x3 : Int) (x4 : Int) (x6 : Int) (σ : Mem) : Prop := XX none (wp d) c_M_time false Q 191 [some (.inr (.inr 49)), some (.inl x1), some (.inl x2), some (.inl x3), some (.inl x4), none, some (.inl x6), none, none, none, none, none, none, none, none, none, none, none] [] σ
abbrev K_M_time_233 (d : Nat) (Q : Int → Mem → Prop) (x1 : Int) (x2 : Int) (x3 : Int) (x4 : Int) (x6 : Int) (σ : Mem) : Prop := XX none (wp d) c_M_time false Q 233 [some (.inr (.inr 49)), some (.inl x1), some (.inl x2), some (.inl x3), some (.inl x4), none, some (.inl x6), none, none, none, none, none, none, none, none, none, none, none] [] σ
abbrev K_M_time_256 (d : Nat) (Q : Int → Mem → Prop) (x1 : Int) (x2 : Int) (x3 : Int) (x4 : Int) (x6 : Int) (σ : Mem) : Prop := XX none (wp d) c_M_time false Q 256 [some (.inr (.inr 49)), some (.inl x1), some (.inl x2), some (.inl x3), some (.inl x4), none, some (.inl x6), none, none, none, none, none, none, none, none, none, none, none] [] σ
abbrev K_M_time_257 (d : Nat) (Q : Int → Mem → Prop) (x1 : Int) (x2 : Int) (x3 : Int) (x4 : Int) (x6 : Int) (y0 : Int) (σ : Mem) : Prop := XX none (wp d) c_M_time false Q 257 [some (.inr (.inr 49)), some (.inl x1), some (.inl x2), some (.inl x3), some (.inl x4), none, some (.inl x6), none, none, none, none, none, none, none, none, none, none, none] [.inl y0] σ
abbrev K_M_time_284 (d : Nat) (Q : Int → Mem → Prop) (x1 : Int) (x2 : Int) (x3 : Int) (x4 : Int) (x6 : Int) (x7 : Int) (y0 : Int) (σ : Mem) : Prop := XX none (wp d) c_M_time false Q 284 [some (.inr (.inr 49)), some (.inl x1), some (.inl x2), some (.inl x3), some (.inl x4), none, some (.inl x6), some (.inl x7), none, none, none, none, none, none, none, none, none, none] [.inl y0] σ
abbrev K_M_time_289 (d : Nat) (Q : Int → Mem → Prop) (x1 : Int) (x2 : Int) (x3 : Int) (x4 : Int) (x6 : Int) (x7 : Int) (x8 : Int) (x9 : Int) (σ : Mem) : Prop := XX none (wp d) c_M_time false Q 289 [some (.inr (.inr 49)), some (.inl x1), some (.inl x2), some (.inl x3), some (.inl x4), none, some (.inl x6), some (.inl x7), some (.inl x8), some (.inl x9), none, none, none, none, none, none, none, none] [] σ
abbrev K_M_time_344 (d : Nat) (Q : Int → Mem → Prop) (x1 : Int) (x2 : Int) (x3 : Int) (x4 : Int) (x6 : Int) (x7 : Int) (x8 : Int) (x9 : Int) (x10 : Int) (x12 : Int) (y0 : Int) (σ : Mem) : Prop := XX none (wp d) c_M_time false Q 344 [some (.inr (.inr 49)), some (.inl x1), some (.inl x2), some (.inl x3), some (.inl x4), none, some (.inl x6), some (.inl x7), some (.inl x8), some (.inl x9), some (.inr (.inl x10)), none, some (.inl x12), none, none, none, none, none] [.inr (.inl y0)] σ
abbrev K_M_time_367 (d : Nat) (Q : Int → Mem → Prop) (x1 : Int) (x2 : Int) (x3 : Int) (x4 : Int) (x6 : Int) (x7 : Int) (x8 : Int) (x9 : Int) (x13 : Int) (y0 : Int) (σ : Mem) : Prop := XX none (wp d) c_M_time false Q 367 [some (.inr (.inr 49)), some (.inl x1), some (.inl x2), some (.inl x3), some (.inl x4), none, some (.inl x6), some (.inl x7), some (.inl x8), some (.inl x9), none, none, none, some (.inr (.inl x13)), none, none, none, none] [.inr (.inl y0)] σ
abbrev K_M_time_372 (d : Nat) (Q : Int → Mem → Prop) (x1 : Int) (x2 : Int) (x3 : Int) (x4 : Int) (x6 : Int) (x7 : Int) (x8 : Int) (x9 : Int) (x13 : Int) (x15 : Int) (x17 : Int) (σ : Mem) : Prop := XX none (wp d) c_M_time false Q 372 [some (.inr (.inr 49)), some (.inl x1), some (.inl x2), some (.inl x3), some (.inl x4), none, some (.inl x6), some (.inl x7), some (.inl x8), some (.inl x9), none, none, none, some (.inr (.inl x13)), none, some (.inr (.inl x15)), none, some (.inl x17)] [] σ
abbrev K_M_time_431 (d : Nat) (Q : Int → Mem → Prop) (x1 : Int) (x2 : Int) (x3 : Int) (x4 : Int) (x6 : Int) (x7 : Int) (x8 : Int) (x9 : Int) (x13 : Int) (y1 : Int) (σ : Mem) : Prop := XX none (wp d) c_M_time false Q 431 [some (.inr (.inr 49)), some (.inl x1), some (.inl x2), some (.inl x3), some (.inl x4), none, some (.inl x6), some (.inl x7), some (.inl x8), some (.inl x9), none, none, none, some (.inr (.inl x13)), none, none, none, none] [.inl y1, .inr (.inr 79)] σ
abbrev K_M_time_433 (d : Nat) (Q : Int → Mem → Prop) (x1 : Int) (x2 : Int) (x3 : Int) (x4 : Int) (x6 : Int) (x7 : Int) (x8 : Int) (x9 : Int) (y1 : Int) (y2 : Int) (σ : Mem) : Prop := XX none (wp d) c_M_time false Q 433 [some (.inr (.inr 49)), some (.inl x1), some (.inl x2), some (.inl x3), some (.inl x4), none, some (.inl x6), some (.inl x7), some (.inl x8), some (.inl x9), none, none, none, none, none, none, none, none] [.inr (.inl y2), .inl y1, .inr (.inr 79)] σ
abbrev K_M_time_443 (d : Nat) (Q : Int → Mem → Prop) (x1 : Int) (x2 : Int) (x3 : Int) (x4 : Int) (x6 : Int) (x9 : Int) (σ : Mem) : Prop := XX none (wp d) c_M_time false Q 443 [some (.inr (.inr 49)), some (.inl x1), some (.inl x2), some (.inl x3), some (.inl x4), none, some (.inl x6), none, none, some (.inl x9), none, none, none, none, none, none, none, none] [] σ
theorem g_M_time {call : Nat → List AV → Mem → (Int → Mem → Prop) → Prop} {cut : Nat → Lo → List AV → Mem → Prop} {Q : Int → Mem → Prop} {a1 : Int} {a2 : Int} {a3 : Int} {a4 : Int} {σ : Mem} (h :
  call m_M_isPart [.inl a4] σ (fun (r1 : Int) (s2 : Mem) =>
  (r1 = 0 →
      call m_M_refuseFar [.inr (.inr 49), .inl (-2)] s2 (fun (r11 : Int) (s12 : Mem) => Q r11 s12)) ∧
    (¬ r1 = 0 →
      ((s2 49 0) = 0 →
        call m_M_refuseFar [.inr (.inr 49), .inl (-3)] s2 (fun (r9 : Int) (s10 : Mem) => Q r9 s10)) ∧
      (¬ (s2 49 0) = 0 →
        call m_M_isTest [.inr (.inr 49), .inl a1] s2 (fun (r3 : Int) (s4 : Mem) =>
        (r3 = 0 →
            cut 90 [some (.inr (.inr 49)), some (.inl a1), some (.inl a2), some (.inl a3), some (.inl a4), none, none, none, none, none, none, none, none, none, none, none, none, none] [] s4) ∧
          (¬ r3 = 0 →
            (a2 = (-1) →
              (a3 = (-1) →
                cut 86 [some (.inr (.inr 49)), some (.inl a1), some (.inl a2), some (.inl a3), some (.inl a4), none, none, none, none, none, none, none, none, none, none, none, none, none] [] s4) ∧
              (¬ a3 = (-1) →
                cut 90 [some (.inr (.inr 49)), some (.inl a1), some (.inl a2), some (.inl a3), some (.inl a4), none, none, none, none, none, none, none, none, none, none, none, none, none] [] s4)) ∧
            (¬ a2 = (-1) →
              call m_M_isTest [.inr (.inr 49), .inl a2] s4 (fun (r5 : Int) (s6 : Mem) =>
              (r5 = 0 →
                  cut 90 [some (.inr (.inr 49)), some (.inl a1), some (.inl a2), some (.inl a3), some (.inl a4), none, none, none, none, none, none, none, none, none, none, none, none, none] [] s6) ∧
                (¬ r5 = 0 →
                  (a2 = a1 →
                    cut 90 [some (.inr (.inr 49)), some (.inl a1), some (.inl a2), some (.inl a3), some (.inl a4), none, none, none, none, none, none, none, none, none, none, none, none, none] [] s6) ∧
                  (¬ a2 = a1 →
                    (a3 = (-1) →
                      cut 86 [some (.inr (.inr 49)), some (.inl a1), some (.inl a2), some (.inl a3), some (.inl a4), none, none, none, none, none, none, none, none, none, none, none, none, none] [] s6) ∧
                    (¬ a3 = (-1) →
                      call m_M_isTest [.inr (.inr 49), .inl a3] s6 (fun (r7 : Int) (s8 : Mem) =>
                      (r7 = 0 →
                          cut 90 [some (.inr (.inr 49)), some (.inl a1), some (.inl a2), some (.inl a3), some (.inl a4), none, none, none, none, none, none, none, none, none, none, none, none, none] [] s8) ∧
                        (¬ r7 = 0 →
                          (a3 = a1 →
                            cut 90 [some (.inr (.inr 49)), some (.inl a1), some (.inl a2), some (.inl a3), some (.inl a4), none, none, none, none, none, none, none, none, none, none, none, none, none] [] s8) ∧
                          (¬ a3 = a1 →
                            (a3 = a2 →
                              cut 90 [some (.inr (.inr 49)), some (.inl a1), some (.inl a2), some (.inl a3), some (.inl a4), none, none, none, none, none, none, none, none, none, none, none, none, none] [] s8) ∧
                            (¬ a3 = a2 →
                              cut 86 [some (.inr (.inr 49)), some (.inl a1), some (.inl a2), some (.inl a3), some (.inl a4), none, none, none, none, none, none, none, none, none, none, none, none, none] [] s8))))))))))))))) : seg none call c_M_time false Q cut 2000 true (toPc 0 c_M_time) [some (.inr (.inr 49)), some (.inl a1), some (.inl a2), some (.inl a3), some (.inl a4), none, none, none, none, none, none, none, none, none, none, none, none, none] [] σ := h
theorem e_M_time {d : Nat} {Q : Int → Mem → Prop} {a1 : Int} {a2 : Int} {a3 : Int} {a4 : Int} {σ : Mem} (h :
  wp d m_M_isPart [.inl a4] σ (fun (r1 : Int) (s2 : Mem) =>
  (r1 = 0 →
      wp d m_M_refuseFar [.inr (.inr 49), .inl (-2)] s2 (fun (r11 : Int) (s12 : Mem) => Q r11 s12)) ∧
    (¬ r1 = 0 →
      ((s2 49 0) = 0 →
        wp d m_M_refuseFar [.inr (.inr 49), .inl (-3)] s2 (fun (r9 : Int) (s10 : Mem) => Q r9 s10)) ∧
      (¬ (s2 49 0) = 0 →
        wp d m_M_isTest [.inr (.inr 49), .inl a1] s2 (fun (r3 : Int) (s4 : Mem) =>
        (r3 = 0 → K_M_time_90 d Q a1 a2 a3 a4 s4) ∧
          (¬ r3 = 0 →
            (a2 = (-1) →
              (a3 = (-1) → K_M_time_86 d Q a1 a2 a3 a4 s4) ∧
              (¬ a3 = (-1) → K_M_time_90 d Q a1 a2 a3 a4 s4)) ∧
            (¬ a2 = (-1) →
              wp d m_M_isTest [.inr (.inr 49), .inl a2] s4 (fun (r5 : Int) (s6 : Mem) =>
              (r5 = 0 → K_M_time_90 d Q a1 a2 a3 a4 s6) ∧
                (¬ r5 = 0 →
                  (a2 = a1 → K_M_time_90 d Q a1 a2 a3 a4 s6) ∧
                  (¬ a2 = a1 →
                    (a3 = (-1) → K_M_time_86 d Q a1 a2 a3 a4 s6) ∧
                    (¬ a3 = (-1) →
                      wp d m_M_isTest [.inr (.inr 49), .inl a3] s6 (fun (r7 : Int) (s8 : Mem) =>
                      (r7 = 0 → K_M_time_90 d Q a1 a2 a3 a4 s8) ∧
                        (¬ r7 = 0 →
                          (a3 = a1 → K_M_time_90 d Q a1 a2 a3 a4 s8) ∧
                          (¬ a3 = a1 →
                            (a3 = a2 → K_M_time_90 d Q a1 a2 a3 a4 s8) ∧
                            (¬ a3 = a2 → K_M_time_86 d Q a1 a2 a3 a4 s8))))))))))))))) : wp (d + 1) m_M_time [.inr (.inr 49), .inl a1, .inl a2, .inl a3, .inl a4] σ Q := wp_in rfl (XX_intro (g_M_time (call := wp d) (cut := XX none (wp d) c_M_time false Q) (Q := Q) (a1 := a1) (a2 := a2) (a3 := a3) (a4 := a4) (σ := σ) (h)))
theorem g_M_time_86 {call : Nat → List AV → Mem → (Int → Mem → Prop) → Prop} {cut : Nat → Lo → List AV → Mem → Prop} {Q : Int → Mem → Prop} {x1 : Int} {x2 : Int} {x3 : Int} {x4 : Int} {σ : Mem} (h :
  cut 91 [some (.inr (.inr 49)), some (.inl x1), some (.inl x2), some (.inl x3), some (.inl x4), none, none, none, none, none, none, none, none, none, none, none, none, none] [.inl 1] σ) : seg none call c_M_time false Q cut 2000 true (toPc 86 c_M_time) [some (.inr (.inr 49)), some (.inl x1), some (.inl x2), some (.inl x3), some (.inl x4), none, none, none, none, none, none, none, none, none, none, none, none, none] [] σ := h
theorem e_M_time_86 {d : Nat} {Q : Int → Mem → Prop} {x1 : Int} {x2 : Int} {x3 : Int} {x4 : Int} {σ : Mem} (h :
  K_M_time_91 d Q x1 x2 x3 x4 1 σ) : K_M_time_86 d Q x1 x2 x3 x4 σ := XX_intro (g_M_time_86 (call := wp d) (cut := XX none (wp d) c_M_time false Q) (Q := Q) (x1 := x1) (x2 := x2) (x3 := x3) (x4 := x4) (σ := σ) (h))
theorem g_M_time_90 {call : Nat → List AV → Mem → (Int → Mem → Prop) → Prop} {cut : Nat → Lo → List AV → Mem → Prop} {Q : Int → Mem → Prop} {x1 : Int} {x2 : Int} {x3 : Int} {x4 : Int} {σ : Mem} (h :
  cut 91 [some (.inr (.inr 49)), some (.inl x1), some (.inl x2), some (.inl x3), some (.inl x4), none, none, none, none, none, none, none, none, none, none, none, none, none] [.inl 0] σ) : seg none call c_M_time false Q cut 2000 true (toPc 90 c_M_time) [some (.inr (.inr 49)), some (.inl x1), some (.inl x2), some (.inl x3), some (.inl x4), none, none, none, none, none, none, none, none, none, none, none, none, none] [] σ := h
theorem e_M_time_90 {d : Nat} {Q : Int → Mem → Prop} {x1 : Int} {x2 : Int} {x3 : Int} {x4 : Int} {σ : Mem} (h :
  K_M_time_91 d Q x1 x2 x3 x4 0 σ) : K_M_time_90 d Q x1 x2 x3 x4 σ := XX_intro (g_M_time_90 (call := wp d) (cut := XX none (wp d) c_M_time false Q) (Q := Q) (x1 := x1) (x2 := x2) (x3 := x3) (x4 := x4) (σ := σ) (h))
theorem g_M_time_91 {call : Nat → List AV → Mem → (Int → Mem → Prop) → Prop} {cut : Nat → Lo → List AV → Mem → Prop} {Q : Int → Mem → Prop} {x1 : Int} {x2 : Int} {x3 : Int} {x4 : Int} {y0 : Int} {σ : Mem} (h :
  (y0 = 0 →
    call m_M_refuseFar [.inr (.inr 49), .inl (-1)] σ (fun (r1 : Int) (s2 : Mem) => Q r1 s2)) ∧
  (¬ y0 = 0 →
    (x2 < 0 →
      cut 122 [some (.inr (.inr 49)), some (.inl x1), some (.inl x2), some (.inl x3), some (.inl x4), none, none, none, none, none, none, none, none, none, none, none, none, none] [.inl 1, .inr (.inr 49)] σ) ∧
    (0 ≤ x2 →
      (x3 < 0 →
        cut 122 [some (.inr (.inr 49)), some (.inl x1), some (.inl x2), some (.inl x3), some (.inl x4), none, none, none, none, none, none, none, none, none, none, none, none, none] [.inl 2, .inr (.inr 49)] σ) ∧
      (0 ≤ x3 →
        cut 122 [some (.inr (.inr 49)), some (.inl x1), some (.inl x2), some (.inl x3), some (.inl x4), none, none, none, none, none, none, none, none, none, none, none, none, none] [.inl 3, .inr (.inr 49)] σ)))) : seg none call c_M_time false Q cut 2000 true (toPc 91 c_M_time) [some (.inr (.inr 49)), some (.inl x1), some (.inl x2), some (.inl x3), some (.inl x4), none, none, none, none, none, none, none, none, none, none, none, none, none] [.inl y0] σ := h
theorem e_M_time_91 {d : Nat} {Q : Int → Mem → Prop} {x1 : Int} {x2 : Int} {x3 : Int} {x4 : Int} {y0 : Int} {σ : Mem} (h :
  (y0 = 0 →
    wp d m_M_refuseFar [.inr (.inr 49), .inl (-1)] σ (fun (r1 : Int) (s2 : Mem) => Q r1 s2)) ∧
  (¬ y0 = 0 →
    (x2 < 0 → K_M_time_122 d Q x1 x2 x3 x4 1 σ) ∧
    (0 ≤ x2 →
      (x3 < 0 → K_M_time_122 d Q x1 x2 x3 x4 2 σ) ∧
      (0 ≤ x3 → K_M_time_122 d Q x1 x2 x3 x4 3 σ)))) : K_M_time_91 d Q x1 x2 x3 x4 y0 σ := XX_intro (g_M_time_91 (call := wp d) (cut := XX none (wp d) c_M_time false Q) (Q := Q) (x1 := x1) (x2 := x2) (x3 := x3) (x4 := x4) (y0 := y0) (σ := σ) (h))
theorem g_M_time_122 {call : Nat → List AV → Mem → (Int → Mem → Prop) → Prop} {cut : Nat → Lo → List AV → Mem → Prop} {Q : Int → Mem → Prop} {x1 : Int} {x2 : Int} {x3 : Int} {x4 : Int} {y1 : Int} {σ : Mem} (h :
  (0 ≤ x1 ∧ x1 < (6 : Int)) ∧ (0 ≤ (0 : Int) ∧ 0 < (3 : Int)) ∧ (1 < ((mset (mset σ 49 48 y1) 76 0 ((mset σ 49 48 y1) 55 x1.toNat)) 49 48) →
    (0 ≤ x2 ∧ x2 < (6 : Int)) ∧ cut 160 [some (.inr (.inr 49)), some (.inl x1), some (.inl x2), some (.inl x3), some (.inl x4), none, none, none, none, none, none, none, none, none, none, none, none, none] [.inl ((mset (mset σ 49 48 y1) 76 0 ((mset σ 49 48 y1) 55 x1.toNat)) 55 x2.toNat), .inl 1, .inr (.inr 76)] (mset (mset σ 49 48 y1) 76 0 ((mset σ 49 48 y1) 55 x1.toNat))) ∧
  (((mset (mset σ 49 48 y1) 76 0 ((mset σ 49 48 y1) 55 x1.toNat)) 49 48) ≤ 1 →
    cut 160 [some (.inr (.inr 49)), some (.inl x1), some (.inl x2), some (.inl x3), some (.inl x4), none, none, none, none, none, none, none, none, none, none, none, none, none] [.inl 0, .inl 1, .inr (.inr 76)] (mset (mset σ 49 48 y1) 76 0 ((mset σ 49 48 y1) 55 x1.toNat)))) : seg none call c_M_time false Q cut 2000 true (toPc 122 c_M_time) [some (.inr (.inr 49)), some (.inl x1), some (.inl x2), some (.inl x3), some (.inl x4), none, none, none, none, none, none, none, none, none, none, none, none, none] [.inl y1, .inr (.inr 49)] σ := h
theorem e_M_time_122 {d : Nat} {Q : Int → Mem → Prop} {x1 : Int} {x2 : Int} {x3 : Int} {x4 : Int} {y1 : Int} {σ : Mem} (h :
  (0 ≤ x1 ∧ x1 < (6 : Int)) ∧ (1 < ((mset (mset σ 49 48 y1) 76 0 ((mset σ 49 48 y1) 55 x1.toNat)) 49 48) →
    (0 ≤ x2 ∧ x2 < (6 : Int)) ∧ K_M_time_160 d Q x1 x2 x3 x4 1 ((mset (mset σ 49 48 y1) 76 0 ((mset σ 49 48 y1) 55 x1.toNat)) 55 x2.toNat) (mset (mset σ 49 48 y1) 76 0 ((mset σ 49 48 y1) 55 x1.toNat))) ∧
  (((mset (mset σ 49 48 y1) 76 0 ((mset σ 49 48 y1) 55 x1.toNat)) 49 48) ≤ 1 →
    K_M_time_160 d Q x1 x2 x3 x4 1 0 (mset (mset σ 49 48 y1) 76 0 ((mset σ 49 48 y1) 55 x1.toNat)))) : K_M_time_122 d Q x1 x2 x3 x4 y1 σ := XX_intro (g_M_time_122 (call := wp d) (cut := XX none (wp d) c_M_time false Q) (Q := Q) (x1 := x1) (x2 := x2) (x3 := x3) (x4 := x4) (y1 := y1) (σ := σ) (⟨(h).1, ⟨⟨by decide, by decide⟩, (h).2⟩⟩))
theorem g_M_time_160 {call : Nat → List AV → Mem → (Int → Mem → Prop) → Prop} {cut : Nat → Lo → List AV → Mem → Prop} {Q : Int → Mem → Prop} {x1 : Int} {x2 : Int} {x3 : Int} {x4 : Int} {y1 : Int} {y2 : Int} {σ : Mem} (h :
  (0 ≤ y1 ∧ y1 < (3 : Int)) ∧ (2 < ((mset σ 76 y1.toNat y2) 49 48) →
    (0 ≤ x3 ∧ x3 < (6 : Int)) ∧ cut 184 [some (.inr (.inr 49)), some (.inl x1), some (.inl x2), some (.inl x3), some (.inl x4), none, none, none, none, none, none, none, none, none, none, none, none, none] [.inl ((mset σ 76 y1.toNat y2) 55 x3.toNat), .inl 2, .inr (.inr 76)] (mset σ 76 y1.toNat y2)) ∧
  (((mset σ 76 y1.toNat y2) 49 48) ≤ 2 →
    cut 184 [some (.inr (.inr 49)), some (.inl x1), some (.inl x2), some (.inl x3), some (.inl x4), none, none, none, none, none, none, none, none, none, none, none, none, none] [.inl 0, .inl 2, .inr (.inr 76)] (mset σ 76 y1.toNat y2))) : seg none call c_M_time false Q cut 2000 true (toPc 160 c_M_time) [some (.inr (.inr 49)), some (.inl x1), some (.inl x2), some (.inl x3), some (.inl x4), none, none, none, none, none, none, none, none, none, none, none, none, none] [.inl y2, .inl y1, .inr (.inr 76)] σ := h
theorem e_M_time_160 {d : Nat} {Q : Int → Mem → Prop} {x1 : Int} {x2 : Int} {x3 : Int} {x4 : Int} {y1 : Int} {y2 : Int} {σ : Mem} (h :
  (0 ≤ y1 ∧ y1 < (3 : Int)) ∧ (2 < ((mset σ 76 y1.toNat y2) 49 48) →
    (0 ≤ x3 ∧ x3 < (6 : Int)) ∧ K_M_time_184 d Q x1 x2 x3 x4 2 ((mset σ 76 y1.toNat y2) 55 x3.toNat) (mset σ 76 y1.toNat y2)) ∧
  (((mset σ 76 y1.toNat y2) 49 48) ≤ 2 → K_M_time_184 d Q x1 x2 x3 x4 2 0 (mset σ 76 y1.toNat y2))) : K_M_time_160 d Q x1 x2 x3 x4 y1 y2 σ := XX_intro (g_M_time_160 (call := wp d) (cut := XX none (wp d) c_M_time false Q) (Q := Q) (x1 := x1) (x2 := x2) (x3 := x3) (x4 := x4) (y1 := y1) (y2 := y2) (σ := σ) (h))
theorem g_M_time_184 {call : Nat → List AV → Mem → (Int → Mem → Prop) → Prop} {cut : Nat → Lo → List AV → Mem → Prop} {Q : Int → Mem → Prop} {x1 : Int} {x2 : Int} {x3 : Int} {x4 : Int} {y1 : Int} {y2 : Int} {σ : Mem} (h :
  (0 ≤ y1 ∧ y1 < (3 : Int)) ∧ cut 191 [some (.inr (.inr 49)), some (.inl x1), some (.inl x2), some (.inl x3), some (.inl x4), none, some (.inl ((mset σ 76 y1.toNat y2) 49 48)), none, none, none, none, none, none, none, none, none, none, none] [] (mset σ 76 y1.toNat y2)) : seg none call c_M_time false Q cut 2000 true (toPc 184 c_M_time) [some (.inr (.inr 49)), some (.inl x1), some (.inl x2), some (.inl x3), some (.inl x4), none, none, none, none, none, none, none, none, none, none, none, none, none] [.inl y2, .inl y1, .inr (.inr 76)] σ := h
theorem e_M_time_184 {d : Nat} {Q : Int → Mem → Prop} {x1 : Int} {x2 : Int} {x3 : Int} {x4 : Int} {y1 : Int} {y2 : Int} {σ : Mem} (h :
  (0 ≤ y1 ∧ y1 < (3 : Int)) ∧ K_M_time_191 d Q x1 x2 x3 x4 ((mset σ 76 y1.toNat y2) 49 48) (mset σ 76 y1.toNat y2)) : K_M_time_184 d Q x1 x2 x3 x4 y1 y2 σ := XX_intro (g_M_time_184 (call := wp d) (cut := XX none (wp d) c_M_time false Q) (Q := Q) (x1 := x1) (x2 := x2) (x3 := x3) (x4 := x4) (y1 := y1) (y2 := y2) (σ := σ) (h))
theorem g_M_time_191 {call : Nat → List AV → Mem → (Int → Mem → Prop) → Prop} {cut : Nat → Lo → List AV → Mem → Prop} {Q : Int → Mem → Prop} {x1 : Int} {x2 : Int} {x3 : Int} {x4 : Int} {x6 : Int} {σ : Mem} (h :
  (x6 < 0 →
    (0 ≤ (0 : Int) ∧ 0 < (216 : Int)) ∧ call m_M_power [.inl (σ 49 48)] σ (fun (r1 : Int) (s2 : Mem) =>
    call m_M_allBefore [.inr (.inr 49)] s2 (fun (r3 : Int) (s4 : Mem) =>
      call m_M_fraction [.inr (.inl (σ 78 0)), .inr (.inl (w64 (r1 * r3))), .inl x4] s4 (fun (r5 : Int) (s6 : Mem) => Q r5 s6)))) ∧
  (0 ≤ x6 →
    (x6 = 0 →
      (0 ≤ x1 ∧ x1 < (6 : Int)) ∧ cut 257 [some (.inr (.inr 49)), some (.inl x1), some (.inl x2), some (.inl x3), some (.inl x4), none, some (.inl x6), none, none, none, none, none, none, none, none, none, none, none] [.inl (σ 56 x1.toNat)] σ) ∧
    (¬ x6 = 0 →
      (x6 = 1 →
        (1 < (σ 49 48) →
          (0 ≤ x2 ∧ x2 < (6 : Int)) ∧ cut 257 [some (.inr (.inr 49)), some (.inl x1), some (.inl x2), some (.inl x3), some (.inl x4), none, some (.inl x6), none, none, none, none, none, none, none, none, none, none, none] [.inl (σ 56 x2.toNat)] σ) ∧
        ((σ 49 48) ≤ 1 →
          cut 233 [some (.inr (.inr 49)), some (.inl x1), some (.inl x2), some (.inl x3), some (.inl x4), none, some (.inl x6), none, none, none, none, none, none, none, none, none, none, none] [] σ)) ∧
      (¬ x6 = 1 →
        cut 233 [some (.inr (.inr 49)), some (.inl x1), some (.inl x2), some (.inl x3), some (.inl x4), none, some (.inl x6), none, none, none, none, none, none, none, none, none, none, none] [] σ)))) : seg none call c_M_time false Q cut 2000 true (toPc 191 c_M_time) [some (.inr (.inr 49)), some (.inl x1), some (.inl x2), some (.inl x3), some (.inl x4), none, some (.inl x6), none, none, none, none, none, none, none, none, none, none, none] [] σ := h
theorem e_M_time_191 {d : Nat} {Q : Int → Mem → Prop} {x1 : Int} {x2 : Int} {x3 : Int} {x4 : Int} {x6 : Int} {σ : Mem} (h :
  (x6 < 0 →
    wp d m_M_power [.inl (σ 49 48)] σ (fun (r1 : Int) (s2 : Mem) =>
    wp d m_M_allBefore [.inr (.inr 49)] s2 (fun (r3 : Int) (s4 : Mem) =>
      wp d m_M_fraction [.inr (.inl (σ 78 0)), .inr (.inl (w64 (r1 * r3))), .inl x4] s4 (fun (r5 : Int) (s6 : Mem) => Q r5 s6)))) ∧
  (0 ≤ x6 →
    (x6 = 0 → (0 ≤ x1 ∧ x1 < (6 : Int)) ∧ K_M_time_257 d Q x1 x2 x3 x4 x6 (σ 56 x1.toNat) σ) ∧
    (¬ x6 = 0 →
      (x6 = 1 →
        (1 < (σ 49 48) → (0 ≤ x2 ∧ x2 < (6 : Int)) ∧ K_M_time_257 d Q x1 x2 x3 x4 x6 (σ 56 x2.toNat) σ) ∧
        ((σ 49 48) ≤ 1 → K_M_time_233 d Q x1 x2 x3 x4 x6 σ)) ∧
      (¬ x6 = 1 → K_M_time_233 d Q x1 x2 x3 x4 x6 σ)))) : K_M_time_191 d Q x1 x2 x3 x4 x6 σ := XX_intro (g_M_time_191 (call := wp d) (cut := XX none (wp d) c_M_time false Q) (Q := Q) (x1 := x1) (x2 := x2) (x3 := x3) (x4 := x4) (x6 := x6) (σ := σ) (⟨fun z1 => ⟨⟨by decide, by decide⟩, ((h).1 z1)⟩, fun z1 => (h).2 z1⟩))
theorem g_M_time_233 {call : Nat → List AV → Mem → (Int → Mem → Prop) → Prop} {cut : Nat → Lo → List AV → Mem → Prop} {Q : Int → Mem → Prop} {x1 : Int} {x2 : Int} {x3 : Int} {x4 : Int} {x6 : Int} {σ : Mem} (h :
  (x6 = 2 →
    (2 < (σ 49 48) →
      (0 ≤ x3 ∧ x3 < (6 : Int)) ∧ cut 257 [some (.inr (.inr 49)), some (.inl x1), some (.inl x2), some (.inl x3), some (.inl x4), none, some (.inl x6), none, none, none, none, none, none, none, none, none, none, none] [.inl (σ 56 x3.toNat)] σ) ∧
    ((σ 49 48) ≤ 2 →
      cut 256 [some (.inr (.inr 49)), some (.inl x1), some (.inl x2), some (.inl x3), some (.inl x4), none, some (.inl x6), none, none, none, none, none, none, none, none, none, none, none] [] σ)) ∧
  (¬ x6 = 2 →
    cut 256 [some (.inr (.inr 49)), some (.inl x1), some (.inl x2), some (.inl x3), some (.inl x4), none, some (.inl x6), none, none, none, none, none, none, none, none, none, none, none] [] σ)) : seg none call c_M_time false Q cut 2000 true (toPc 233 c_M_time) [some (.inr (.inr 49)), some (.inl x1), some (.inl x2), some (.inl x3), some (.inl x4), none, some (.inl x6), none, none, none, none, none, none, none, none, none, none, none] [] σ := h
theorem e_M_time_233 {d : Nat} {Q : Int → Mem → Prop} {x1 : Int} {x2 : Int} {x3 : Int} {x4 : Int} {x6 : Int} {σ : Mem} (h :
  (x6 = 2 →
    (2 < (σ 49 48) → (0 ≤ x3 ∧ x3 < (6 : Int)) ∧ K_M_time_257 d Q x1 x2 x3 x4 x6 (σ 56 x3.toNat) σ) ∧
    ((σ 49 48) ≤ 2 → K_M_time_256 d Q x1 x2 x3 x4 x6 σ)) ∧
  (¬ x6 = 2 → K_M_time_256 d Q x1 x2 x3 x4 x6 σ)) : K_M_time_233 d Q x1 x2 x3 x4 x6 σ := XX_intro (g_M_time_233 (call := wp d) (cut := XX none (wp d) c_M_time false Q) (Q := Q) (x1 := x1) (x2 := x2) (x3 := x3) (x4 := x4) (x6 := x6) (σ := σ) (h))
theorem g_M_time_256 {call : Nat → List AV → Mem → (Int → Mem → Prop) → Prop} {cut : Nat → Lo → List AV → Mem → Prop} {Q : Int → Mem → Prop} {x1 : Int} {x2 : Int} {x3 : Int} {x4 : Int} {x6 : Int} {σ : Mem} (h :
  cut 257 [some (.inr (.inr 49)), some (.inl x1), some (.inl x2), some (.inl x3), some (.inl x4), none, some (.inl x6), none, none, none, none, none, none, none, none, none, none, none] [.inl 0] σ) : seg none call c_M_time false Q cut 2000 true (toPc 256 c_M_time) [some (.inr (.inr 49)), some (.inl x1), some (.inl x2), some (.inl x3), some (.inl x4), none, some (.inl x6), none, none, none, none, none, none, none, none, none, none, none] [] σ := h
theorem e_M_time_256 {d : Nat} {Q : Int → Mem → Prop} {x1 : Int} {x2 : Int} {x3 : Int} {x4 : Int} {x6 : Int} {σ : Mem} (h :
  K_M_time_257 d Q x1 x2 x3 x4 x6 0 σ) : K_M_time_256 d Q x1 x2 x3 x4 x6 σ := XX_intro (g_M_time_256 (call := wp d) (cut := XX none (wp d) c_M_time false Q) (Q := Q) (x1 := x1) (x2 := x2) (x3 := x3) (x4 := x4) (x6 := x6) (σ := σ) (h))
theorem g_M_time_257 {call : Nat → List AV → Mem → (Int → Mem → Prop) → Prop} {cut : Nat → Lo → List AV → Mem → Prop} {Q : Int → Mem → Prop} {x1 : Int} {x2 : Int} {x3 : Int} {x4 : Int} {x6 : Int} {y0 : Int} {σ : Mem} (h :
  (x6 < (σ 49 48) →
    (0 ≤ x6 ∧ x6 < (3 : Int)) ∧ (0 ≤ (σ 76 x6.toNat) ∧ (σ 76 x6.toNat) < (13 : Int)) ∧ cut 284 [some (.inr (.inr 49)), some (.inl x1), some (.inl x2), some (.inl x3), some (.inl x4), none, some (.inl x6), some (.inl y0), none, none, none, none, none, none, none, none, none, none] [.inl (σ 53 (σ 76 x6.toNat).toNat)] σ) ∧
  ((σ 49 48) ≤ x6 →
    cut 284 [some (.inr (.inr 49)), some (.inl x1), some (.inl x2), some (.inl x3), some (.inl x4), none, some (.inl x6), some (.inl y0), none, none, none, none, none, none, none, none, none, none] [.inl 0] σ)) : seg none call c_M_time false Q cut 2000 true (toPc 257 c_M_time) [some (.inr (.inr 49)), some (.inl x1), some (.inl x2), some (.inl x3), some (.inl x4), none, some (.inl x6), none, none, none, none, none, none, none, none, none, none, none] [.inl y0] σ := h
theorem e_M_time_257 {d : Nat} {Q : Int → Mem → Prop} {x1 : Int} {x2 : Int} {x3 : Int} {x4 : Int} {x6 : Int} {y0 : Int} {σ : Mem} (h :
  (x6 < (σ 49 48) →
    (0 ≤ x6 ∧ x6 < (3 : Int)) ∧ (0 ≤ (σ 76 x6.toNat) ∧ (σ 76 x6.toNat) < (13 : Int)) ∧ K_M_time_284 d Q x1 x2 x3 x4 x6 y0 (σ 53 (σ 76 x6.toNat).toNat) σ) ∧
  ((σ 49 48) ≤ x6 → K_M_time_284 d Q x1 x2 x3 x4 x6 y0 0 σ)) : K_M_time_257 d Q x1 x2 x3 x4 x6 y0 σ := XX_intro (g_M_time_257 (call := wp d) (cut := XX none (wp d) c_M_time false Q) (Q := Q) (x1 := x1) (x2 := x2) (x3 := x3) (x4 := x4) (x6 := x6) (y0 := y0) (σ := σ) (h))
theorem g_M_time_284 {call : Nat → List AV → Mem → (Int → Mem → Prop) → Prop} {cut : Nat → Lo → List AV → Mem → Prop} {Q : Int → Mem → Prop} {x1 : Int} {x2 : Int} {x3 : Int} {x4 : Int} {x6 : Int} {x7 : Int} {y0 : Int} {σ : Mem} (h :
  cut 289 [some (.inr (.inr 49)), some (.inl x1), some (.inl x2), some (.inl x3), some (.inl x4), none, some (.inl x6), some (.inl x7), some (.inl y0), some (.inl 0), none, none, none, none, none, none, none, none] [] σ) : seg none call c_M_time false Q cut 2000 true (toPc 284 c_M_time) [some (.inr (.inr 49)), some (.inl x1), some (.inl x2), some (.inl x3), some (.inl x4), none, some (.inl x6), some (.inl x7), none, none, none, none, none, none, none, none, none, none] [.inl y0] σ := h
theorem e_M_time_284 {d : Nat} {Q : Int → Mem → Prop} {x1 : Int} {x2 : Int} {x3 : Int} {x4 : Int} {x6 : Int} {x7 : Int} {y0 : Int} {σ : Mem} (h :
  K_M_time_289 d Q x1 x2 x3 x4 x6 x7 y0 0 σ) : K_M_time_284 d Q x1 x2 x3 x4 x6 x7 y0 σ := XX_intro (g_M_time_284 (call := wp d) (cut := XX none (wp d) c_M_time false Q) (Q := Q) (x1 := x1) (x2 := x2) (x3 := x3) (x4 := x4) (x6 := x6) (x7 := x7) (y0 := y0) (σ := σ) (h))
theorem g_M_time_289 {call : Nat → List AV → Mem → (Int → Mem → Prop) → Prop} {cut : Nat → Lo → List AV → Mem → Prop} {Q : Int → Mem → Prop} {x1 : Int} {x2 : Int} {x3 : Int} {x4 : Int} {x6 : Int} {x7 : Int} {x8 : Int} {x9 : Int} {σ : Mem} (h :
  call m_M_waysOf [.inr (.inr 49), .inl x6] σ (fun (r1 : Int) (s2 : Mem) =>
  (x9 < r1 →
      call m_M_power [.inl (w32 ((s2 49 48) - x6))] s2 (fun (r3 : Int) (s4 : Mem) =>
      call m_M_hearWay [.inr (.inr 49), .inl x9, .inl x6] s4 (fun (r5 : Int) (s6 : Mem) =>
        (r5 = 0 →
            cut 344 [some (.inr (.inr 49)), some (.inl x1), some (.inl x2), some (.inl x3), some (.inl x4), none, some (.inl x6), some (.inl x7), some (.inl x8), some (.inl x9), some (.inr (.inl r3)), none, some (.inl r5), none, none, none, none, none] [.inr (.inl 0)] s6) ∧
          (¬ r5 = 0 →
            call m_M_doneBy [.inr (.inr 49), .inl 0] s6 (fun (r7 : Int) (s8 : Mem) =>
            call m_M_sumOf [.inr (.inr 49), .inl 1, .inl r7] s8 (fun (r9 : Int) (s10 : Mem) =>
              cut 344 [some (.inr (.inr 49)), some (.inl x1), some (.inl x2), some (.inl x3), some (.inl x4), none, some (.inl x6), some (.inl x7), some (.inl x8), some (.inl x9), some (.inr (.inl r3)), none, some (.inl r5), none, none, none, none, none] [.inr (.inl (w64 (r9 * r3)))] s10)))))) ∧
    (r1 ≤ x9 →
      cut 443 [some (.inr (.inr 49)), some (.inl x1), some (.inl x2), some (.inl x3), some (.inl x4), none, some (.inl x6), none, none, some (.inl 0), none, none, none, none, none, none, none, none] [] s2))) : seg none call c_M_time false Q cut 2000 true (toPc 289 c_M_time) [some (.inr (.inr 49)), some (.inl x1), some (.inl x2), some (.inl x3), some (.inl x4), none, some (.inl x6), some (.inl x7), some (.inl x8), some (.inl x9), none, none, none, none, none, none, none, none] [] σ := h
theorem e_M_time_289 {d : Nat} {Q : Int → Mem → Prop} {x1 : Int} {x2 : Int} {x3 : Int} {x4 : Int} {x6 : Int} {x7 : Int} {x8 : Int} {x9 : Int} {σ : Mem} (h :
  wp d m_M_waysOf [.inr (.inr 49), .inl x6] σ (fun (r1 : Int) (s2 : Mem) =>
  (x9 < r1 →
      wp d m_M_power [.inl (w32 ((s2 49 48) - x6))] s2 (fun (r3 : Int) (s4 : Mem) =>
      wp d m_M_hearWay [.inr (.inr 49), .inl x9, .inl x6] s4 (fun (r5 : Int) (s6 : Mem) =>
        (r5 = 0 → K_M_time_344 d Q x1 x2 x3 x4 x6 x7 x8 x9 r3 r5 0 s6) ∧
          (¬ r5 = 0 →
            wp d m_M_doneBy [.inr (.inr 49), .inl 0] s6 (fun (r7 : Int) (s8 : Mem) =>
            wp d m_M_sumOf [.inr (.inr 49), .inl 1, .inl r7] s8 (fun (r9 : Int) (s10 : Mem) =>
              K_M_time_344 d Q x1 x2 x3 x4 x6 x7 x8 x9 r3 r5 (w64 (r9 * r3)) s10)))))) ∧
    (r1 ≤ x9 → K_M_time_443 d Q x1 x2 x3 x4 x6 0 s2))) : K_M_time_289 d Q x1 x2 x3 x4 x6 x7 x8 x9 σ := XX_intro (g_M_time_289 (call := wp d) (cut := XX none (wp d) c_M_time false Q) (Q := Q) (x1 := x1) (x2 := x2) (x3 := x3) (x4 := x4) (x6 := x6) (x7 := x7) (x8 := x8) (x9 := x9) (σ := σ) (h))
theorem g_M_time_344 {call : Nat → List AV → Mem → (Int → Mem → Prop) → Prop} {cut : Nat → Lo → List AV → Mem → Prop} {Q : Int → Mem → Prop} {x1 : Int} {x2 : Int} {x3 : Int} {x4 : Int} {x6 : Int} {x7 : Int} {x8 : Int} {x9 : Int} {x10 : Int} {x12 : Int} {y0 : Int} {σ : Mem} (h :
  (x12 = 0 →
    cut 367 [some (.inr (.inr 49)), some (.inl x1), some (.inl x2), some (.inl x3), some (.inl x4), none, some (.inl x6), some (.inl x7), some (.inl x8), some (.inl x9), none, none, none, some (.inr (.inl y0)), none, none, none, none] [.inr (.inl 0)] σ) ∧
  (¬ x12 = 0 →
    call m_M_allMass [.inr (.inr 49)] σ (fun (r1 : Int) (s2 : Mem) =>
    cut 367 [some (.inr (.inr 49)), some (.inl x1), some (.inl x2), some (.inl x3), some (.inl x4), none, some (.inl x6), some (.inl x7), some (.inl x8), some (.inl x9), none, none, none, some (.inr (.inl y0)), none, none, none, none] [.inr (.inl (w64 ((w64 ((w32 (-x7)) * r1)) * x10)))] s2))) : seg none call c_M_time false Q cut 2000 true (toPc 344 c_M_time) [some (.inr (.inr 49)), some (.inl x1), some (.inl x2), some (.inl x3), some (.inl x4), none, some (.inl x6), some (.inl x7), some (.inl x8), some (.inl x9), some (.inr (.inl x10)), none, some (.inl x12), none, none, none, none, none] [.inr (.inl y0)] σ := h
theorem e_M_time_344 {d : Nat} {Q : Int → Mem → Prop} {x1 : Int} {x2 : Int} {x3 : Int} {x4 : Int} {x6 : Int} {x7 : Int} {x8 : Int} {x9 : Int} {x10 : Int} {x12 : Int} {y0 : Int} {σ : Mem} (h :
  (x12 = 0 → K_M_time_367 d Q x1 x2 x3 x4 x6 x7 x8 x9 y0 0 σ) ∧
  (¬ x12 = 0 →
    wp d m_M_allMass [.inr (.inr 49)] σ (fun (r1 : Int) (s2 : Mem) =>
    K_M_time_367 d Q x1 x2 x3 x4 x6 x7 x8 x9 y0 (w64 ((w64 ((w32 (-x7)) * r1)) * x10)) s2))) : K_M_time_344 d Q x1 x2 x3 x4 x6 x7 x8 x9 x10 x12 y0 σ := XX_intro (g_M_time_344 (call := wp d) (cut := XX none (wp d) c_M_time false Q) (Q := Q) (x1 := x1) (x2 := x2) (x3 := x3) (x4 := x4) (x6 := x6) (x7 := x7) (x8 := x8) (x9 := x9) (x10 := x10) (x12 := x12) (y0 := y0) (σ := σ) (h))
theorem g_M_time_367 {call : Nat → List AV → Mem → (Int → Mem → Prop) → Prop} {cut : Nat → Lo → List AV → Mem → Prop} {Q : Int → Mem → Prop} {x1 : Int} {x2 : Int} {x3 : Int} {x4 : Int} {x6 : Int} {x7 : Int} {x8 : Int} {x9 : Int} {x13 : Int} {y0 : Int} {σ : Mem} (h :
  cut 372 [some (.inr (.inr 49)), some (.inl x1), some (.inl x2), some (.inl x3), some (.inl x4), none, some (.inl x6), some (.inl x7), some (.inl x8), some (.inl x9), none, none, none, some (.inr (.inl x13)), none, some (.inr (.inl y0)), none, some (.inl 0)] [] σ) : seg none call c_M_time false Q cut 2000 true (toPc 367 c_M_time) [some (.inr (.inr 49)), some (.inl x1), some (.inl x2), some (.inl x3), some (.inl x4), none, some (.inl x6), some (.inl x7), some (.inl x8), some (.inl x9), none, none, none, some (.inr (.inl x13)), none, none, none, none] [.inr (.inl y0)] σ := h
theorem e_M_time_367 {d : Nat} {Q : Int → Mem → Prop} {x1 : Int} {x2 : Int} {x3 : Int} {x4 : Int} {x6 : Int} {x7 : Int} {x8 : Int} {x9 : Int} {x13 : Int} {y0 : Int} {σ : Mem} (h :
  K_M_time_372 d Q x1 x2 x3 x4 x6 x7 x8 x9 x13 y0 0 σ) : K_M_time_367 d Q x1 x2 x3 x4 x6 x7 x8 x9 x13 y0 σ := XX_intro (g_M_time_367 (call := wp d) (cut := XX none (wp d) c_M_time false Q) (Q := Q) (x1 := x1) (x2 := x2) (x3 := x3) (x4 := x4) (x6 := x6) (x7 := x7) (x8 := x8) (x9 := x9) (x13 := x13) (y0 := y0) (σ := σ) (h))
theorem g_M_time_372 {call : Nat → List AV → Mem → (Int → Mem → Prop) → Prop} {cut : Nat → Lo → List AV → Mem → Prop} {Q : Int → Mem → Prop} {x1 : Int} {x2 : Int} {x3 : Int} {x4 : Int} {x6 : Int} {x7 : Int} {x8 : Int} {x9 : Int} {x13 : Int} {x15 : Int} {x17 : Int} {σ : Mem} (h :
  (x17 < x8 →
    (0 ≤ (w32 ((w32 (x9 * x8)) + x17)) ∧ (w32 ((w32 (x9 * x8)) + x17)) < (216 : Int)) ∧ cut 372 [some (.inr (.inr 49)), some (.inl x1), some (.inl x2), some (.inl x3), some (.inl x4), none, some (.inl x6), some (.inl x7), some (.inl x8), some (.inl x9), none, none, none, some (.inr (.inl x13)), none, some (.inr (.inl (w64 (x15 + (σ 78 (w32 ((w32 (x9 * x8)) + x17)).toNat))))), none, some (.inl (w32 (x17 + 1)))] [] σ) ∧
  (x8 ≤ x17 →
    (x6 < (σ 49 48) →
      (x13 < x15 →
        cut 433 [some (.inr (.inr 49)), some (.inl x1), some (.inl x2), some (.inl x3), some (.inl x4), none, some (.inl x6), some (.inl x7), some (.inl x8), some (.inl x9), none, none, none, none, none, none, none, none] [.inr (.inl x15), .inl x9, .inr (.inr 79)] σ) ∧
      (x15 ≤ x13 →
        cut 431 [some (.inr (.inr 49)), some (.inl x1), some (.inl x2), some (.inl x3), some (.inl x4), none, some (.inl x6), some (.inl x7), some (.inl x8), some (.inl x9), none, none, none, some (.inr (.inl x13)), none, none, none, none] [.inl x9, .inr (.inr 79)] σ)) ∧
    ((σ 49 48) ≤ x6 →
      cut 431 [some (.inr (.inr 49)), some (.inl x1), some (.inl x2), some (.inl x3), some (.inl x4), none, some (.inl x6), some (.inl x7), some (.inl x8), some (.inl x9), none, none, none, some (.inr (.inl x13)), none, none, none, none] [.inl x9, .inr (.inr 79)] σ))) : seg none call c_M_time false Q cut 2000 true (toPc 372 c_M_time) [some (.inr (.inr 49)), some (.inl x1), some (.inl x2), some (.inl x3), some (.inl x4), none, some (.inl x6), some (.inl x7), some (.inl x8), some (.inl x9), none, none, none, some (.inr (.inl x13)), none, some (.inr (.inl x15)), none, some (.inl x17)] [] σ := h
theorem e_M_time_372 {d : Nat} {Q : Int → Mem → Prop} {x1 : Int} {x2 : Int} {x3 : Int} {x4 : Int} {x6 : Int} {x7 : Int} {x8 : Int} {x9 : Int} {x13 : Int} {x15 : Int} {x17 : Int} {σ : Mem} (h :
  (x17 < x8 →
    (0 ≤ (w32 ((w32 (x9 * x8)) + x17)) ∧ (w32 ((w32 (x9 * x8)) + x17)) < (216 : Int)) ∧ K_M_time_372 d Q x1 x2 x3 x4 x6 x7 x8 x9 x13 (w64 (x15 + (σ 78 (w32 ((w32 (x9 * x8)) + x17)).toNat))) (w32 (x17 + 1)) σ) ∧
  (x8 ≤ x17 →
    (x6 < (σ 49 48) →
      (x13 < x15 → K_M_time_433 d Q x1 x2 x3 x4 x6 x7 x8 x9 x9 x15 σ) ∧
      (x15 ≤ x13 → K_M_time_431 d Q x1 x2 x3 x4 x6 x7 x8 x9 x13 x9 σ)) ∧
    ((σ 49 48) ≤ x6 → K_M_time_431 d Q x1 x2 x3 x4 x6 x7 x8 x9 x13 x9 σ))) : K_M_time_372 d Q x1 x2 x3 x4 x6 x7 x8 x9 x13 x15 x17 σ := XX_intro (g_M_time_372 (call := wp d) (cut := XX none (wp d) c_M_time false Q) (Q := Q) (x1 := x1) (x2 := x2) (x3 := x3) (x4 := x4) (x6 := x6) (x7 := x7) (x8 := x8) (x9 := x9) (x13 := x13) (x15 := x15) (x17 := x17) (σ := σ) (h))
theorem g_M_time_431 {call : Nat → List AV → Mem → (Int → Mem → Prop) → Prop} {cut : Nat → Lo → List AV → Mem → Prop} {Q : Int → Mem → Prop} {x1 : Int} {x2 : Int} {x3 : Int} {x4 : Int} {x6 : Int} {x7 : Int} {x8 : Int} {x9 : Int} {x13 : Int} {y1 : Int} {σ : Mem} (h :
  cut 433 [some (.inr (.inr 49)), some (.inl x1), some (.inl x2), some (.inl x3), some (.inl x4), none, some (.inl x6), some (.inl x7), some (.inl x8), some (.inl x9), none, none, none, none, none, none, none, none] [.inr (.inl x13), .inl y1, .inr (.inr 79)] σ) : seg none call c_M_time false Q cut 2000 true (toPc 431 c_M_time) [some (.inr (.inr 49)), some (.inl x1), some (.inl x2), some (.inl x3), some (.inl x4), none, some (.inl x6), some (.inl x7), some (.inl x8), some (.inl x9), none, none, none, some (.inr (.inl x13)), none, none, none, none] [.inl y1, .inr (.inr 79)] σ := h
theorem e_M_time_431 {d : Nat} {Q : Int → Mem → Prop} {x1 : Int} {x2 : Int} {x3 : Int} {x4 : Int} {x6 : Int} {x7 : Int} {x8 : Int} {x9 : Int} {x13 : Int} {y1 : Int} {σ : Mem} (h :
  K_M_time_433 d Q x1 x2 x3 x4 x6 x7 x8 x9 y1 x13 σ) : K_M_time_431 d Q x1 x2 x3 x4 x6 x7 x8 x9 x13 y1 σ := XX_intro (g_M_time_431 (call := wp d) (cut := XX none (wp d) c_M_time false Q) (Q := Q) (x1 := x1) (x2 := x2) (x3 := x3) (x4 := x4) (x6 := x6) (x7 := x7) (x8 := x8) (x9 := x9) (x13 := x13) (y1 := y1) (σ := σ) (h))
theorem g_M_time_433 {call : Nat → List AV → Mem → (Int → Mem → Prop) → Prop} {cut : Nat → Lo → List AV → Mem → Prop} {Q : Int → Mem → Prop} {x1 : Int} {x2 : Int} {x3 : Int} {x4 : Int} {x6 : Int} {x7 : Int} {x8 : Int} {x9 : Int} {y1 : Int} {y2 : Int} {σ : Mem} (h :
  (0 ≤ y1 ∧ y1 < (216 : Int)) ∧ cut 289 [some (.inr (.inr 49)), some (.inl x1), some (.inl x2), some (.inl x3), some (.inl x4), none, some (.inl x6), some (.inl x7), some (.inl x8), some (.inl (w32 (x9 + 1))), none, none, none, none, none, none, none, none] [] (mset σ 79 y1.toNat y2)) : seg none call c_M_time false Q cut 2000 true (toPc 433 c_M_time) [some (.inr (.inr 49)), some (.inl x1), some (.inl x2), some (.inl x3), some (.inl x4), none, some (.inl x6), some (.inl x7), some (.inl x8), some (.inl x9), none, none, none, none, none, none, none, none] [.inr (.inl y2), .inl y1, .inr (.inr 79)] σ := h
theorem e_M_time_433 {d : Nat} {Q : Int → Mem → Prop} {x1 : Int} {x2 : Int} {x3 : Int} {x4 : Int} {x6 : Int} {x7 : Int} {x8 : Int} {x9 : Int} {y1 : Int} {y2 : Int} {σ : Mem} (h :
  (0 ≤ y1 ∧ y1 < (216 : Int)) ∧ K_M_time_289 d Q x1 x2 x3 x4 x6 x7 x8 (w32 (x9 + 1)) (mset σ 79 y1.toNat y2)) : K_M_time_433 d Q x1 x2 x3 x4 x6 x7 x8 x9 y1 y2 σ := XX_intro (g_M_time_433 (call := wp d) (cut := XX none (wp d) c_M_time false Q) (Q := Q) (x1 := x1) (x2 := x2) (x3 := x3) (x4 := x4) (x6 := x6) (x7 := x7) (x8 := x8) (x9 := x9) (y1 := y1) (y2 := y2) (σ := σ) (h))
theorem g_M_time_443 {call : Nat → List AV → Mem → (Int → Mem → Prop) → Prop} {cut : Nat → Lo → List AV → Mem → Prop} {Q : Int → Mem → Prop} {x1 : Int} {x2 : Int} {x3 : Int} {x4 : Int} {x6 : Int} {x9 : Int} {σ : Mem} (h :
  call m_M_waysOf [.inr (.inr 49), .inl x6] σ (fun (r1 : Int) (s2 : Mem) =>
  (x9 < r1 →
      (0 ≤ x9 ∧ x9 < (216 : Int)) ∧ (0 ≤ x9 ∧ x9 < (216 : Int)) ∧ cut 443 [some (.inr (.inr 49)), some (.inl x1), some (.inl x2), some (.inl x3), some (.inl x4), none, some (.inl x6), none, none, some (.inl (w32 (x9 + 1))), none, none, none, none, none, none, none, none] [] (mset s2 78 x9.toNat (s2 79 x9.toNat))) ∧
    (r1 ≤ x9 →
      cut 191 [some (.inr (.inr 49)), some (.inl x1), some (.inl x2), some (.inl x3), some (.inl x4), none, some (.inl (w32 (x6 + (-1)))), none, none, none, none, none, none, none, none, none, none, none] [] s2))) : seg none call c_M_time false Q cut 2000 true (toPc 443 c_M_time) [some (.inr (.inr 49)), some (.inl x1), some (.inl x2), some (.inl x3), some (.inl x4), none, some (.inl x6), none, none, some (.inl x9), none, none, none, none, none, none, none, none] [] σ := h
theorem e_M_time_443 {d : Nat} {Q : Int → Mem → Prop} {x1 : Int} {x2 : Int} {x3 : Int} {x4 : Int} {x6 : Int} {x9 : Int} {σ : Mem} (h :
  wp d m_M_waysOf [.inr (.inr 49), .inl x6] σ (fun (r1 : Int) (s2 : Mem) =>
  (x9 < r1 →
      (0 ≤ x9 ∧ x9 < (216 : Int)) ∧ (0 ≤ x9 ∧ x9 < (216 : Int)) ∧ K_M_time_443 d Q x1 x2 x3 x4 x6 (w32 (x9 + 1)) (mset s2 78 x9.toNat (s2 79 x9.toNat))) ∧
    (r1 ≤ x9 → K_M_time_191 d Q x1 x2 x3 x4 (w32 (x6 + (-1))) s2))) : K_M_time_443 d Q x1 x2 x3 x4 x6 x9 σ := XX_intro (g_M_time_443 (call := wp d) (cut := XX none (wp d) c_M_time false Q) (Q := Q) (x1 := x1) (x2 := x2) (x3 := x3) (x4 := x4) (x6 := x6) (x9 := x9) (σ := σ) (h))
abbrev K_M_undo_46 (d : Nat) (Q : Int → Mem → Prop) (y1 : Int) (y2 : Int) (σ : Mem) : Prop := XX none (wp d) c_M_undo false Q 46 [some (.inr (.inr 49))] [.inl y2, .inl y1, .inr (.inr 49)] σ
abbrev K_M_undo_73 (d : Nat) (Q : Int → Mem → Prop) (y1 : Int) (y2 : Int) (σ : Mem) : Prop := XX none (wp d) c_M_undo false Q 73 [some (.inr (.inr 49))] [.inl y2, .inl y1, .inr (.inr 49)] σ
abbrev K_M_undo_107 (d : Nat) (Q : Int → Mem → Prop) (y1 : Int) (σ : Mem) : Prop := XX none (wp d) c_M_undo false Q 107 [some (.inr (.inr 49))] [.inl y1, .inr (.inr 49)] σ
abbrev K_M_undo_146 (d : Nat) (Q : Int → Mem → Prop)  (σ : Mem) : Prop := XX none (wp d) c_M_undo false Q 146 [none] [] σ
theorem g_M_undo {call : Nat → List AV → Mem → (Int → Mem → Prop) → Prop} {cut : Nat → Lo → List AV → Mem → Prop} {Q : Int → Mem → Prop}  {σ : Mem} (h :
  ((σ 49 19) = 0 →
    call m_M_refuse [.inr (.inr 49), .inl (-3)] σ (fun (r1 : Int) (s2 : Mem) => Q r1 s2)) ∧
  (¬ (σ 49 19) = 0 →
    (0 ≤ ((mset σ 49 19 (w32 ((σ 49 19) - 1))) 49 19) ∧ ((mset σ 49 19 (w32 ((σ 49 19) - 1))) 49 19) < (30 : Int)) ∧ (((mset σ 49 19 (w32 ((σ 49 19) - 1))) 61 ((mset σ 49 19 (w32 ((σ 49 19) - 1))) 49 19).toNat) = 0 →
      cut 46 [some (.inr (.inr 49))] [.inl 1, .inl ((mset σ 49 19 (w32 ((σ 49 19) - 1))) 49 6), .inr (.inr 49)] (mset σ 49 19 (w32 ((σ 49 19) - 1)))) ∧
    (¬ ((mset σ 49 19 (w32 ((σ 49 19) - 1))) 61 ((mset σ 49 19 (w32 ((σ 49 19) - 1))) 49 19).toNat) = 0 →
      cut 46 [some (.inr (.inr 49))] [.inl 0, .inl ((mset σ 49 19 (w32 ((σ 49 19) - 1))) 49 6), .inr (.inr 49)] (mset σ 49 19 (w32 ((σ 49 19) - 1)))))) : seg none call c_M_undo false Q cut 2000 true (toPc 0 c_M_undo) [some (.inr (.inr 49))] [] σ := h
theorem e_M_undo {d : Nat} {Q : Int → Mem → Prop}  {σ : Mem} (h :
  ((σ 49 19) = 0 →
    wp d m_M_refuse [.inr (.inr 49), .inl (-3)] σ (fun (r1 : Int) (s2 : Mem) => Q r1 s2)) ∧
  (¬ (σ 49 19) = 0 →
    (0 ≤ ((mset σ 49 19 (w32 ((σ 49 19) - 1))) 49 19) ∧ ((mset σ 49 19 (w32 ((σ 49 19) - 1))) 49 19) < (30 : Int)) ∧ (((mset σ 49 19 (w32 ((σ 49 19) - 1))) 61 ((mset σ 49 19 (w32 ((σ 49 19) - 1))) 49 19).toNat) = 0 →
      K_M_undo_46 d Q ((mset σ 49 19 (w32 ((σ 49 19) - 1))) 49 6) 1 (mset σ 49 19 (w32 ((σ 49 19) - 1)))) ∧
    (¬ ((mset σ 49 19 (w32 ((σ 49 19) - 1))) 61 ((mset σ 49 19 (w32 ((σ 49 19) - 1))) 49 19).toNat) = 0 →
      K_M_undo_46 d Q ((mset σ 49 19 (w32 ((σ 49 19) - 1))) 49 6) 0 (mset σ 49 19 (w32 ((σ 49 19) - 1)))))) : wp (d + 1) m_M_undo [.inr (.inr 49)] σ Q := wp_in rfl (XX_intro (g_M_undo (call := wp d) (cut := XX none (wp d) c_M_undo false Q) (Q := Q)  (σ := σ) (h)))
theorem g_M_undo_46 {call : Nat → List AV → Mem → (Int → Mem → Prop) → Prop} {cut : Nat → Lo → List AV → Mem → Prop} {Q : Int → Mem → Prop} {y1 : Int} {y2 : Int} {σ : Mem} (h :
  (0 ≤ ((mset σ 49 6 (w32 (y1 - y2))) 49 19) ∧ ((mset σ 49 6 (w32 (y1 - y2))) 49 19) < (30 : Int)) ∧ (((mset σ 49 6 (w32 (y1 - y2))) 61 ((mset σ 49 6 (w32 (y1 - y2))) 49 19).toNat) = 1 →
    cut 73 [some (.inr (.inr 49))] [.inl 1, .inl ((mset σ 49 6 (w32 (y1 - y2))) 49 9), .inr (.inr 49)] (mset σ 49 6 (w32 (y1 - y2)))) ∧
  (¬ ((mset σ 49 6 (w32 (y1 - y2))) 61 ((mset σ 49 6 (w32 (y1 - y2))) 49 19).toNat) = 1 →
    cut 73 [some (.inr (.inr 49))] [.inl 0, .inl ((mset σ 49 6 (w32 (y1 - y2))) 49 9), .inr (.inr 49)] (mset σ 49 6 (w32 (y1 - y2))))) : seg none call c_M_undo false Q cut 2000 true (toPc 46 c_M_undo) [some (.inr (.inr 49))] [.inl y2, .inl y1, .inr (.inr 49)] σ := h
theorem e_M_undo_46 {d : Nat} {Q : Int → Mem → Prop} {y1 : Int} {y2 : Int} {σ : Mem} (h :
  (0 ≤ ((mset σ 49 6 (w32 (y1 - y2))) 49 19) ∧ ((mset σ 49 6 (w32 (y1 - y2))) 49 19) < (30 : Int)) ∧ (((mset σ 49 6 (w32 (y1 - y2))) 61 ((mset σ 49 6 (w32 (y1 - y2))) 49 19).toNat) = 1 →
    K_M_undo_73 d Q ((mset σ 49 6 (w32 (y1 - y2))) 49 9) 1 (mset σ 49 6 (w32 (y1 - y2)))) ∧
  (¬ ((mset σ 49 6 (w32 (y1 - y2))) 61 ((mset σ 49 6 (w32 (y1 - y2))) 49 19).toNat) = 1 →
    K_M_undo_73 d Q ((mset σ 49 6 (w32 (y1 - y2))) 49 9) 0 (mset σ 49 6 (w32 (y1 - y2))))) : K_M_undo_46 d Q y1 y2 σ := XX_intro (g_M_undo_46 (call := wp d) (cut := XX none (wp d) c_M_undo false Q) (Q := Q) (y1 := y1) (y2 := y2) (σ := σ) (h))
theorem g_M_undo_73 {call : Nat → List AV → Mem → (Int → Mem → Prop) → Prop} {cut : Nat → Lo → List AV → Mem → Prop} {Q : Int → Mem → Prop} {y1 : Int} {y2 : Int} {σ : Mem} (h :
  (0 ≤ ((mset σ 49 9 (w32 (y1 - y2))) 49 19) ∧ ((mset σ 49 9 (w32 (y1 - y2))) 49 19) < (30 : Int)) ∧ (((mset σ 49 9 (w32 (y1 - y2))) 61 ((mset σ 49 9 (w32 (y1 - y2))) 49 19).toNat) = 2 →
    (0 ≤ ((mset σ 49 9 (w32 (y1 - y2))) 49 19) ∧ ((mset σ 49 9 (w32 (y1 - y2))) 49 19) < (30 : Int)) ∧ cut 107 [some (.inr (.inr 49))] [.inl ((mset σ 49 9 (w32 (y1 - y2))) 63 ((mset σ 49 9 (w32 (y1 - y2))) 49 19).toNat), .inr (.inr 49)] (mset σ 49 9 (w32 (y1 - y2)))) ∧
  (¬ ((mset σ 49 9 (w32 (y1 - y2))) 61 ((mset σ 49 9 (w32 (y1 - y2))) 49 19).toNat) = 2 →
    cut 107 [some (.inr (.inr 49))] [.inl ((mset σ 49 9 (w32 (y1 - y2))) 49 5), .inr (.inr 49)] (mset σ 49 9 (w32 (y1 - y2))))) : seg none call c_M_undo false Q cut 2000 true (toPc 73 c_M_undo) [some (.inr (.inr 49))] [.inl y2, .inl y1, .inr (.inr 49)] σ := h
theorem e_M_undo_73 {d : Nat} {Q : Int → Mem → Prop} {y1 : Int} {y2 : Int} {σ : Mem} (h :
  (0 ≤ ((mset σ 49 9 (w32 (y1 - y2))) 49 19) ∧ ((mset σ 49 9 (w32 (y1 - y2))) 49 19) < (30 : Int)) ∧ (((mset σ 49 9 (w32 (y1 - y2))) 61 ((mset σ 49 9 (w32 (y1 - y2))) 49 19).toNat) = 2 →
    (0 ≤ ((mset σ 49 9 (w32 (y1 - y2))) 49 19) ∧ ((mset σ 49 9 (w32 (y1 - y2))) 49 19) < (30 : Int)) ∧ K_M_undo_107 d Q ((mset σ 49 9 (w32 (y1 - y2))) 63 ((mset σ 49 9 (w32 (y1 - y2))) 49 19).toNat) (mset σ 49 9 (w32 (y1 - y2)))) ∧
  (¬ ((mset σ 49 9 (w32 (y1 - y2))) 61 ((mset σ 49 9 (w32 (y1 - y2))) 49 19).toNat) = 2 →
    K_M_undo_107 d Q ((mset σ 49 9 (w32 (y1 - y2))) 49 5) (mset σ 49 9 (w32 (y1 - y2))))) : K_M_undo_73 d Q y1 y2 σ := XX_intro (g_M_undo_73 (call := wp d) (cut := XX none (wp d) c_M_undo false Q) (Q := Q) (y1 := y1) (y2 := y2) (σ := σ) (h))
theorem g_M_undo_107 {call : Nat → List AV → Mem → (Int → Mem → Prop) → Prop} {cut : Nat → Lo → List AV → Mem → Prop} {Q : Int → Mem → Prop} {y1 : Int} {σ : Mem} (h :
  (0 ≤ ((mset σ 49 5 y1) 49 19) ∧ ((mset σ 49 5 y1) 49 19) < (30 : Int)) ∧ (((mset σ 49 5 y1) 61 ((mset σ 49 5 y1) 49 19).toNat) = 3 →
    (0 ≤ ((mset σ 49 5 y1) 49 19) ∧ ((mset σ 49 5 y1) 49 19) < (30 : Int)) ∧ (0 ≤ ((mset σ 49 5 y1) 49 19) ∧ ((mset σ 49 5 y1) 49 19) < (30 : Int)) ∧ (0 ≤ ((mset σ 49 5 y1) 62 ((mset σ 49 5 y1) 49 19).toNat) ∧ ((mset σ 49 5 y1) 62 ((mset σ 49 5 y1) 49 19).toNat) < (72 : Int)) ∧ cut 146 [none] [] (mset (mset σ 49 5 y1) 52 ((mset σ 49 5 y1) 62 ((mset σ 49 5 y1) 49 19).toNat).toNat ((mset σ 49 5 y1) 63 ((mset σ 49 5 y1) 49 19).toNat))) ∧
  (¬ ((mset σ 49 5 y1) 61 ((mset σ 49 5 y1) 49 19).toNat) = 3 → cut 146 [none] [] (mset σ 49 5 y1))) : seg none call c_M_undo false Q cut 2000 true (toPc 107 c_M_undo) [some (.inr (.inr 49))] [.inl y1, .inr (.inr 49)] σ := h
theorem e_M_undo_107 {d : Nat} {Q : Int → Mem → Prop} {y1 : Int} {σ : Mem} (h :
  (0 ≤ ((mset σ 49 5 y1) 49 19) ∧ ((mset σ 49 5 y1) 49 19) < (30 : Int)) ∧ (((mset σ 49 5 y1) 61 ((mset σ 49 5 y1) 49 19).toNat) = 3 →
    (0 ≤ ((mset σ 49 5 y1) 49 19) ∧ ((mset σ 49 5 y1) 49 19) < (30 : Int)) ∧ (0 ≤ ((mset σ 49 5 y1) 49 19) ∧ ((mset σ 49 5 y1) 49 19) < (30 : Int)) ∧ (0 ≤ ((mset σ 49 5 y1) 62 ((mset σ 49 5 y1) 49 19).toNat) ∧ ((mset σ 49 5 y1) 62 ((mset σ 49 5 y1) 49 19).toNat) < (72 : Int)) ∧ K_M_undo_146 d Q  (mset (mset σ 49 5 y1) 52 ((mset σ 49 5 y1) 62 ((mset σ 49 5 y1) 49 19).toNat).toNat ((mset σ 49 5 y1) 63 ((mset σ 49 5 y1) 49 19).toNat))) ∧
  (¬ ((mset σ 49 5 y1) 61 ((mset σ 49 5 y1) 49 19).toNat) = 3 → K_M_undo_146 d Q  (mset σ 49 5 y1))) : K_M_undo_107 d Q y1 σ := XX_intro (g_M_undo_107 (call := wp d) (cut := XX none (wp d) c_M_undo false Q) (Q := Q) (y1 := y1) (σ := σ) (h))
theorem g_M_undo_146 {call : Nat → List AV → Mem → (Int → Mem → Prop) → Prop} {cut : Nat → Lo → List AV → Mem → Prop} {Q : Int → Mem → Prop}  {σ : Mem} (h :
  Q 1 σ) : seg none call c_M_undo false Q cut 2000 true (toPc 146 c_M_undo) [none] [] σ := h
theorem e_M_undo_146 {d : Nat} {Q : Int → Mem → Prop}  {σ : Mem} (h :
  Q 1 σ) : K_M_undo_146 d Q  σ := XX_intro (g_M_undo_146 (call := wp d) (cut := XX none (wp d) c_M_undo false Q) (Q := Q)  (σ := σ) (h))
theorem g_M_move {call : Nat → List AV → Mem → (Int → Mem → Prop) → Prop} {cut : Nat → Lo → List AV → Mem → Prop} {Q : Int → Mem → Prop} {a1 : Int} {σ : Mem} (h :
  ((σ 49 58) = 0 →
    (0 ≤ (w32 (((mset σ 49 57 (w32 ((σ 49 57) + 1))) 49 57) - 1)) ∧ (w32 (((mset σ 49 57 (w32 ((σ 49 57) + 1))) 49 57) - 1)) < (500 : Int)) ∧ Q ((mset σ 49 57 (w32 ((σ 49 57) + 1))) 80 (w32 (((mset σ 49 57 (w32 ((σ 49 57) + 1))) 49 57) - 1)).toNat) (mset σ 49 57 (w32 ((σ 49 57) + 1)))) ∧
  (¬ (σ 49 58) = 0 →
    (0 ≤ (σ 49 57) ∧ (σ 49 57) < (500 : Int)) ∧ (0 ≤ (w32 (((mset (mset σ 80 (σ 49 57).toNat a1) 49 57 (w32 (((mset σ 80 (σ 49 57).toNat a1) 49 57) + 1))) 49 57) - 1)) ∧ (w32 (((mset (mset σ 80 (σ 49 57).toNat a1) 49 57 (w32 (((mset σ 80 (σ 49 57).toNat a1) 49 57) + 1))) 49 57) - 1)) < (500 : Int)) ∧ Q ((mset (mset σ 80 (σ 49 57).toNat a1) 49 57 (w32 (((mset σ 80 (σ 49 57).toNat a1) 49 57) + 1))) 80 (w32 (((mset (mset σ 80 (σ 49 57).toNat a1) 49 57 (w32 (((mset σ 80 (σ 49 57).toNat a1) 49 57) + 1))) 49 57) - 1)).toNat) (mset (mset σ 80 (σ 49 57).toNat a1) 49 57 (w32 (((mset σ 80 (σ 49 57).toNat a1) 49 57) + 1))))) : seg none call c_M_move false Q cut 2000 true (toPc 0 c_M_move) [some (.inr (.inr 49)), some (.inl a1)] [] σ := h
theorem e_M_move {d : Nat} {Q : Int → Mem → Prop} {a1 : Int} {σ : Mem} (h :
  ((σ 49 58) = 0 →
    (0 ≤ (w32 (((mset σ 49 57 (w32 ((σ 49 57) + 1))) 49 57) - 1)) ∧ (w32 (((mset σ 49 57 (w32 ((σ 49 57) + 1))) 49 57) - 1)) < (500 : Int)) ∧ Q ((mset σ 49 57 (w32 ((σ 49 57) + 1))) 80 (w32 (((mset σ 49 57 (w32 ((σ 49 57) + 1))) 49 57) - 1)).toNat) (mset σ 49 57 (w32 ((σ 49 57) + 1)))) ∧
  (¬ (σ 49 58) = 0 →
    (0 ≤ (σ 49 57) ∧ (σ 49 57) < (500 : Int)) ∧ (0 ≤ (w32 (((mset (mset σ 80 (σ 49 57).toNat a1) 49 57 (w32 (((mset σ 80 (σ 49 57).toNat a1) 49 57) + 1))) 49 57) - 1)) ∧ (w32 (((mset (mset σ 80 (σ 49 57).toNat a1) 49 57 (w32 (((mset σ 80 (σ 49 57).toNat a1) 49 57) + 1))) 49 57) - 1)) < (500 : Int)) ∧ Q ((mset (mset σ 80 (σ 49 57).toNat a1) 49 57 (w32 (((mset σ 80 (σ 49 57).toNat a1) 49 57) + 1))) 80 (w32 (((mset (mset σ 80 (σ 49 57).toNat a1) 49 57 (w32 (((mset σ 80 (σ 49 57).toNat a1) 49 57) + 1))) 49 57) - 1)).toNat) (mset (mset σ 80 (σ 49 57).toNat a1) 49 57 (w32 (((mset σ 80 (σ 49 57).toNat a1) 49 57) + 1))))) : wp (d + 1) m_M_move [.inr (.inr 49), .inl a1] σ Q := wp_in rfl (XX_intro (g_M_move (call := wp d) (cut := XX none (wp d) c_M_move false Q) (Q := Q) (a1 := a1) (σ := σ) (h)))
abbrev K_M_moveAll_79 (d : Nat) (Q : Int → Mem → Prop) (x1 : Int) (σ : Mem) : Prop := XX none (wp d) c_M_moveAll false Q 79 [some (.inr (.inr 49)), some (.inl x1)] [] σ
abbrev K_M_moveAll_124 (d : Nat) (Q : Int → Mem → Prop) (x1 : Int) (σ : Mem) : Prop := XX none (wp d) c_M_moveAll false Q 124 [some (.inr (.inr 49)), some (.inl x1)] [] σ
abbrev K_M_moveAll_154 (d : Nat) (Q : Int → Mem → Prop) (x1 : Int) (σ : Mem) : Prop := XX none (wp d) c_M_moveAll false Q 154 [some (.inr (.inr 49)), some (.inl x1)] [] σ
abbrev K_M_moveAll_184 (d : Nat) (Q : Int → Mem → Prop) (x1 : Int) (σ : Mem) : Prop := XX none (wp d) c_M_moveAll false Q 184 [some (.inr (.inr 49)), some (.inl x1)] [] σ
abbrev K_M_moveAll_215 (d : Nat) (Q : Int → Mem → Prop) (x1 : Int) (σ : Mem) : Prop := XX none (wp d) c_M_moveAll false Q 215 [some (.inr (.inr 49)), some (.inl x1)] [] σ
abbrev K_M_moveAll_277 (d : Nat) (Q : Int → Mem → Prop) (x1 : Int) (σ : Mem) : Prop := XX none (wp d) c_M_moveAll false Q 277 [some (.inr (.inr 49)), some (.inl x1)] [] σ
theorem g_M_moveAll {call : Nat → List AV → Mem → (Int → Mem → Prop) → Prop} {cut : Nat → Lo → List AV → Mem → Prop} {Q : Int → Mem → Prop}  {σ : Mem} (h :
  call m_M_move [.inr (.inr 49), .inl ((mset σ 49 57 0) 49 0)] (mset σ 49 57 0) (fun (r1 : Int) (s2 : Mem) =>
  call m_M_move [.inr (.inr 49), .inl ((mset s2 49 0 r1) 49 1)] (mset s2 49 0 r1) (fun (r3 : Int) (s4 : Mem) =>
    call m_M_move [.inr (.inr 49), .inl ((mset s4 49 1 r3) 49 5)] (mset s4 49 1 r3) (fun (r5 : Int) (s6 : Mem) =>
      call m_M_move [.inr (.inr 49), .inl ((mset s6 49 5 r5) 49 6)] (mset s6 49 5 r5) (fun (r7 : Int) (s8 : Mem) =>
        call m_M_move [.inr (.inr 49), .inl ((mset s8 49 6 r7) 49 9)] (mset s8 49 6 r7) (fun (r9 : Int) (s10 : Mem) =>
          call m_M_move [.inr (.inr 49), .inl ((mset s10 49 9 r9) 49 12)] (mset s10 49 9 r9) (fun (r11 : Int) (s12 : Mem) =>
            cut 79 [some (.inr (.inr 49)), some (.inl 0)] [] (mset s12 49 12 r11)))))))) : seg none call c_M_moveAll false Q cut 2000 true (toPc 0 c_M_moveAll) [some (.inr (.inr 49)), none] [] σ := h
theorem e_M_moveAll {d : Nat} {Q : Int → Mem → Prop}  {σ : Mem} (h :
  wp d m_M_move [.inr (.inr 49), .inl ((mset σ 49 57 0) 49 0)] (mset σ 49 57 0) (fun (r1 : Int) (s2 : Mem) =>
  wp d m_M_move [.inr (.inr 49), .inl ((mset s2 49 0 r1) 49 1)] (mset s2 49 0 r1) (fun (r3 : Int) (s4 : Mem) =>
    wp d m_M_move [.inr (.inr 49), .inl ((mset s4 49 1 r3) 49 5)] (mset s4 49 1 r3) (fun (r5 : Int) (s6 : Mem) =>
      wp d m_M_move [.inr (.inr 49), .inl ((mset s6 49 5 r5) 49 6)] (mset s6 49 5 r5) (fun (r7 : Int) (s8 : Mem) =>
        wp d m_M_move [.inr (.inr 49), .inl ((mset s8 49 6 r7) 49 9)] (mset s8 49 6 r7) (fun (r9 : Int) (s10 : Mem) =>
          wp d m_M_move [.inr (.inr 49), .inl ((mset s10 49 9 r9) 49 12)] (mset s10 49 9 r9) (fun (r11 : Int) (s12 : Mem) => K_M_moveAll_79 d Q 0 (mset s12 49 12 r11)))))))) : wp (d + 1) m_M_moveAll [.inr (.inr 49)] σ Q := wp_in rfl (XX_intro (g_M_moveAll (call := wp d) (cut := XX none (wp d) c_M_moveAll false Q) (Q := Q)  (σ := σ) (h)))
theorem g_M_moveAll_79 {call : Nat → List AV → Mem → (Int → Mem → Prop) → Prop} {cut : Nat → Lo → List AV → Mem → Prop} {Q : Int → Mem → Prop} {x1 : Int} {σ : Mem} (h :
  (x1 < 4 →
    (0 ≤ x1 ∧ x1 < (4 : Int)) ∧ call m_M_move [.inr (.inr 49), .inl (σ 50 x1.toNat)] σ (fun (r1 : Int) (s2 : Mem) =>
    (0 ≤ x1 ∧ x1 < (4 : Int)) ∧ (0 ≤ x1 ∧ x1 < (4 : Int)) ∧ call m_M_move [.inr (.inr 49), .inl ((mset s2 50 x1.toNat r1) 51 x1.toNat)] (mset s2 50 x1.toNat r1) (fun (r3 : Int) (s4 : Mem) =>
      (0 ≤ x1 ∧ x1 < (4 : Int)) ∧ cut 79 [some (.inr (.inr 49)), some (.inl (w32 (x1 + 1)))] [] (mset s4 51 x1.toNat r3)))) ∧
  (4 ≤ x1 → cut 124 [some (.inr (.inr 49)), some (.inl 0)] [] σ)) : seg none call c_M_moveAll false Q cut 2000 true (toPc 79 c_M_moveAll) [some (.inr (.inr 49)), some (.inl x1)] [] σ := h
theorem e_M_moveAll_79 {d : Nat} {Q : Int → Mem → Prop} {x1 : Int} {σ : Mem} (h :
  (x1 < 4 →
    (0 ≤ x1 ∧ x1 < (4 : Int)) ∧ wp d m_M_move [.inr (.inr 49), .inl (σ 50 x1.toNat)] σ (fun (r1 : Int) (s2 : Mem) =>
    (0 ≤ x1 ∧ x1 < (4 : Int)) ∧ (0 ≤ x1 ∧ x1 < (4 : Int)) ∧ wp d m_M_move [.inr (.inr 49), .inl ((mset s2 50 x1.toNat r1) 51 x1.toNat)] (mset s2 50 x1.toNat r1) (fun (r3 : Int) (s4 : Mem) =>
      (0 ≤ x1 ∧ x1 < (4 : Int)) ∧ K_M_moveAll_79 d Q (w32 (x1 + 1)) (mset s4 51 x1.toNat r3)))) ∧
  (4 ≤ x1 → K_M_moveAll_124 d Q 0 σ)) : K_M_moveAll_79 d Q x1 σ := XX_intro (g_M_moveAll_79 (call := wp d) (cut := XX none (wp d) c_M_moveAll false Q) (Q := Q) (x1 := x1) (σ := σ) (h))
theorem g_M_moveAll_124 {call : Nat → List AV → Mem → (Int → Mem → Prop) → Prop} {cut : Nat → Lo → List AV → Mem → Prop} {Q : Int → Mem → Prop} {x1 : Int} {σ : Mem} (h :
  (x1 < 72 →
    (0 ≤ x1 ∧ x1 < (72 : Int)) ∧ call m_M_move [.inr (.inr 49), .inl (σ 52 x1.toNat)] σ (fun (r1 : Int) (s2 : Mem) =>
    (0 ≤ x1 ∧ x1 < (72 : Int)) ∧ cut 124 [some (.inr (.inr 49)), some (.inl (w32 (x1 + 1)))] [] (mset s2 52 x1.toNat r1))) ∧
  (72 ≤ x1 → cut 154 [some (.inr (.inr 49)), some (.inl 0)] [] σ)) : seg none call c_M_moveAll false Q cut 2000 true (toPc 124 c_M_moveAll) [some (.inr (.inr 49)), some (.inl x1)] [] σ := h
theorem e_M_moveAll_124 {d : Nat} {Q : Int → Mem → Prop} {x1 : Int} {σ : Mem} (h :
  (x1 < 72 →
    (0 ≤ x1 ∧ x1 < (72 : Int)) ∧ wp d m_M_move [.inr (.inr 49), .inl (σ 52 x1.toNat)] σ (fun (r1 : Int) (s2 : Mem) =>
    (0 ≤ x1 ∧ x1 < (72 : Int)) ∧ K_M_moveAll_124 d Q (w32 (x1 + 1)) (mset s2 52 x1.toNat r1))) ∧
  (72 ≤ x1 → K_M_moveAll_154 d Q 0 σ)) : K_M_moveAll_124 d Q x1 σ := XX_intro (g_M_moveAll_124 (call := wp d) (cut := XX none (wp d) c_M_moveAll false Q) (Q := Q) (x1 := x1) (σ := σ) (h))
theorem g_M_moveAll_154 {call : Nat → List AV → Mem → (Int → Mem → Prop) → Prop} {cut : Nat → Lo → List AV → Mem → Prop} {Q : Int → Mem → Prop} {x1 : Int} {σ : Mem} (h :
  (x1 < 12 →
    (0 ≤ x1 ∧ x1 < (13 : Int)) ∧ call m_M_move [.inr (.inr 49), .inl (σ 53 x1.toNat)] σ (fun (r1 : Int) (s2 : Mem) =>
    (0 ≤ x1 ∧ x1 < (13 : Int)) ∧ cut 154 [some (.inr (.inr 49)), some (.inl (w32 (x1 + 1)))] [] (mset s2 53 x1.toNat r1))) ∧
  (12 ≤ x1 → cut 184 [some (.inr (.inr 49)), some (.inl 0)] [] σ)) : seg none call c_M_moveAll false Q cut 2000 true (toPc 154 c_M_moveAll) [some (.inr (.inr 49)), some (.inl x1)] [] σ := h
theorem e_M_moveAll_154 {d : Nat} {Q : Int → Mem → Prop} {x1 : Int} {σ : Mem} (h :
  (x1 < 12 →
    (0 ≤ x1 ∧ x1 < (13 : Int)) ∧ wp d m_M_move [.inr (.inr 49), .inl (σ 53 x1.toNat)] σ (fun (r1 : Int) (s2 : Mem) =>
    (0 ≤ x1 ∧ x1 < (13 : Int)) ∧ K_M_moveAll_154 d Q (w32 (x1 + 1)) (mset s2 53 x1.toNat r1))) ∧
  (12 ≤ x1 → K_M_moveAll_184 d Q 0 σ)) : K_M_moveAll_154 d Q x1 σ := XX_intro (g_M_moveAll_154 (call := wp d) (cut := XX none (wp d) c_M_moveAll false Q) (Q := Q) (x1 := x1) (σ := σ) (h))
theorem g_M_moveAll_184 {call : Nat → List AV → Mem → (Int → Mem → Prop) → Prop} {cut : Nat → Lo → List AV → Mem → Prop} {Q : Int → Mem → Prop} {x1 : Int} {σ : Mem} (h :
  (x1 < 288 →
    (0 ≤ x1 ∧ x1 < (312 : Int)) ∧ call m_M_move [.inr (.inr 49), .inl (σ 54 x1.toNat)] σ (fun (r1 : Int) (s2 : Mem) =>
    (0 ≤ x1 ∧ x1 < (312 : Int)) ∧ cut 184 [some (.inr (.inr 49)), some (.inl (w32 (x1 + 1)))] [] (mset s2 54 x1.toNat r1))) ∧
  (288 ≤ x1 → cut 215 [some (.inr (.inr 49)), some (.inl 0)] [] σ)) : seg none call c_M_moveAll false Q cut 2000 true (toPc 184 c_M_moveAll) [some (.inr (.inr 49)), some (.inl x1)] [] σ := h
theorem e_M_moveAll_184 {d : Nat} {Q : Int → Mem → Prop} {x1 : Int} {σ : Mem} (h :
  (x1 < 288 →
    (0 ≤ x1 ∧ x1 < (312 : Int)) ∧ wp d m_M_move [.inr (.inr 49), .inl (σ 54 x1.toNat)] σ (fun (r1 : Int) (s2 : Mem) =>
    (0 ≤ x1 ∧ x1 < (312 : Int)) ∧ K_M_moveAll_184 d Q (w32 (x1 + 1)) (mset s2 54 x1.toNat r1))) ∧
  (288 ≤ x1 → K_M_moveAll_215 d Q 0 σ)) : K_M_moveAll_184 d Q x1 σ := XX_intro (g_M_moveAll_184 (call := wp d) (cut := XX none (wp d) c_M_moveAll false Q) (Q := Q) (x1 := x1) (σ := σ) (h))
theorem g_M_moveAll_215 {call : Nat → List AV → Mem → (Int → Mem → Prop) → Prop} {cut : Nat → Lo → List AV → Mem → Prop} {Q : Int → Mem → Prop} {x1 : Int} {σ : Mem} (h :
  (x1 < 6 →
    (0 ≤ x1 ∧ x1 < (6 : Int)) ∧ call m_M_move [.inr (.inr 49), .inl (σ 55 x1.toNat)] σ (fun (r1 : Int) (s2 : Mem) =>
    (0 ≤ x1 ∧ x1 < (6 : Int)) ∧ (0 ≤ x1 ∧ x1 < (6 : Int)) ∧ call m_M_move [.inr (.inr 49), .inl ((mset s2 55 x1.toNat r1) 56 x1.toNat)] (mset s2 55 x1.toNat r1) (fun (r3 : Int) (s4 : Mem) =>
      (0 ≤ x1 ∧ x1 < (6 : Int)) ∧ (0 ≤ x1 ∧ x1 < (6 : Int)) ∧ call m_M_move [.inr (.inr 49), .inl ((mset s4 56 x1.toNat r3) 58 x1.toNat)] (mset s4 56 x1.toNat r3) (fun (r5 : Int) (s6 : Mem) =>
        (0 ≤ x1 ∧ x1 < (6 : Int)) ∧ cut 215 [some (.inr (.inr 49)), some (.inl (w32 (x1 + 1)))] [] (mset s6 58 x1.toNat r5))))) ∧
  (6 ≤ x1 → cut 277 [some (.inr (.inr 49)), some (.inl 0)] [] σ)) : seg none call c_M_moveAll false Q cut 2000 true (toPc 215 c_M_moveAll) [some (.inr (.inr 49)), some (.inl x1)] [] σ := h
theorem e_M_moveAll_215 {d : Nat} {Q : Int → Mem → Prop} {x1 : Int} {σ : Mem} (h :
  (x1 < 6 →
    (0 ≤ x1 ∧ x1 < (6 : Int)) ∧ wp d m_M_move [.inr (.inr 49), .inl (σ 55 x1.toNat)] σ (fun (r1 : Int) (s2 : Mem) =>
    (0 ≤ x1 ∧ x1 < (6 : Int)) ∧ (0 ≤ x1 ∧ x1 < (6 : Int)) ∧ wp d m_M_move [.inr (.inr 49), .inl ((mset s2 55 x1.toNat r1) 56 x1.toNat)] (mset s2 55 x1.toNat r1) (fun (r3 : Int) (s4 : Mem) =>
      (0 ≤ x1 ∧ x1 < (6 : Int)) ∧ (0 ≤ x1 ∧ x1 < (6 : Int)) ∧ wp d m_M_move [.inr (.inr 49), .inl ((mset s4 56 x1.toNat r3) 58 x1.toNat)] (mset s4 56 x1.toNat r3) (fun (r5 : Int) (s6 : Mem) =>
        (0 ≤ x1 ∧ x1 < (6 : Int)) ∧ K_M_moveAll_215 d Q (w32 (x1 + 1)) (mset s6 58 x1.toNat r5))))) ∧
  (6 ≤ x1 → K_M_moveAll_277 d Q 0 σ)) : K_M_moveAll_215 d Q x1 σ := XX_intro (g_M_moveAll_215 (call := wp d) (cut := XX none (wp d) c_M_moveAll false Q) (Q := Q) (x1 := x1) (σ := σ) (h))
theorem g_M_moveAll_277 {call : Nat → List AV → Mem → (Int → Mem → Prop) → Prop} {cut : Nat → Lo → List AV → Mem → Prop} {Q : Int → Mem → Prop} {x1 : Int} {σ : Mem} (h :
  (x1 < 24 →
    (0 ≤ x1 ∧ x1 < (24 : Int)) ∧ call m_M_move [.inr (.inr 49), .inl (σ 57 x1.toNat)] σ (fun (r1 : Int) (s2 : Mem) =>
    (0 ≤ x1 ∧ x1 < (24 : Int)) ∧ cut 277 [some (.inr (.inr 49)), some (.inl (w32 (x1 + 1)))] [] (mset s2 57 x1.toNat r1))) ∧
  (24 ≤ x1 → Q 0 σ)) : seg none call c_M_moveAll false Q cut 2000 true (toPc 277 c_M_moveAll) [some (.inr (.inr 49)), some (.inl x1)] [] σ := h
theorem e_M_moveAll_277 {d : Nat} {Q : Int → Mem → Prop} {x1 : Int} {σ : Mem} (h :
  (x1 < 24 →
    (0 ≤ x1 ∧ x1 < (24 : Int)) ∧ wp d m_M_move [.inr (.inr 49), .inl (σ 57 x1.toNat)] σ (fun (r1 : Int) (s2 : Mem) =>
    (0 ≤ x1 ∧ x1 < (24 : Int)) ∧ K_M_moveAll_277 d Q (w32 (x1 + 1)) (mset s2 57 x1.toNat r1))) ∧
  (24 ≤ x1 → Q 0 σ)) : K_M_moveAll_277 d Q x1 σ := XX_intro (g_M_moveAll_277 (call := wp d) (cut := XX none (wp d) c_M_moveAll false Q) (Q := Q) (x1 := x1) (σ := σ) (h))
theorem g_M_image {call : Nat → List AV → Mem → (Int → Mem → Prop) → Prop} {cut : Nat → Lo → List AV → Mem → Prop} {Q : Int → Mem → Prop}  {σ : Mem} (h :
  ((σ 49 0) = 0 →
    call m_M_refuse [.inr (.inr 49), .inl (-3)] σ (fun (r3 : Int) (s4 : Mem) => Q r3 s4)) ∧
  (¬ (σ 49 0) = 0 →
    (isB 1) ∧ (isB 1) ∧ call m_M_moveAll [.inr (.inr 49)] (mset (mset σ 49 55 1) 49 58 1) (fun (r1 : Int) (s2 : Mem) => Q (s2 49 6) s2))) : seg none call c_M_image false Q cut 2000 true (toPc 0 c_M_image) [some (.inr (.inr 49))] [] σ := h
theorem e_M_image {d : Nat} {Q : Int → Mem → Prop}  {σ : Mem} (h :
  ((σ 49 0) = 0 →
    wp d m_M_refuse [.inr (.inr 49), .inl (-3)] σ (fun (r3 : Int) (s4 : Mem) => Q r3 s4)) ∧
  (¬ (σ 49 0) = 0 →
    wp d m_M_moveAll [.inr (.inr 49)] (mset (mset σ 49 55 1) 49 58 1) (fun (r1 : Int) (s2 : Mem) => Q (s2 49 6) s2))) : wp (d + 1) m_M_image [.inr (.inr 49)] σ Q := wp_in rfl (XX_intro (g_M_image (call := wp d) (cut := XX none (wp d) c_M_image false Q) (Q := Q)  (σ := σ) (⟨fun z1 => (h).1 z1, fun z1 => ⟨isB1, ⟨isB1, ((h).2 z1)⟩⟩⟩)))
theorem g_M_on {call : Nat → List AV → Mem → (Int → Mem → Prop) → Prop} {cut : Nat → Lo → List AV → Mem → Prop} {Q : Int → Mem → Prop}  {σ : Mem} (h :
  ((σ 49 55) = 0 →
    call m_M_refuse [.inr (.inr 49), .inl (-3)] σ (fun (r3 : Int) (s4 : Mem) => Q r3 s4)) ∧
  (¬ (σ 49 55) = 0 →
    (isB 0) ∧ call m_M_moveAll [.inr (.inr 49)] (mset σ 49 58 0) (fun (r1 : Int) (s2 : Mem) => Q ((mset s2 49 19 0) 49 6) (mset s2 49 19 0)))) : seg none call c_M_on false Q cut 2000 true (toPc 0 c_M_on) [some (.inr (.inr 49))] [] σ := h
theorem e_M_on {d : Nat} {Q : Int → Mem → Prop}  {σ : Mem} (h :
  ((σ 49 55) = 0 →
    wp d m_M_refuse [.inr (.inr 49), .inl (-3)] σ (fun (r3 : Int) (s4 : Mem) => Q r3 s4)) ∧
  (¬ (σ 49 55) = 0 →
    wp d m_M_moveAll [.inr (.inr 49)] (mset σ 49 58 0) (fun (r1 : Int) (s2 : Mem) => Q ((mset s2 49 19 0) 49 6) (mset s2 49 19 0)))) : wp (d + 1) m_M_on [.inr (.inr 49)] σ Q := wp_in rfl (XX_intro (g_M_on (call := wp d) (cut := XX none (wp d) c_M_on false Q) (Q := Q)  (σ := σ) (⟨fun z1 => (h).1 z1, fun z1 => ⟨isB0, ((h).2 z1)⟩⟩)))
theorem g_M_count {call : Nat → List AV → Mem → (Int → Mem → Prop) → Prop} {cut : Nat → Lo → List AV → Mem → Prop} {Q : Int → Mem → Prop} {a1 : Int} {σ : Mem} (h :
  (a1 < 0 ∨ 7 < a1 → call m_M_in [.inr (.inl a1), .inr (.inl 11), .inr (.inl 16)] σ (fun (r1 : Int) (s2 : Mem) =>
    (r1 = 0 → Q (-9) s2) ∧
      (¬ r1 = 0 →
        (0 ≤ (w32 (a1 - 10)) ∧ (w32 (a1 - 10)) < (7 : Int)) ∧ Q (s2 64 (w32 (a1 - 10)).toNat) s2))) ∧
  (a1 = 0 → Q (σ 49 0) σ) ∧
  (a1 = 0 + 1 → Q (σ 49 1) σ) ∧
  (a1 = 0 + 1 + 1 → Q (σ 49 6) σ) ∧
  (a1 = 0 + 1 + 1 + 1 → Q (σ 49 9) σ) ∧
  (a1 = 0 + 1 + 1 + 1 + 1 → Q (σ 49 12) σ) ∧
  (a1 = 0 + 1 + 1 + 1 + 1 + 1 → Q (σ 49 16) σ) ∧
  (a1 = 0 + 1 + 1 + 1 + 1 + 1 + 1 → Q (σ 49 18) σ) ∧
  (a1 = 0 + 1 + 1 + 1 + 1 + 1 + 1 + 1 → Q (σ 49 19) σ) ∧ True) : seg none call c_M_count false Q cut 2000 true (toPc 0 c_M_count) [some (.inr (.inr 49)), some (.inl a1)] [] σ := h
theorem e_M_count {d : Nat} {Q : Int → Mem → Prop} {a1 : Int} {σ : Mem} (h :
  (a1 < 0 ∨ 7 < a1 → wp d m_M_in [.inr (.inl a1), .inr (.inl 11), .inr (.inl 16)] σ (fun (r1 : Int) (s2 : Mem) =>
    (r1 = 0 → Q (-9) s2) ∧
      (¬ r1 = 0 →
        (0 ≤ (w32 (a1 - 10)) ∧ (w32 (a1 - 10)) < (7 : Int)) ∧ Q (s2 64 (w32 (a1 - 10)).toNat) s2))) ∧
  (a1 = 0 → Q (σ 49 0) σ) ∧
  (a1 = 1 → Q (σ 49 1) σ) ∧
  (a1 = 2 → Q (σ 49 6) σ) ∧
  (a1 = 3 → Q (σ 49 9) σ) ∧
  (a1 = 4 → Q (σ 49 12) σ) ∧
  (a1 = 5 → Q (σ 49 16) σ) ∧
  (a1 = 6 → Q (σ 49 18) σ) ∧
  (a1 = 7 → Q (σ 49 19) σ)) : wp (d + 1) m_M_count [.inr (.inr 49), .inl a1] σ Q := wp_in rfl (XX_intro (g_M_count (call := wp d) (cut := XX none (wp d) c_M_count false Q) (Q := Q) (a1 := a1) (σ := σ) (⟨fun z1 => ((h).1 z1), fun z1 => ((h).2.1 (z1.trans (by decide))), fun z1 => ((h).2.2.1 (z1.trans (by decide))), fun z1 => ((h).2.2.2.1 (z1.trans (by decide))), fun z1 => ((h).2.2.2.2.1 (z1.trans (by decide))), fun z1 => ((h).2.2.2.2.2.1 (z1.trans (by decide))), fun z1 => ((h).2.2.2.2.2.2.1 (z1.trans (by decide))), fun z1 => ((h).2.2.2.2.2.2.2.1 (z1.trans (by decide))), fun z1 => ((h).2.2.2.2.2.2.2.2 (z1.trans (by decide))), trivial⟩)))
theorem g_J_bitCountI {call : Nat → List AV → Mem → (Int → Mem → Prop) → Prop} {cut : Nat → Lo → List AV → Mem → Prop} {Q : Int → Mem → Prop} {a0 : Int} {σ : Mem} (h :
  Q (andI (w32 ((w32 ((andI (w32 ((w32 ((andI (w32 (a0 - (andI (ushrI a0 1) 1431655765))) 858993459) + (andI (ushrI (w32 (a0 - (andI (ushrI a0 1) 1431655765))) 2) 858993459))) + (ushrI (w32 ((andI (w32 (a0 - (andI (ushrI a0 1) 1431655765))) 858993459) + (andI (ushrI (w32 (a0 - (andI (ushrI a0 1) 1431655765))) 2) 858993459))) 4))) 252645135) + (ushrI (andI (w32 ((w32 ((andI (w32 (a0 - (andI (ushrI a0 1) 1431655765))) 858993459) + (andI (ushrI (w32 (a0 - (andI (ushrI a0 1) 1431655765))) 2) 858993459))) + (ushrI (w32 ((andI (w32 (a0 - (andI (ushrI a0 1) 1431655765))) 858993459) + (andI (ushrI (w32 (a0 - (andI (ushrI a0 1) 1431655765))) 2) 858993459))) 4))) 252645135) 8))) + (ushrI (w32 ((andI (w32 ((w32 ((andI (w32 (a0 - (andI (ushrI a0 1) 1431655765))) 858993459) + (andI (ushrI (w32 (a0 - (andI (ushrI a0 1) 1431655765))) 2) 858993459))) + (ushrI (w32 ((andI (w32 (a0 - (andI (ushrI a0 1) 1431655765))) 858993459) + (andI (ushrI (w32 (a0 - (andI (ushrI a0 1) 1431655765))) 2) 858993459))) 4))) 252645135) + (ushrI (andI (w32 ((w32 ((andI (w32 (a0 - (andI (ushrI a0 1) 1431655765))) 858993459) + (andI (ushrI (w32 (a0 - (andI (ushrI a0 1) 1431655765))) 2) 858993459))) + (ushrI (w32 ((andI (w32 (a0 - (andI (ushrI a0 1) 1431655765))) 858993459) + (andI (ushrI (w32 (a0 - (andI (ushrI a0 1) 1431655765))) 2) 858993459))) 4))) 252645135) 8))) 16))) 63) σ) : seg none call c_J_bitCountI false Q cut 2000 true (toPc 0 c_J_bitCountI) [some (.inl a0)] [] σ := h
theorem e_J_bitCountI {d : Nat} {Q : Int → Mem → Prop} {a0 : Int} {σ : Mem} (h :
  Q (andI (w32 ((w32 ((andI (w32 ((w32 ((andI (w32 (a0 - (andI (ushrI a0 1) 1431655765))) 858993459) + (andI (ushrI (w32 (a0 - (andI (ushrI a0 1) 1431655765))) 2) 858993459))) + (ushrI (w32 ((andI (w32 (a0 - (andI (ushrI a0 1) 1431655765))) 858993459) + (andI (ushrI (w32 (a0 - (andI (ushrI a0 1) 1431655765))) 2) 858993459))) 4))) 252645135) + (ushrI (andI (w32 ((w32 ((andI (w32 (a0 - (andI (ushrI a0 1) 1431655765))) 858993459) + (andI (ushrI (w32 (a0 - (andI (ushrI a0 1) 1431655765))) 2) 858993459))) + (ushrI (w32 ((andI (w32 (a0 - (andI (ushrI a0 1) 1431655765))) 858993459) + (andI (ushrI (w32 (a0 - (andI (ushrI a0 1) 1431655765))) 2) 858993459))) 4))) 252645135) 8))) + (ushrI (w32 ((andI (w32 ((w32 ((andI (w32 (a0 - (andI (ushrI a0 1) 1431655765))) 858993459) + (andI (ushrI (w32 (a0 - (andI (ushrI a0 1) 1431655765))) 2) 858993459))) + (ushrI (w32 ((andI (w32 (a0 - (andI (ushrI a0 1) 1431655765))) 858993459) + (andI (ushrI (w32 (a0 - (andI (ushrI a0 1) 1431655765))) 2) 858993459))) 4))) 252645135) + (ushrI (andI (w32 ((w32 ((andI (w32 (a0 - (andI (ushrI a0 1) 1431655765))) 858993459) + (andI (ushrI (w32 (a0 - (andI (ushrI a0 1) 1431655765))) 2) 858993459))) + (ushrI (w32 ((andI (w32 (a0 - (andI (ushrI a0 1) 1431655765))) 858993459) + (andI (ushrI (w32 (a0 - (andI (ushrI a0 1) 1431655765))) 2) 858993459))) 4))) 252645135) 8))) 16))) 63) σ) : wp (d + 1) m_J_bitCountI [.inl a0] σ Q := wp_in rfl (XX_intro (g_J_bitCountI (call := wp d) (cut := XX none (wp d) c_J_bitCountI false Q) (Q := Q) (a0 := a0) (σ := σ) (h)))
