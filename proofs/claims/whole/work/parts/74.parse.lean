-- PURE, 45: the text is read
abbrev PS : Type := Bool × Nat
def pek (A : Mem) (L p : Nat) : Int := if p < L then A 2 p else -1
def tkS (A : Mem) (L : Nat) (c : Int) (s : PS) : PS := if s.1 then s else if pek A L s.2 = c then (false, s.2 + 1) else (true, s.2)
def nms (A : Mem) (L : Nat) (least : Int) (s : PS) : PS × Int :=
  if s.1 then (s, 0) else if least ≤ pek A L s.2 - 48 ∧ pek A L s.2 - 48 ≤ 9 then
    (if 0 < pek A L s.2 - 48 ∧ 0 ≤ pek A L (s.2 + 1) - 48 ∧ pek A L (s.2 + 1) - 48 ≤ 9 then ((false, s.2 + 2), 10 * (pek A L s.2 - 48) + (pek A L (s.2 + 1) - 48)) else ((false, s.2 + 1), pek A L s.2 - 48))
  else ((true, s.2), 0)
def sns (A : Mem) (L : Nat) (s : PS) : PS × Int := if s.1 then (s, 0) else if pek A L s.2 = 45 then ((nms A L 1 (false, s.2 + 1)).1, -(nms A L 1 (false, s.2 + 1)).2) else nms A L 0 s
theorem tkS_b {A : Mem} {L p : Nat} {c : Int} : tkS A L c (true, p) = (true, p) := rfl
theorem nms_b {A : Mem} {L p : Nat} {c : Int} : nms A L c (true, p) = ((true, p), 0) := rfl
theorem sns_b {A : Mem} {L p : Nat} : sns A L (true, p) = ((true, p), 0) := rfl
theorem pek_bd {A : Mem} (hR : RR A) {L p : Nat} (hL : A 1 1 = (L : Int)) : -1 ≤ pek A L p ∧ pek A L p ≤ 255 := by
  unfold pek
  split
  · have := hR.2.2.2.2.1.2.2.2 p (by omega)
    omega
  · decide
theorem pek_lt {A : Mem} {L p : Nat} (h : ¬ pek A L p = -1) : p < L := by
  unfold pek at h
  split at h
  · assumption
  · exact absurd rfl h
theorem nms_v {A : Mem} {L : Nat} {c : Int} (hc : 0 ≤ c ∧ c ≤ 1) {s : PS} : (nms A L c s).1.1 = false → c ≤ (nms A L c s).2 ∧ (nms A L c s).2 ≤ 99 := by
  unfold nms
  intro h
  split at h
  · rename_i h1; rw [if_pos h1]; rw [h1] at h; cases h
  · rename_i h1
    rw [if_neg h1]
    split at h
    · rename_i h2
      rw [if_pos h2]
      split
      · rename_i h3; show c ≤ 10 * (pek A L s.2 - 48) + (pek A L (s.2 + 1) - 48) ∧ 10 * (pek A L s.2 - 48) + (pek A L (s.2 + 1) - 48) ≤ 99; omega
      · show c ≤ pek A L s.2 - 48 ∧ pek A L s.2 - 48 ≤ 99; omega
    · cases h
theorem nms_ab {A : Mem} {L : Nat} {c : Int} (hc : 0 ≤ c ∧ c ≤ 1) {s : PS} : 0 ≤ (nms A L c s).2 ∧ (nms A L c s).2 ≤ 99 := by
  unfold nms
  split
  · exact ⟨Int.le_refl 0, (by decide : (0 : Int) ≤ 99)⟩
  · split
    · split
      · rename_i h3; show 0 ≤ 10 * (pek A L s.2 - 48) + (pek A L (s.2 + 1) - 48) ∧ 10 * (pek A L s.2 - 48) + (pek A L (s.2 + 1) - 48) ≤ 99; omega
      · show 0 ≤ pek A L s.2 - 48 ∧ pek A L s.2 - 48 ≤ 99; omega
    · exact ⟨Int.le_refl 0, (by decide : (0 : Int) ≤ 99)⟩
theorem sns_ab {A : Mem} {L : Nat} {s : PS} : -99 ≤ (sns A L s).2 ∧ (sns A L s).2 ≤ 99 := by
  unfold sns
  split
  · exact ⟨(by decide : (-99 : Int) ≤ 0), (by decide : (0 : Int) ≤ 99)⟩
  · split
    · have := nms_ab (A := A) (L := L) (c := 1) (by decide) (s := (false, s.2 + 1))
      show -99 ≤ -(nms A L 1 (false, s.2 + 1)).2 ∧ -(nms A L 1 (false, s.2 + 1)).2 ≤ 99
      omega
    · have := nms_ab (A := A) (L := L) (c := 0) (by decide) (s := s)
      omega
theorem tkS_le {A : Mem} {L : Nat} {c : Int} (hc : 0 ≤ c) {s : PS} (h : s.2 ≤ L) : (tkS A L c s).2 ≤ L := by
  unfold tkS
  split
  · exact h
  · split
    · rename_i h2
      have := pek_lt (A := A) (L := L) (p := s.2) (by omega)
      exact this
    · exact h
theorem nms_le {A : Mem} {L : Nat} {c : Int} (hc : 0 ≤ c ∧ c ≤ 1) {s : PS} (h : s.2 ≤ L) : (nms A L c s).1.2 ≤ L := by
  unfold nms
  split
  · exact h
  · split
    · rename_i h2
      have h3 := pek_lt (A := A) (L := L) (p := s.2) (by omega)
      split
      · rename_i h4
        have h5 := pek_lt (A := A) (L := L) (p := s.2 + 1) (by omega)
        exact h5
      · exact h3
    · exact h
theorem sns_le {A : Mem} {L : Nat} {s : PS} (h : s.2 ≤ L) : (sns A L s).1.2 ≤ L := by
  unfold sns
  split
  · exact h
  · split
    · rename_i h2
      have h3 := pek_lt (A := A) (L := L) (p := s.2) (by omega)
      exact nms_le (by decide) (s := (false, s.2 + 1)) h3
    · exact nms_le (by decide) h
-- the class
def tX (A σ : Mem) (L : Nat) : Prop := σ 1 1 = (L : Int) ∧ ∀ j, j < L → σ 2 j = A 2 j
def FX (σ σ1 : Mem) : Prop := ∀ k i, ¬ (k = 1 ∧ (i = 2 ∨ i = 3)) → σ1 k i = σ k i
theorem FX.id {σ : Mem} : FX σ σ := fun _ _ _ => rfl
theorem FX.trans {σ σ1 σ2 : Mem} (h1 : FX σ σ1) (h2 : FX σ1 σ2) : FX σ σ2 := fun k i h => (h2 k i h).trans (h1 k i h)
theorem FX.tx {A σ σ1 : Mem} {L : Nat} (h : FX σ σ1) (ht : tX A σ L) : tX A σ1 L := ⟨by rw [h 1 1 (by omega)]; exact ht.1, fun j hj => by rw [h 2 j (by omega)]; exact ht.2 j hj⟩
theorem FX.s2 {σ σ1 : Mem} {x : Int} (h : FX σ σ1) : FX σ (mset σ1 1 2 x) := fun k i hk => by rw [ms_ne (by omega)]; exact h k i hk
theorem FX.s3 {σ σ1 : Mem} {x : Int} (h : FX σ σ1) : FX σ (mset σ1 1 3 x) := fun k i hk => by rw [ms_ne (by omega)]; exact h k i hk
theorem sp_T_peek {d : Nat} {A σ : Mem} {Q : Int → Mem → Prop} {L p : Nat} (hL : L ≤ 90) (ht : tX A σ L) (hp : σ 1 2 = (p : Int)) (hQ : Q (pek A L p) σ) : wp (d + 1) m_T_peek [.inr (.inr 1)] σ Q := by
  refine e_T_peek ⟨fun h => by omega, fun _ => ⟨fun h => ?_, fun h => ?_⟩⟩
  · rw [ht.1, hp] at h
    have e : pek A L p = A 2 p := if_pos (by omega)
    rw [hp, Int.toNat_natCast, ht.2 p (by omega), ← e]
    exact ⟨⟨by omega, by omega⟩, hQ⟩
  · rw [ht.1, hp] at h
    have e : pek A L p = -1 := if_neg (by omega)
    rw [e] at hQ
    exact hQ
theorem sp_T_skip {d : Nat} {A σ : Mem} {Q : Int → Mem → Prop} {L p : Nat} {c : Int} (hL : L ≤ 90) (hp90 : p ≤ L) (ht : tX A σ L) (hp : σ 1 2 = (p : Int)) (h1 : tkS A L c (false, p) = (false, p + 1) → ∀ σ1, FX σ σ1 → σ1 1 2 = ((p + 1 : Nat) : Int) → σ1 1 3 = σ 1 3 → Q 1 σ1) (h0 : tkS A L c (false, p) = (true, p) → Q 0 σ) : wp (d + 2) m_T_skip [.inr (.inr 1), .inl c] σ Q := by
  refine e_T_skip (sp_T_peek hL ht hp ⟨fun h => ?_, fun h => h0 ?_⟩)
  · rw [hp, w32_eq (n := p + 1) (by omega) (by omega)]
    refine h1 ?_ _ FX.id.s2 ms_eq (ms_ni (by decide))
    unfold tkS
    rw [if_neg Bool.false_ne_true, if_pos h]
  · unfold tkS
    rw [if_neg Bool.false_ne_true, if_neg h]
theorem sp_T_digits {d : Nat} {A σ : Mem} {Q : Int → Mem → Prop} (hR : RR A) {L p : Nat} {c : Int} (hA : A 1 1 = (L : Int)) (hL : L ≤ 90) (hp90 : p ≤ L) (ht : tX A σ L) (hp : σ 1 2 = (p : Int)) (h1 : (nms A L c (false, p)).1.1 = false → ∀ σ1, FX σ σ1 → σ1 1 2 = (((nms A L c (false, p)).1.2 : Nat) : Int) → σ1 1 3 = (nms A L c (false, p)).2 → Q 1 σ1) (h0 : nms A L c (false, p) = ((true, p), 0) → Q 0 σ) : wp (d + 2) m_T_parseDigits [.inr (.inr 1), .inl c] σ Q := by
  have b1 := pek_bd hR (p := p) hA
  have b2 := pek_bd hR (p := p + 1) hA
  have en : nms A L c (false, p) = if c ≤ pek A L p - 48 ∧ pek A L p - 48 ≤ 9 then (if 0 < pek A L p - 48 ∧ 0 ≤ pek A L (p + 1) - 48 ∧ pek A L (p + 1) - 48 ≤ 9 then ((false, p + 2), 10 * (pek A L p - 48) + (pek A L (p + 1) - 48)) else ((false, p + 1), pek A L p - 48)) else ((true, p), 0) := rfl
  refine e_T_parseDigits (sp_T_peek hL ht hp ?_)
  rw [w32_id (x := pek A L p - 48) (by omega) (by omega), hp, w32_eq (n := p + 1) (by omega) (by omega)]
  refine ⟨fun h => h0 (by rw [en, if_neg (by omega)]), fun h => ⟨fun h2 => h0 (by rw [en, if_neg (by omega)]), fun h2 => ?_⟩⟩
  have hF : FX σ (mset (mset σ 1 2 ((p + 1 : Nat) : Int)) 1 3 (pek A L p - 48)) := FX.id.s2.s3
  refine sp_T_peek (p := p + 1) hL (hF.tx ht) (by rw [ms_ni (by decide), ms_eq]) ?_
  rw [w32_id (x := pek A L (p + 1) - 48) (by omega) (by omega)]
  have short : ¬ (0 < pek A L p - 48 ∧ 0 ≤ pek A L (p + 1) - 48 ∧ pek A L (p + 1) - 48 ≤ 9) → Q 1 (mset (mset σ 1 2 ((p + 1 : Nat) : Int)) 1 3 (pek A L p - 48)) := fun hn => by
    rw [en, if_pos ⟨h, h2⟩, if_neg hn] at h1
    exact h1 rfl _ hF (by rw [ms_ni (by decide), ms_eq]) ms_eq
  refine ⟨fun h3 => ⟨fun h4 => short (by omega), fun h4 => ⟨fun h5 => short (by omega), fun h5 => ?_⟩⟩, fun h3 => short (by omega)⟩
  rw [ms_ni (by decide), ms_eq, w32_eq (n := p + 2) (by omega) (by omega), w32_id (x := 10 * (pek A L p - 48)) (by omega) (by omega), w32_id (by omega) (by omega)]
  rw [en, if_pos ⟨h, h2⟩, if_pos ⟨h3, h4, h5⟩] at h1
  exact h1 rfl _ hF.s2.s3 (by rw [ms_ni (by decide), ms_eq]) ms_eq
theorem sp_T_number {d : Nat} {A σ : Mem} {Q : Int → Mem → Prop} (hR : RR A) {L p : Nat} (hA : A 1 1 = (L : Int)) (hL : L ≤ 90) (hp90 : p ≤ L) (ht : tX A σ L) (hp : σ 1 2 = (p : Int)) (h1 : (sns A L (false, p)).1.1 = false → ∀ σ1, FX σ σ1 → σ1 1 2 = (((sns A L (false, p)).1.2 : Nat) : Int) → σ1 1 3 = (sns A L (false, p)).2 → Q 1 σ1) (h0 : (sns A L (false, p)).1.1 = true → ∀ σ1, FX σ σ1 → σ1 1 2 = (((sns A L (false, p)).1.2 : Nat) : Int) → Q 0 σ1) : wp (d + 3) m_T_parseNumber [.inr (.inr 1)] σ Q := by
  have es : sns A L (false, p) = if pek A L p = 45 then ((nms A L 1 (false, p + 1)).1, -(nms A L 1 (false, p + 1)).2) else nms A L 0 (false, p) := rfl
  refine e_T_parseNumber (sp_T_peek hL ht hp ⟨fun h => ?_, fun h => ?_⟩)
  · rw [es, if_pos h] at h1 h0
    have hlt := pek_lt (A := A) (L := L) (p := p) (by omega)
    rw [hp, w32_eq (n := p + 1) (by omega) (by omega)]
    have hF : FX σ (mset σ 1 2 ((p + 1 : Nat) : Int)) := FX.id.s2
    have vb := nms_ab (A := A) (L := L) (c := 1) (by decide) (s := (false, p + 1))
    refine sp_T_digits (p := p + 1) hR hA hL (by omega) (hF.tx ht) ms_eq (fun hok σ1 hF1 hq hv => ⟨isB1, ?_⟩) (fun hbad => ⟨isB0, ?_⟩)
    · rw [hv, w32_id (by omega) (by omega)]
      exact h1 hok _ (hF.trans hF1).s3 (by rw [ms_ni (by decide)]; exact hq) ms_eq
    · refine h0 (by rw [hbad]) _ hF.s3 ?_
      rw [hbad, ms_ni (by decide), ms_eq]
  · rw [es, if_neg h] at h1 h0
    refine sp_T_digits hR hA hL hp90 ht hp (fun hok σ1 hF1 hq hv => ⟨isB1, h1 hok σ1 hF1 hq hv⟩) (fun hbad => ⟨isB0, h0 (by rw [hbad]) σ FX.id ?_⟩)
    rw [hbad]
    exact hp
-- the reference
def tM (A σ : Mem) (L : Nat) : Prop := σ 49 25 = (L : Int) ∧ ∀ j, j < L → σ 60 j = A 2 j
def stM (σ : Mem) (s : PS) : Prop := (σ 49 26 = if s.1 then 1 else 0) ∧ σ 49 24 = ((s.2 : Nat) : Int)
def FM (σ σ1 : Mem) : Prop := ∀ k i, ¬ (k = 49 ∧ (i = 24 ∨ i = 26)) → σ1 k i = σ k i
theorem FM.id {σ : Mem} : FM σ σ := fun _ _ _ => rfl
theorem FM.trans {σ σ1 σ2 : Mem} (h1 : FM σ σ1) (h2 : FM σ1 σ2) : FM σ σ2 := fun k i h => (h2 k i h).trans (h1 k i h)
theorem FM.tm {A σ σ1 : Mem} {L : Nat} (h : FM σ σ1) (ht : tM A σ L) : tM A σ1 L := ⟨by rw [h 49 25 (by omega)]; exact ht.1, fun j hj => by rw [h 60 j (by omega)]; exact ht.2 j hj⟩
theorem FM.s4 {σ σ1 : Mem} {x : Int} (h : FM σ σ1) : FM σ (mset σ1 49 24 x) := fun k i hk => by rw [ms_ne (by omega)]; exact h k i hk
theorem FM.s6 {σ σ1 : Mem} {x : Int} (h : FM σ σ1) : FM σ (mset σ1 49 26 x) := fun k i hk => by rw [ms_ne (by omega)]; exact h k i hk
theorem sp_M_here {d : Nat} {A σ : Mem} {Q : Int → Mem → Prop} {L p : Nat} (hL : L ≤ 90) (ht : tM A σ L) (hp : σ 49 24 = (p : Int)) (hQ : Q (pek A L p) σ) : wp (d + 1) m_M_here [.inr (.inr 49)] σ Q := by
  refine e_M_here ⟨fun h => ?_, fun h => ?_⟩
  · rw [ht.1, hp] at h
    have e : pek A L p = A 2 p := if_pos (by omega)
    rw [hp, Int.toNat_natCast, ht.2 p (by omega), ← e]
    exact ⟨⟨by omega, by omega⟩, hQ⟩
  · rw [ht.1, hp] at h
    have e : pek A L p = -1 := if_neg (by omega)
    rw [e] at hQ
    exact hQ
theorem sp_M_take {d : Nat} {A σ : Mem} {Q : Int → Mem → Prop} {L : Nat} {s : PS} {c : Int} (hL : L ≤ 90) (hs : s.2 ≤ L) (ht : tM A σ L) (hst : stM σ s) (hQ : ∀ σ1, FM σ σ1 → stM σ1 (tkS A L c s) → Q 0 σ1) : wp (d + 2) m_M_take [.inr (.inr 49), .inl c] σ Q := by
  obtain ⟨b, p⟩ := s
  obtain ⟨h26, h24⟩ := hst
  cases b with
  | true =>
    have h26 : σ 49 26 = 1 := h26
    have h24 : σ 49 24 = ((p : Nat) : Int) := h24
    refine e_M_take ⟨fun h => by omega, fun _ => ⟨fun h => by rw [ms_eq] at h; omega, fun _ => ?_⟩⟩
    rw [ms_ni (by decide), h24, w32_id (by have := hs; have : p ≤ L := hs; omega) (by have : p ≤ L := hs; omega), Int.add_zero]
    exact hQ _ FM.id.s6.s4 ⟨by rw [ms_ni (by decide), ms_eq]; rfl, ms_eq⟩
  | false =>
    have h26 : σ 49 26 = 0 := h26
    have h24 : σ 49 24 = ((p : Nat) : Int) := h24
    have hs : p ≤ L := hs
    refine e_M_take ⟨fun _ => sp_M_here hL ht h24 ⟨fun h => ⟨fun _ => ?_, fun h => by rw [ms_eq] at h; exact absurd rfl h⟩, fun h => ⟨fun h => by rw [ms_eq] at h; omega, fun _ => ?_⟩⟩, fun h => absurd h26 h⟩
    · rw [ms_ni (by decide), h24, w32_eq (n := p + 1) (by omega) (by omega)]
      refine hQ _ FM.id.s6.s4 ?_
      have e : tkS A L c (false, p) = (false, p + 1) := by unfold tkS; rw [if_neg Bool.false_ne_true, if_pos h]
      rw [e]
      exact ⟨by rw [ms_ni (by decide), ms_eq]; rfl, ms_eq⟩
    · rw [ms_ni (by decide), h24, w32_id (by omega) (by omega), Int.add_zero]
      refine hQ _ FM.id.s6.s4 ?_
      have e : tkS A L c (false, p) = (true, p) := by unfold tkS; rw [if_neg Bool.false_ne_true, if_neg h]
      rw [e]
      exact ⟨by rw [ms_ni (by decide), ms_eq]; rfl, ms_eq⟩
theorem sp_M_readNumber {d : Nat} {A σ : Mem} {Q : Int → Mem → Prop} (hR : RR A) {L : Nat} {s : PS} {c : Int} (hc : 0 ≤ c ∧ c ≤ 1) (hA : A 1 1 = (L : Int)) (hL : L ≤ 90) (hs : s.2 ≤ L) (ht : tM A σ L) (hst : stM σ s) (hQ : ∀ σ1, FM σ σ1 → stM σ1 (nms A L c s).1 → Q (nms A L c s).2 σ1) : wp (d + 2) m_M_readNumber [.inr (.inr 49), .inl c] σ Q := by
  obtain ⟨b, p⟩ := s
  obtain ⟨h26, h24⟩ := hst
  have h24 : σ 49 24 = ((p : Nat) : Int) := h24
  have hs : p ≤ L := hs
  refine e_M_readNumber (sp_M_here hL ht h24 ?_)
  cases b with
  | true =>
    have h26 : σ 49 26 = 1 := h26
    refine ⟨fun h => by omega, fun _ => hQ _ FM.id.s6 ⟨by rw [ms_eq]; rfl, by rw [ms_ni (by decide)]; exact h24⟩⟩
  | false =>
    have h26 : σ 49 26 = 0 := h26
    have b1 := pek_bd hR (p := p) hA
    have b2 := pek_bd hR (p := p + 1) hA
    have en : nms A L c (false, p) = if c ≤ pek A L p - 48 ∧ pek A L p - 48 ≤ 9 then (if 0 < pek A L p - 48 ∧ 0 ≤ pek A L (p + 1) - 48 ∧ pek A L (p + 1) - 48 ≤ 9 then ((false, p + 2), 10 * (pek A L p - 48) + (pek A L (p + 1) - 48)) else ((false, p + 1), pek A L p - 48)) else ((true, p), 0) := rfl
    refine ⟨fun _ => ?_, fun h => absurd h26 h⟩
    rw [w32_id (x := 48 + c) (by omega) (by omega), w32_id (x := pek A L p - 48) (by omega) (by omega)]
    have bad : ¬ (c ≤ pek A L p - 48 ∧ pek A L p - 48 ≤ 9) → Q 0 (mset σ 49 26 1) := fun hn => by
      rw [en, if_neg hn] at hQ
      exact hQ _ FM.id.s6 ⟨by rw [ms_eq]; rfl, by rw [ms_ni (by decide)]; exact h24⟩
    refine e_M_in ⟨fun h => ⟨fun _ => bad (by omega), fun h => absurd rfl h⟩, fun h => ⟨fun h2 => ⟨fun _ => bad (by omega), fun h => absurd rfl h⟩, fun h2 => ⟨fun h => by omega, fun _ => ?_⟩⟩⟩
    rw [h24, w32_eq (n := p + 1) (by omega) (by omega)]
    have hF : FM σ (mset σ 49 24 ((p + 1 : Nat) : Int)) := FM.id.s4
    have s1 : mset σ 49 24 ((p + 1 : Nat) : Int) 49 26 = 0 := by rw [ms_ni (by decide)]; exact h26
    have short : ¬ (0 < pek A L p - 48 ∧ 0 ≤ pek A L (p + 1) - 48 ∧ pek A L (p + 1) - 48 ≤ 9) → Q (pek A L p - 48) (mset σ 49 24 ((p + 1 : Nat) : Int)) := fun hn => by
      rw [en, if_pos (by omega), if_neg hn] at hQ
      exact hQ _ hF ⟨s1, ms_eq⟩
    refine ⟨fun h3 => ?_, fun h3 => short (by omega)⟩
    refine sp_M_here (p := p + 1) hL (hF.tm ht) ms_eq (e_M_in ⟨fun h4 => ⟨fun _ => short (by omega), fun h => absurd rfl h⟩, fun h4 => ⟨fun h5 => ⟨fun _ => short (by omega), fun h => absurd rfl h⟩, fun h5 => ⟨fun h => by omega, fun _ => ?_⟩⟩⟩)
    refine sp_M_here (p := p + 1) hL (hF.tm ht) ms_eq ?_
    rw [ms_eq, w32_id (x := 10 * (pek A L p - 48)) (by omega) (by omega), w32_id (x := 10 * (pek A L p - 48) + pek A L (p + 1)) (by omega) (by omega), w32_id (x := 10 * (pek A L p - 48) + pek A L (p + 1) - 48) (by omega) (by omega), w32_eq (x := ((p + 1 : Nat) : Int) + 1) (n := p + 2) (by omega) (by omega)]
    rw [en, if_pos (by omega), if_pos (by omega)] at hQ
    have := hQ _ hF.s4 ⟨by rw [ms_ni (by decide)]; exact s1, ms_eq⟩
    have ev : 10 * (pek A L p - 48) + (pek A L (p + 1) - 48) = 10 * (pek A L p - 48) + pek A L (p + 1) - 48 := by omega
    rw [← ev]
    exact this
theorem sp_M_readSigned {d : Nat} {A σ : Mem} {Q : Int → Mem → Prop} (hR : RR A) {L : Nat} {s : PS} (hA : A 1 1 = (L : Int)) (hL : L ≤ 90) (hs : s.2 ≤ L) (ht : tM A σ L) (hst : stM σ s) (hQ : ∀ σ1, FM σ σ1 → stM σ1 (sns A L s).1 → Q (sns A L s).2 σ1) : wp (d + 3) m_M_readSigned [.inr (.inr 49)] σ Q := by
  obtain ⟨b, p⟩ := s
  cases b with
  | true =>
    have h26 : σ 49 26 = 1 := hst.1
    refine e_M_readSigned ⟨fun h => by omega, fun _ => sp_M_readNumber (c := 0) hR (by decide) hA hL hs ht hst hQ⟩
  | false =>
    have h26 : σ 49 26 = 0 := hst.1
    have h24 : σ 49 24 = ((p : Nat) : Int) := hst.2
    have hs2 : p ≤ L := hs
    have es : sns A L (false, p) = if pek A L p = 45 then ((nms A L 1 (false, p + 1)).1, -(nms A L 1 (false, p + 1)).2) else nms A L 0 (false, p) := rfl
    refine e_M_readSigned ⟨fun _ => sp_M_here hL ht h24 ⟨fun h => ?_, fun h => ?_⟩, fun h => absurd h26 h⟩
    · have hlt := pek_lt (A := A) (L := L) (p := p) (by omega)
      rw [es, if_pos h] at hQ
      rw [h24, w32_eq (n := p + 1) (by omega) (by omega)]
      have vb := nms_ab (A := A) (L := L) (c := 1) (by decide) (s := (false, p + 1))
      refine sp_M_readNumber (s := (false, p + 1)) (c := 1) hR (by decide) hA hL hlt (FM.id.s4.tm ht) ⟨by rw [ms_ni (by decide)]; exact h26, ms_eq⟩ (fun σ1 hF1 hst1 => ?_)
      rw [w32_id (by omega) (by omega)]
      exact hQ σ1 (FM.trans FM.id.s4 hF1) hst1
    · rw [es, if_neg h] at hQ
      exact sp_M_readNumber (c := 0) hR (by decide) hA hL hs ht hst hQ
