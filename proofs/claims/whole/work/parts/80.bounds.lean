-- PURE, 48: how large what was read can be
theorem trF_all {A : Mem} {L : Nat} : ∀ (m k : Nat) (s : PS) (w : Nat → Int), s.2 ≤ L → k + m = 4 → (s.1 = false → ∀ i, i < k → 1 ≤ w i ∧ w i ≤ 99) → (trF A L m k s w).1.2 ≤ L ∧ k ≤ (trF A L m k s w).2.1 ∧ (trF A L m k s w).2.1 ≤ 4 ∧ ((trF A L m k s w).1.1 = false → ∀ i, i < (trF A L m k s w).2.1 → 1 ≤ (trF A L m k s w).2.2 i ∧ (trF A L m k s w).2.2 i ≤ 99) := by
  intro m
  induction m with
  | zero =>
    intro k s w hs hk hw
    have hk4 : k ≤ 4 := by omega
    exact ⟨hs, Nat.le_refl k, hk4, hw⟩
  | succ m ih =>
    intro k s w hs hk hw
    have hk4 : k ≤ 4 := by omega
    obtain ⟨b, p⟩ := s
    cases b with
    | true => rw [trF_bad]; exact ⟨hs, Nat.le_refl k, hk4, hw⟩
    | false =>
      by_cases hc : k = 0 ∨ pek A L p = 116
      · rw [trF_go hc]
        have h := ih (k + 1) (tr1 A L (false, p)).1 (fun i => if i = k then (tr1 A L (false, p)).2 else w i) (tr1_le hs) (by omega) (fun hg i hi => by
          show 1 ≤ (if i = k then (tr1 A L (false, p)).2 else w i) ∧ (if i = k then (tr1 A L (false, p)).2 else w i) ≤ 99
          by_cases hik : i = k
          · rw [if_pos hik]; exact tr1_v hg
          · rw [if_neg hik]; exact hw rfl i (by omega))
        exact ⟨h.1, Nat.le_trans (Nat.le_succ k) h.2.1, h.2.2.1, h.2.2.2⟩
      · rw [trF_no hc]; exact ⟨hs, Nat.le_refl k, hk4, hw⟩
theorem trF_one {A : Mem} {L p : Nat} {w : Nat → Int} (hp : p ≤ L) : 1 ≤ (trF A L 4 0 (false, p) w).2.1 := by
  rw [trF_go (Or.inl rfl)]
  cases hb : (tr1 A L (false, p)).1.1 with
  | true => rw [pair_split hb, trF_bad]; exact Nat.le_refl 1
  | false => exact (trF_all 3 1 _ _ (tr1_le hp) rfl (fun hg i hi => by
      have e : i = 0 := by omega
      subst e
      show 1 ≤ (if 0 = 0 then (tr1 A L (false, p)).2 else w 0) ∧ (if 0 = 0 then (tr1 A L (false, p)).2 else w 0) ≤ 99
      rw [if_pos rfl]; exact tr1_v hg)).2.1
def in99 (f : Nat → Int) : Prop := ∀ i, -99 ≤ f i ∧ f i ≤ 99
theorem in99.up {f : Nat → Int} {x : Nat} {v : Int} (h : in99 f) (hv : -99 ≤ v ∧ v ≤ 99) : in99 (updI f x v) := fun i => by
  unfold updI
  split
  · exact hv
  · exact h i
theorem pr1_ab {A : Mem} {L t : Nat} {s : PS} : (-99 ≤ (pr1 A L t s).2.1 ∧ (pr1 A L t s).2.1 ≤ 99) ∧ (-99 ≤ (pr1 A L t s).2.2 ∧ (pr1 A L t s).2.2 ≤ 99) := ⟨sns_ab, sns_ab⟩
theorem prS_ab {A : Mem} {L a : Nat} : ∀ (m t : Nat) (s : PS) (j v : Nat → Int), in99 j → in99 v → in99 (prS A L a m t s j v).2.1 ∧ in99 (prS A L a m t s j v).2.2 := by
  intro m
  induction m with
  | zero => intro t s j v hj hv; exact ⟨hj, hv⟩
  | succ m ih =>
    intro t s j v hj hv
    unfold prS
    split
    · exact ih _ _ _ _ (hj.up pr1_ab.1) (hv.up pr1_ab.2)
    · exact ⟨hj, hv⟩
theorem acF_all {A : Mem} {L n : Nat} : ∀ (m k : Nat) (s : PS) (j v : Nat → Int), s.2 ≤ L → k + m = 6 → in99 j → in99 v → (acF A L n m k s j v).1.2 ≤ L ∧ k ≤ (acF A L n m k s j v).2.1 ∧ (acF A L n m k s j v).2.1 ≤ 6 ∧ in99 (acF A L n m k s j v).2.2.1 ∧ in99 (acF A L n m k s j v).2.2.2 := by
  intro m
  induction m with
  | zero =>
    intro k s j v hs hk hj hv
    have hk6 : k ≤ 6 := by omega
    exact ⟨hs, Nat.le_refl k, hk6, hj, hv⟩
  | succ m ih =>
    intro k s j v hs hk hj hv
    have hk6 : k ≤ 6 := by omega
    unfold acF
    split
    · have b := prS_ab (A := A) (L := L) (a := k) n 0 (tkS A L 97 s) j v hj hv
      have h := ih (k + 1) (ac1 A L n k s j v).1 (ac1 A L n k s j v).2.1 (ac1 A L n k s j v).2.2 (ac1_le hs) (by omega) b.1 b.2
      exact ⟨h.1, Nat.le_trans (Nat.le_succ k) h.2.1, h.2.2⟩
    · exact ⟨hs, Nat.le_refl k, hk6, hj, hv⟩
theorem acF_one {A : Mem} {L n p : Nat} {j v : Nat → Int} (hp : p ≤ L) (hj : in99 j) (hv : in99 v) : 1 ≤ (acF A L n 6 0 (false, p) j v).2.1 := by
  rw [acF_go (Or.inl rfl)]
  have b := prS_ab (A := A) (L := L) (a := 0) n 0 (tkS A L 97 (false, p)) j v hj hv
  exact (acF_all 5 1 (ac1 A L n 0 (false, p) j v).1 _ _ (ac1_le hp) rfl b.1 b.2).2.1
