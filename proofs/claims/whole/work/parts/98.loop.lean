-- the law's loop out of the pairs of calls
theorem RR0 : RR (fun _ _ => 0) := by
  have n0 : ∀ {P : Prop} {t : Nat}, (t : Int) < (0 : Int) → P := fun h => absurd h (by omega)
  refine ⟨⟨⟨rfl, rfl, rfl, rfl, rfl, rfl⟩, ⟨by decide, by decide, by decide, by decide, Or.inl rfl, by decide, by decide, by decide, by decide, by decide, by decide⟩, Or.inl ⟨rfl, rfl⟩, fun t ht => n0 ht, rfl, fun a t ha ht => n0 ht, fun l hl => n0 hl, fun l t s hl ht hs => n0 hl, fun l t hl ht => n0 hl, fun i hi => n0 hi, fun i hi => n0 hi⟩, Or.inl ⟨rfl, rfl⟩, ⟨rfl, by decide, by decide, fun j hj => n0 hj, by decide, by decide, fun i hi => n0 hi⟩, ⟨rfl, by decide, by decide, fun j hj => n0 hj⟩, ⟨rfl, by decide, by decide, fun j hj => n0 hj⟩, fun j hj => rfl⟩
theorem law_loop (L : Nat) (xs : Nat → Int) (hL : L ≤ 3072) (hx : ∀ j, InI (xs j)) : K_law_18 L xs 40 (fun x _ => x = 1) 0 (fun _ _ => 0) := by
  have z0 : InI 0 := ⟨by decide, by decide⟩
  have z1 : InI 1 := ⟨by decide, by decide⟩
  have main : ∀ (m i : Nat) (σ : Mem), i ≤ L → L ≤ i + m → RR σ → K_law_18 L xs 40 (fun x _ => x = 1) (i : Int) σ := by
    intro m
    induction m with
    | zero =>
      intro i σ hi hm hR
      have e : w32 ((L : Int) - 6) = (L : Int) - 6 := w32_id (by omega) (by omega)
      exact e_law_18 ⟨fun _ => rfl, fun h => by rw [e] at h; omega⟩
    | succ m ih =>
      intro i σ hi hm hR
      have e : w32 ((L : Int) - 6) = (L : Int) - 6 := w32_id (by omega) (by omega)
      refine e_law_18 ⟨fun _ => rfl, fun h => ?_⟩
      rw [e] at h
      have e1 : w32 ((i : Int) + 1) = ((i + 1 : Nat) : Int) := w32_eq (by omega) (by omega)
      have e2 : w32 ((i : Int) + 2) = ((i + 2 : Nat) : Int) := w32_eq (by omega) (by omega)
      have e3 : w32 ((i : Int) + 3) = ((i + 3 : Nat) : Int) := w32_eq (by omega) (by omega)
      have e4 : w32 ((i : Int) + 4) = ((i + 4 : Nat) : Int) := w32_eq (by omega) (by omega)
      have e5 : w32 ((i : Int) + 5) = ((i + 5 : Nat) : Int) := w32_eq (by omega) (by omega)
      have e6 : w32 ((i : Int) + 6) = ((i + 6 : Nat) : Int) := w32_eq (by omega) (by omega)
      have b1 : 0 ≤ w32 ((i : Int) + 1) ∧ w32 ((i : Int) + 1) < (L : Int) := by rw [e1]; omega
      have b2 : 0 ≤ w32 ((i : Int) + 2) ∧ w32 ((i : Int) + 2) < (L : Int) := by rw [e2]; omega
      have b3 : 0 ≤ w32 ((i : Int) + 3) ∧ w32 ((i : Int) + 3) < (L : Int) := by rw [e3]; omega
      have b4 : 0 ≤ w32 ((i : Int) + 4) ∧ w32 ((i : Int) + 4) < (L : Int) := by rw [e4]; omega
      have b5 : 0 ≤ w32 ((i : Int) + 5) ∧ w32 ((i : Int) + 5) < (L : Int) := by rw [e5]; omega
      have next : ∀ s, RR s → K_law_18 L xs 40 (fun x _ => x = 1) (w32 ((i : Int) + 6)) s := fun s hs => by rw [e6]; exact ih (i + 6) s (by omega) (by omega) hs
      have fin : ∀ (r r2 : Int) (s2 : Mem), PQ r r2 s2 → (r = r2 → K_law_18 L xs 40 (fun x _ => x = 1) (w32 ((i : Int) + 6)) s2) ∧ (¬ r = r2 → (0 : Int) = 1) := fun r r2 s2 q => ⟨fun _ => next s2 q.2, fun h => absurd q.1 h⟩
      clear e e1 e2 e3 e4 e5 e6
      refine ⟨⟨by omega, by omega⟩, fun _ => next σ hR, ?_, ?_, ?_, ?_, ?_, ?_, ?_, ?_, ?_, ?_, ?_, ?_, ?_, ?_, ?_, ?_, ?_, ?_, ?_, ?_, ?_, ?_, ?_, ?_, ?_, ?_, ?_, ?_, ?_, ?_, ?_, ?_, ?_, ?_, ?_, ?_, ?_, ?_, ?_, ?_, ?_, ?_, ?_⟩
      · exact fun _ => ⟨b1, b2, b3, wp_conseq (fun r s z => ⟨b1, b2, b3, wp_conseq (fun r2 s2 q => fin r r2 s2 q) z⟩) (pr_feed hR (hx _))⟩
      · exact fun _ => wp_conseq (fun r s z => wp_conseq (fun r2 s2 q => fin r r2 s2 q) z) (pr_read hR)
      · exact fun _ => ⟨b1, wp_conseq (fun r s z => ⟨b1, wp_conseq (fun r2 s2 q => fin r r2 s2 q) z⟩) (pr_weight hR (hx _))⟩
      · exact fun _ => ⟨b1, b2, b3, wp_conseq (fun r s z => ⟨b1, b2, b3, wp_conseq (fun r2 s2 q => fin r r2 s2 q) z⟩) (pr_gets hR (hx _) (hx _) (hx _))⟩
      · exact fun _ => ⟨b1, b2, b3, wp_conseq (fun r s z => ⟨b1, b2, b3, wp_conseq (fun r2 s2 q => fin r r2 s2 q) z⟩) (pr_second hR (hx _) (hx _) (hx _))⟩
      · exact fun _ => ⟨b1, wp_conseq (fun r s z => ⟨b1, wp_conseq (fun r2 s2 q => fin r r2 s2 q) z⟩) (pr_ties hR (hx _))⟩
      · exact fun _ => ⟨b1, b2, b3, b4, wp_conseq (fun r s z => ⟨b1, b2, b3, b4, wp_conseq (fun r2 s2 q => fin r r2 s2 q) z⟩) (pr_done hR (hx _) (hx _) (hx _) (hx _))⟩
      · exact fun _ => ⟨b1, wp_conseq (fun r s z => ⟨b1, wp_conseq (fun r2 s2 q => fin r r2 s2 q) z⟩) (pr_put hR (hx _))⟩
      · exact fun _ => ⟨b1, wp_conseq (fun r s z => ⟨b1, wp_conseq (fun r2 s2 q => fin r r2 s2 q) z⟩) (pr_look hR (hx _))⟩
      · exact fun _ => ⟨b1, wp_conseq (fun r s z => ⟨b1, wp_conseq (fun r2 s2 q => fin r r2 s2 q) z⟩) (pr_plain hR (hx _))⟩
      · exact fun _ => ⟨b1, wp_conseq (fun r s z => ⟨b1, wp_conseq (fun r2 s2 q => fin r r2 s2 q) z⟩) (pr_bar hR (hx _))⟩
      · exact fun _ => ⟨b1, b2, b3, wp_conseq (fun r s z => ⟨b1, b2, b3, wp_conseq (fun r2 s2 q => fin r r2 s2 q) z⟩) (pr_mix hR (hx _) (hx _) (hx _))⟩
      · exact fun _ => ⟨b1, b2, b3, wp_conseq (fun r s z => ⟨b1, b2, b3, wp_conseq (fun r2 s2 q => fin r r2 s2 q) z⟩) (pr_meld hR (hx _) (hx _) (hx _))⟩
      · exact fun _ => ⟨b1, wp_conseq (fun r s z => ⟨b1, wp_conseq (fun r2 s2 q => fin r r2 s2 q) z⟩) (pr_signs hR (hx _))⟩
      · exact fun _ => ⟨b1, b2, b3, wp_conseq (fun r s z => ⟨b1, b2, b3, wp_conseq (fun r2 s2 q => fin r r2 s2 q) z⟩) (pr_parts hR (hx _) (hx _) (hx _))⟩
      · exact fun _ => ⟨b1, b2, b3, wp_conseq (fun r s z => ⟨b1, b2, b3, wp_conseq (fun r2 s2 q => fin r r2 s2 q) z⟩) (pr_leaves hR (hx _) (hx _) (hx _))⟩
      · exact fun _ => ⟨b1, b2, wp_conseq (fun r s z => ⟨b1, b2, wp_conseq (fun r2 s2 q => fin r r2 s2 q) z⟩) (pr_does hR (hx _) (hx _))⟩
      · exact fun _ => ⟨b1, b2, fun h0 => ⟨b3, wp_conseq (fun r s z => ⟨b1, b2, fun _ => ⟨b3, wp_conseq (fun r2 s2 q => fin r r2 s2 q) z⟩, fun h1 => absurd h0 h1⟩) (pr_worth hR (hx _) z0 (hx _))⟩, fun h0 => ⟨b3, wp_conseq (fun r s z => ⟨b1, b2, fun h1 => absurd h1 h0, fun _ => ⟨b3, wp_conseq (fun r2 s2 q => fin r r2 s2 q) z⟩⟩) (pr_worth hR (hx _) z1 (hx _))⟩⟩
      · exact fun _ => ⟨b1, b2, wp_conseq (fun r s z => ⟨b1, b2, wp_conseq (fun r2 s2 q => fin r r2 s2 q) z⟩) (pr_harm hR (hx _) (hx _))⟩
      · exact fun _ => ⟨b1, b2, b3, b4, b5, wp_conseq (fun r s z => ⟨b1, b2, b3, b4, b5, wp_conseq (fun r2 s2 q => fin r r2 s2 q) z⟩) (pr_think hR (hx _) (hx _) (hx _) (hx _) (hx _))⟩
      · exact fun _ => wp_conseq (fun r s z => wp_conseq (fun r2 s2 q => fin r r2 s2 q) z) (pr_forget hR)
      · exact fun _ => wp_conseq (fun r s z => wp_conseq (fun r2 s2 q => fin r r2 s2 q) z) (pr_made hR)
      · exact fun _ => ⟨b1, b2, b3, wp_conseq (fun r s z => ⟨b1, b2, b3, wp_conseq (fun r2 s2 q => fin r r2 s2 q) z⟩) (pr_chance hR (hx _) (hx _) (hx _))⟩
      · exact fun _ => wp_conseq (fun r s z => wp_conseq (fun r2 s2 q => fin r r2 s2 q) z) (pr_edges hR)
      · exact fun _ => ⟨b1, b2, wp_conseq (fun r s z => ⟨b1, b2, wp_conseq (fun r2 s2 q => fin r r2 s2 q) z⟩) (pr_edge hR (hx _) (hx _))⟩
      · exact fun _ => ⟨b1, b2, wp_conseq (fun r s z => ⟨b1, b2, wp_conseq (fun r2 s2 q => fin r r2 s2 q) z⟩) (pr_value hR (hx _) (hx _))⟩
      · exact fun _ => ⟨b1, b2, wp_conseq (fun r s z => ⟨b1, b2, wp_conseq (fun r2 s2 q => fin r r2 s2 q) z⟩) (pr_best hR (hx _) (hx _))⟩
      · exact fun _ => wp_conseq (fun r s z => wp_conseq (fun r2 s2 q => fin r r2 s2 q) z) (pr_corners hR)
      · exact fun _ => ⟨b1, b2, b3, b4, wp_conseq (fun r s z => ⟨b1, b2, b3, b4, wp_conseq (fun r2 s2 q => fin r r2 s2 q) z⟩) (pr_prove hR (hx _) (hx _) (hx _) (hx _))⟩
      · exact fun _ => ⟨b1, b2, wp_conseq (fun r s z => ⟨b1, b2, wp_conseq (fun r2 s2 q => fin r r2 s2 q) z⟩) (pr_test hR (hx _) (hx _))⟩
      · exact fun _ => ⟨b1, b2, wp_conseq (fun r s z => ⟨b1, b2, wp_conseq (fun r2 s2 q => fin r r2 s2 q) z⟩) (pr_set hR (hx _) (hx _))⟩
      · exact fun _ => wp_conseq (fun r s z => wp_conseq (fun r2 s2 q => fin r r2 s2 q) z) (pr_chosen hR)
      · exact fun _ => ⟨b1, b2, wp_conseq (fun r s z => ⟨b1, b2, wp_conseq (fun r2 s2 q => fin r r2 s2 q) z⟩) (pr_enough hR (hx _) (hx _))⟩
      · exact fun _ => ⟨b1, b2, b3, wp_conseq (fun r s z => ⟨b1, b2, b3, wp_conseq (fun r2 s2 q => fin r r2 s2 q) z⟩) (pr_hear hR (hx _) (hx _) (hx _))⟩
      · exact fun _ => ⟨b1, b2, b3, fun h0 => ⟨b4, wp_conseq (fun r s z => ⟨b1, b2, b3, fun _ => ⟨b4, wp_conseq (fun r2 s2 q => fin r r2 s2 q) z⟩, fun h1 => absurd h0 h1⟩) (pr_knows hR (hx _) (hx _) z0 (hx _))⟩, fun h0 => ⟨b4, wp_conseq (fun r s z => ⟨b1, b2, b3, fun h1 => absurd h1 h0, fun _ => ⟨b4, wp_conseq (fun r2 s2 q => fin r r2 s2 q) z⟩⟩) (pr_knows hR (hx _) (hx _) z1 (hx _))⟩⟩
      · exact fun _ => ⟨b1, b2, b3, wp_conseq (fun r s z => ⟨b1, b2, b3, wp_conseq (fun r2 s2 q => fin r r2 s2 q) z⟩) (pr_rests hR (hx _) (hx _) (hx _))⟩
      · exact fun _ => ⟨b1, wp_conseq (fun r s z => ⟨b1, wp_conseq (fun r2 s2 q => fin r r2 s2 q) z⟩) (pr_shown hR (hx _))⟩
      · exact fun _ => ⟨b1, b2, wp_conseq (fun r s z => ⟨b1, b2, wp_conseq (fun r2 s2 q => fin r r2 s2 q) z⟩) (pr_law hR (hx _) (hx _))⟩
      · exact fun _ => ⟨b1, b2, b3, b4, wp_conseq (fun r s z => ⟨b1, b2, b3, b4, wp_conseq (fun r2 s2 q => fin r r2 s2 q) z⟩) (pr_time hR (hx _) (hx _) (hx _) (hx _))⟩
      · exact fun _ => wp_conseq (fun r s z => wp_conseq (fun r2 s2 q => fin r r2 s2 q) z) (pr_undo hR)
      · exact fun _ => wp_conseq (fun r s z => wp_conseq (fun r2 s2 q => fin r r2 s2 q) z) (pr_image hR)
      · exact fun _ => wp_conseq (fun r s z => wp_conseq (fun r2 s2 q => fin r r2 s2 q) z) (pr_on hR)
      · exact fun _ => ⟨b1, wp_conseq (fun r s z => ⟨b1, wp_conseq (fun r2 s2 q => fin r r2 s2 q) z⟩) (pr_count hR (hx _))⟩
  exact main L 0 (fun _ _ => 0) (Nat.zero_le L) (by omega) RR0
