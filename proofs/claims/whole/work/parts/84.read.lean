-- read
theorem RR.text0 {A B : Mem} (hR : RR A) (e : ∀ k i, live k i = true → ¬ (k = 1 ∧ i = 1) → ¬ (k = 49 ∧ i = 18) → B k i = A k i) (h1 : B 1 1 = 0) (h2 : B 49 18 = 0) : RR B := by
  have hC : RR (mset (mset A 1 1 0) 49 18 0) := by
    refine ⟨hR.1, hR.2.1, hR.2.2.1, hR.2.2.2.1, ⟨?_, ?_, ?_, fun j hj => ?_⟩, hR.2.2.2.2.2⟩
    · rw [ms_nk (by decide), ms_eq, ms_eq]
    · rw [ms_nk (by decide), ms_eq]; omega
    · rw [ms_nk (by decide), ms_eq]; omega
    · rw [ms_nk (by decide), ms_eq] at hj; omega
  refine hC.eqv (fun k i hl => ?_)
  by_cases e1 : k = 1 ∧ i = 1
  · obtain ⟨rfl, rfl⟩ := e1
    rw [h1, ms_nk (by decide), ms_eq]
  · by_cases e2 : k = 49 ∧ i = 18
    · obtain ⟨rfl, rfl⟩ := e2
      rw [h2, ms_eq]
    · rw [ms_ne (by omega), ms_ne (by omega)]; exact e k i hl e1 e2
theorem RR.fresh {A F : Mem} (hR : RR A) {n a : Nat} {w j v : Nat → Int} (hn : 1 ≤ n ∧ n ≤ 4) (ha : 1 ≤ a ∧ a ≤ 6) (hw : ∀ i, i < n → 1 ≤ w i ∧ w i ≤ 99) (hj : in99 j) (hv : in99 v)
    (kk : ∀ k i, k ≠ 0 → k ≠ 1 → ¬ (3 ≤ k ∧ k ≤ 5) → ¬ (7 ≤ k ∧ k ≤ 12) → k ≠ 31 → ¬ (k = 49 ∧ i ≠ 55) → ¬ (50 ≤ k ∧ k ≤ 52) → k ≠ 65 → k ≠ 66 → F k i = A k i)
    (x7 : F 7 0 = 1 ∧ F 7 1 = (n : Int) ∧ F 7 2 = (a : Int) ∧ F 7 3 = 0 ∧ F 7 10 = 0 ∧ F 7 13 = 0 ∧ F 7 16 = 0) (x6 : F 7 6 = sumN n (fun t => lw w n t)) (x8 : ∀ i, i < n → F 8 i = w i ∧ F 9 i = lw w n i)
    (xg : ∀ i, i % 4 < n → i < 4 * a → F 10 i = j i ∧ F 12 i = j i ∧ F 11 i = v i)
    (y0 : F 49 0 = (n : Int) ∧ F 49 1 = (a : Int) ∧ F 49 5 = 0 ∧ F 49 6 = 0 ∧ F 49 9 = 0 ∧ F 49 12 = 0) (y5 : ∀ i, i < n → F 50 i = w i ∧ F 51 i = lw w n i)
    (yg : ∀ i, i % 4 < n → i < 4 * a → F 52 i = j i ∧ F 52 (24 + i) = v i ∧ F 52 (48 + i) = j i)
    (z1 : F 31 0 = 0 ∧ F 49 19 = 0) (z2 : F 0 2 = 0 ∧ F 49 16 = 0) (z3 : F 1 1 = 0 ∧ F 49 18 = 0) : RR F := by
  obtain ⟨x70, x71, x72, x73, x710, x713, x716⟩ := x7
  obtain ⟨y00, y01, y05, y06, y09, y012⟩ := y0
  have eI : mImg F = mImg A := by
    funext f i
    unfold mImg
    split <;> exact kk _ _ (by decide) (by decide) (by omega) (by omega) (by omega) (by omega) (by omega) (by omega) (by omega)
  have hS : SR 7 (mLive F) F := by
    refine ⟨⟨?_, ?_, ?_, ?_, ?_, ?_⟩, ?_, ?_, fun t ht => ?_, ?_, fun a2 t ha2 ht => ?_, fun l hl => ?_, fun l t s hl => ?_, fun l t hl => ?_, fun i hi => ?_, fun i hi => ?_⟩
    · show F 49 0 = F 7 1; rw [y00, x71]
    · show F 49 1 = F 7 2; rw [y01, x72]
    · show F 49 5 = F 7 3; rw [y05, x73]
    · show F 49 6 = F 7 10; rw [y06, x710]
    · show F 49 9 = F 7 13; rw [y09, x713]
    · show F 49 12 = F 7 16; rw [y012, x716]
    · rw [x71, x72, x73, x710, x713, x716]; omega
    · rw [x70, x71, x72]; omega
    · rw [x71] at ht
      have hb := hw t (by omega)
      have lb := (lw_bd (w := w) (n := n) (t := t) (by omega) hb).1
      show F 50 t = F 8 t ∧ 1 ≤ F 8 t ∧ F 8 t ≤ 99 ∧ F 51 t = F 9 t ∧ 1 ≤ F 9 t ∧ F 9 t ≤ 99
      rw [(x8 t (by omega)).1, (x8 t (by omega)).2, (y5 t (by omega)).1, (y5 t (by omega)).2]
      exact ⟨rfl, hb.1, hb.2, rfl, lb.1, lb.2⟩
    · show F 7 6 = sumN (F 7 1).toNat (fun t => F 9 t)
      rw [x6, x71, Int.toNat_natCast]
      exact sumN_congr (fun t ht => ((x8 t ht).2).symm)
    · rw [x71] at ht
      rw [x72] at ha2
      have g1 := xg (4 * a2 + t) (by omega) (by omega)
      have g2 := yg (4 * a2 + t) (by omega) (by omega)
      have b1 := hj (4 * a2 + t)
      have b2 := hv (4 * a2 + t)
      show (F 52 (4 * a2 + t) = F 10 (4 * a2 + t) ∧ -99 ≤ F 10 (4 * a2 + t) ∧ F 10 (4 * a2 + t) ≤ 99) ∧ (F 52 (24 + 4 * a2 + t) = F 11 (4 * a2 + t) ∧ -99 ≤ F 11 (4 * a2 + t) ∧ F 11 (4 * a2 + t) ≤ 99) ∧ (F 52 (48 + 4 * a2 + t) = F 12 (4 * a2 + t) ∧ -99 ≤ F 12 (4 * a2 + t) ∧ F 12 (4 * a2 + t) ≤ 99)
      rw [Nat.add_assoc 24, Nat.add_assoc 48, g1.1, g1.2.1, g1.2.2, g2.1, g2.2.1, g2.2.2]
      exact ⟨⟨rfl, b1⟩, ⟨rfl, b2⟩, ⟨rfl, b1⟩⟩
    · rw [x710] at hl; omega
    · rw [x710] at hl; omega
    · rw [x710] at hl; omega
    · rw [x713] at hi; omega
    · rw [x716] at hi; omega
  refine ⟨hS, ?_, ⟨by rw [z1.1, z1.2], by omega, by omega, fun j hj => by omega, ?_⟩, ⟨by rw [z2.1, z2.2], by omega, by omega, fun j hj => by omega⟩, ⟨by rw [z3.1, z3.2], by omega, by omega, fun j hj => by omega⟩, fun j hj => ?_⟩
  · have k19 : F 19 0 = A 19 0 := kk 19 0 (by omega) (by omega) (by omega) (by omega) (by omega) (by omega) (by omega) (by omega) (by omega)
    have k55 : F 49 55 = A 49 55 := kk 49 55 (by omega) (by omega) (by omega) (by omega) (by omega) (by omega) (by omega) (by omega) (by omega)
    rw [k19, k55]
    rcases hR.2.1 with z | z
    · exact Or.inl z
    · exact Or.inr ⟨z.1, z.2.1, (z.2.2.c19 (fun k i hk => kk k i (by omega) (by omega) (by omega) (by omega) (by omega) (by omega) (by omega) (by omega) (by omega))).ms eI⟩
  · rw [z1.1, x710, x713]
    exact ⟨by omega, by omega, fun i hi => by omega⟩
  · rw [kk 48 j (by omega) (by omega) (by omega) (by omega) (by omega) (by omega) (by omega) (by omega) (by omega), kk 64 j (by omega) (by omega) (by omega) (by omega) (by omega) (by omega) (by omega) (by omega) (by omega)]
    exact hR.2.2.2.2.2 j hj
theorem pr_read {A : Mem} (hR : RR A) : wp 40 m_X_read [.inr (.inr 0)] A (fun r σ1 => wp 40 m_M_read [.inr (.inr 49)] σ1 (fun r2 σ2 => PQ r r2 σ2)) := by
  have sc := hR.sc
  have hTx := hR.2.2.2.2.1
  obtain ⟨L, hL⟩ : ∃ L : Nat, A 1 1 = (L : Int) := ⟨(A 1 1).toNat, by omega⟩
  have hL9 : L ≤ 90 := by omega
  have h18 : A 49 18 = (L : Int) := by omega
  have hT := rdT_all (A := A) (L := L)
  have h60 : ∀ j, j < L → A 60 j = A 2 j := fun j hj => (hTx.2.2.2 j (by omega)).1.symm
  have z99 : in99 (fun _ => 0) := fun _ => (by decide : (-99 : Int) ≤ 0 ∧ (0 : Int) ≤ 99)
  have hAll := acF_all (A := A) (L := L) (n := (rdT A L).2.1) 6 0 (rdT A L).1 (fun _ => 0) (fun _ => 0) hT.1 rfl z99 z99
  have hP : (rdA A L).1.2 ≤ L := hAll.1
  refine e_X_read (sp_T_parse hR hL hL9 (fun e1 e2 σ1 hF c11 c14 c15 c3 c4 => ⟨fun _ => ?_, fun h => absurd h (by decide)⟩) (fun hb σ1 hF c11 => ⟨fun h => by omega, fun _ => ?_⟩))
  · have f1 : (rdT A L).1.1 = false := by
      cases hb : (rdT A L).1.1 with
      | false => rfl
      | true =>
        have eA : rdA A L = ((true, (rdT A L).1.2), 0, (fun _ => 0), (fun _ => 0)) := by unfold rdA; rw [pair_split (s := (rdT A L).1) hb, acF_bad]
        rw [eA] at e1
        cases e1
    have ha1 : 1 ≤ (rdA A L).2.1 := by
      unfold rdA
      rw [pair_split (s := (rdT A L).1) f1]
      exact acF_one hT.1 z99 z99
    have ha6 : (rdA A L).2.1 ≤ 6 := hAll.2.2.1
    have hj : in99 (rdA A L).2.2.1 := hAll.2.2.2.1
    have hv : in99 (rdA A L).2.2.2 := hAll.2.2.2.2
    have hw := hT.2.2.2 f1
    have hn : 1 ≤ (rdT A L).2.1 ∧ (rdT A L).2.1 ≤ 4 := ⟨hT.2.2.1, hT.2.1⟩
    refine sp_S_begin (d := 36) (w := (rdT A L).2.2) c14 c15 hn (fun i hi => ⟨c3 i hi, hw i hi⟩) (fun σ2 hF2 x7 x6 x8 xg => ?_)
    have g71 : mset (mset σ2 31 0 0) 0 2 0 7 1 = (((rdT A L).2.1 : Nat) : Int) := by rw [ms_nk (by decide), ms_nk (by decide)]; exact x7.2.1
    have g72 : mset (mset σ2 31 0 0) 0 2 0 7 2 = (((rdA A L).2.1 : Nat) : Int) := by rw [ms_nk (by decide), ms_nk (by decide)]; exact x7.2.2.1
    rw [g71, g72]
    have kE : ∀ k i, ¬ (k = 1 ∧ (i = 1 ∨ i = 2 ∨ i = 3 ∨ i = 4 ∨ i = 5)) → ¬ (3 ≤ k ∧ k ≤ 5) → ¬ (7 ≤ k ∧ k ≤ 12) → ¬ (k = 31 ∧ i = 0) → ¬ (k = 0 ∧ i = 2) → mset (mset σ2 31 0 0) 0 2 0 k i = A k i := fun k i h1 h2 h3 h4 h5 => by
      rw [ms_ne (by omega), ms_ne (by omega), hF2 k i h3, hF k i h1 (by omega) (by omega) (by omega)]
    have y18 : mset (mset σ2 31 0 0) 0 2 0 49 18 = (L : Int) := by rw [kE 49 18 (by omega) (by omega) (by omega) (by omega) (by omega)]; exact h18
    have y60 : ∀ j, j < L → mset (mset σ2 31 0 0) 0 2 0 60 j = A 2 j := fun j hj => by rw [kE 60 j (by omega) (by omega) (by omega) (by omega) (by omega)]; exact h60 j hj
    obtain ⟨τ, hτ⟩ : ∃ τ, τ = mset (mset σ2 31 0 0) 0 2 0 := ⟨_, rfl⟩
    have t31 : τ 31 0 = 0 := by rw [hτ, ms_nk (by decide), ms_eq]
    have t02 : τ 0 2 = 0 := by rw [hτ, ms_eq]
    have tF : ∀ k i, ¬ (k = 31 ∧ i = 0) → ¬ (k = 0 ∧ i = 2) → τ k i = σ2 k i := fun k i h1 h2 => by rw [hτ, ms_ne (by omega), ms_ne (by omega)]
    rw [← hτ] at kE y18 y60 ⊢
    refine sp_M_text (d := 35) hR hL hL9 y18 y60 (fun hb => ?_) (fun _ _ σ3 hF3 m18 m65 m66 => ?_)
    · exfalso
      rcases hb with hb | hb
      · rw [e1] at hb; cases hb
      · omega
    refine sp_M_fresh (d := 38) (n := (rdT A L).2.1) (a := (rdA A L).2.1) (w := (rdT A L).2.2) ?_ ms_eq hn ha6 (fun i hi => ⟨?_, hw i hi⟩) (fun F hFF y4 y5 y52 => ⟨?_, ?_⟩)
    · rw [ms_ni (by decide), ms_eq]
    · rw [ms_nk (by decide), ms_nk (by decide)]; exact m65 i hi
    · rw [w32_id (x := 10 * (((rdT A L).2.1 : Nat) : Int)) (by omega) (by omega), w32_id (by omega) (by omega)]
    · have kG : ∀ k i, ¬ (50 ≤ k ∧ k ≤ 52) → ¬ (k = 49 ∧ (i = 0 ∨ i = 1 ∨ i = 5 ∨ i = 6 ∨ i = 9 ∨ i = 12 ∨ i = 16 ∨ i = 18 ∨ i = 19 ∨ i = 24 ∨ i = 25 ∨ i = 26 ∨ i = 27 ∨ i = 28)) → k ≠ 65 → k ≠ 66 → F k i = τ k i := fun k i h1 h2 h3 h4 => by
        rw [hFF k i h1 (by omega), ms_ne (by omega), ms_ne (by omega), hF3 k i (by omega) h3 h4]
      have g7 : ∀ k i, 7 ≤ k ∧ k ≤ 12 → F k i = σ2 k i := fun k i hk => by rw [kG k i (by omega) (by omega) (by omega) (by omega), tF k i (by omega) (by omega)]
      refine RR.fresh hR hn ⟨ha1, ha6⟩ hw hj hv (fun k i h0 h1 h2 h3 h4 h5 h6 h7 h8 => ?_) ⟨?_, ?_, ?_, ?_, ?_, ?_, ?_⟩ ?_ (fun i hi => ?_) (fun i hi hi2 => ?_) ⟨?_, ?_, y4.1, y4.2.1, y4.2.2.1, y4.2.2.2.1⟩ y5 (fun i hi hi2 => ?_) ⟨?_, y4.2.2.2.2.2⟩ ⟨?_, y4.2.2.2.2.1⟩ ⟨?_, ?_⟩
      · rw [kG k i h6 (by omega) h7 h8, kE k i (by omega) h2 h3 (by omega) (by omega)]
      · rw [g7 7 0 (by omega)]; exact x7.1
      · rw [g7 7 1 (by omega)]; exact x7.2.1
      · rw [g7 7 2 (by omega)]; exact x7.2.2.1
      · rw [g7 7 3 (by omega)]; exact x7.2.2.2.1
      · rw [g7 7 10 (by omega)]; exact x7.2.2.2.2.1
      · rw [g7 7 13 (by omega)]; exact x7.2.2.2.2.2.1
      · rw [g7 7 16 (by omega)]; exact x7.2.2.2.2.2.2
      · rw [g7 7 6 (by omega)]; exact x6
      · rw [g7 8 i (by omega), g7 9 i (by omega)]; exact x8 i hi
      · have c := c4 i hi hi2
        have x := xg i (by omega)
        rw [g7 10 i (by omega), g7 12 i (by omega), g7 11 i (by omega), x.1, x.2.1, x.2.2]
        exact ⟨c.1, c.1, c.2⟩
      · rw [hFF 49 0 (by omega) (by omega), ms_ni (by decide), ms_eq]
      · rw [hFF 49 1 (by omega) (by omega), ms_eq]
      · have c := m66 i hi hi2
        have x := y52 i (by omega)
        rw [x.1, x.2.1, x.2.2, ms_nk (by decide), ms_nk (by decide), ms_nk (by decide), ms_nk (by decide)]
        exact ⟨c.1, c.2, c.1⟩
      · rw [kG 31 0 (by omega) (by omega) (by omega) (by omega)]; exact t31
      · rw [kG 0 2 (by omega) (by omega) (by omega) (by omega)]; exact t02
      · rw [kG 1 1 (by omega) (by omega) (by omega) (by omega), tF 1 1 (by omega) (by omega), hF2 1 1 (by omega)]; exact c11
      · rw [hFF 49 18 (by omega) (by omega), ms_ni (by decide), ms_ni (by decide)]; exact m18
  · refine sp_M_text (d := 35) hR hL hL9 (by rw [hF 49 18 (by omega) (by omega) (by omega) (by omega)]; exact h18) (fun j hj => by rw [hF 60 j (by omega) (by omega) (by omega) (by omega)]; exact h60 j hj) (fun _ σ2 hF2 c18 => ⟨rfl, ?_⟩) (fun f1 f2 => ?_)
    · refine hR.text0 (fun k i hl n1 n2 => ?_) ?_ c18
      · have l := live_ok (l := [(1, 2), (1, 3), (1, 4), (1, 5), (49, 24), (49, 25), (49, 26), (49, 27), (49, 28)]) hl (by decide)
        simp only [List.mem_cons, List.not_mem_nil, or_false, forall_eq_or_imp, forall_eq] at l
        have n3 := live_x (o := 3) hl rfl
        have n4 := live_x (o := 4) hl rfl
        have n5 := live_x (o := 5) hl rfl
        have n65 := live_x (o := 65) hl rfl
        have n66 := live_x (o := 66) hl rfl
        rw [hF2 k i (by omega) n65 n66, hF k i (by omega) n3 n4 n5]
      · rw [hF2 1 1 (by omega) (by omega) (by omega)]; exact c11
    · exfalso
      rcases hb with hb | hb
      · rw [f1] at hb; cases hb
      · omega
