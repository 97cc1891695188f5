-- two truths: how the reference keeps its candidates
def DF (σ σ1 : Mem) : Prop := ∀ k i, k ≠ 73 → k ≠ 74 → ¬ (k = 49 ∧ i = 38) → σ1 k i = σ k i
theorem DF.trans {σ τ υ : Mem} (h1 : DF σ τ) (h2 : DF τ υ) : DF σ υ := fun k i a b c => (h2 k i a b c).trans (h1 k i a b c)
theorem DF.eqv {A σ τ : Mem} (hE : Eqv A σ) (h : DF σ τ) : Eqv A τ := fun k i hl => by
  have l := live_ok (l := [(49, 38)]) hl (by decide)
  simp only [List.mem_cons, List.not_mem_nil, or_false, forall_eq_or_imp, forall_eq] at l
  rw [h k i (live_x (o := 73) hl rfl) (live_x (o := 74) hl rfl) l]
  exact hE k i hl
theorem sp_M_shift {d : Nat} {σ : Mem} {Q : Int → Mem → Prop} {n k : Nat} {p q : Int} (hn : σ 49 38 = (n : Int)) (hn3 : n < 40) (hk : k ≤ n) (hQ : ∀ σ1, DF σ σ1 → σ1 49 38 = ((n + 1 : Nat) : Int) → (∀ i, i < k → σ1 73 i = σ 73 i ∧ σ1 74 i = σ 74 i) → (σ1 73 k = p ∧ σ1 74 k = q) → (∀ i, k < i → i < n + 1 → σ1 73 i = σ 73 (i - 1) ∧ σ1 74 i = σ 74 (i - 1)) → Q 0 σ1) : K_M_addCandidate_151 d Q p q (k : Int) (n : Int) σ := by
  have go : ∀ m x : Nat, x = k + m → x ≤ n → ∀ τ : Mem, (∀ c i, c ≠ 73 → c ≠ 74 → τ c i = σ c i) → (∀ i, i ≤ x → τ 73 i = σ 73 i ∧ τ 74 i = σ 74 i) → (∀ i, x < i → i < n + 1 → τ 73 i = σ 73 (i - 1) ∧ τ 74 i = σ 74 (i - 1)) → K_M_addCandidate_151 d Q p q (k : Int) (x : Int) τ := by
    intro m
    induction m with
    | zero =>
      intro x hx hxn τ hF h1 h2
      have hx2 : x = k := by omega
      subst hx2
      refine e_M_addCandidate_151 ⟨fun h => by omega, fun _ => ⟨⟨by omega, by omega⟩, ⟨by omega, by omega⟩, ?_⟩⟩
      rw [Int.toNat_natCast, ms_nk (by decide), ms_nk (by decide), hF 49 38 (by decide) (by decide), hn, w32_eq (n := n + 1) (by omega) (by omega)]
      refine hQ _ (fun c i c1 c2 c3 => ?_) ms_eq (fun i hi => ?_) ⟨?_, ?_⟩ (fun i hi hi2 => ?_)
      · rw [ms_ne (by omega), ms_nk c2, ms_nk c1]; exact hF c i c1 c2
      · rw [ms_nk (by decide), ms_nk (by decide), ms_ni (by omega), ms_nk (by decide), ms_ni (by omega)]; exact h1 i (by omega)
      · rw [ms_nk (by decide), ms_nk (by decide), ms_eq]
      · rw [ms_nk (by decide), ms_eq]
      · rw [ms_nk (by decide), ms_nk (by decide), ms_ni (by omega), ms_nk (by decide), ms_ni (by omega)]; exact h2 i hi hi2
    | succ m ih =>
      intro x hx hxn τ hF h1 h2
      have e1 : w32 ((x : Int) - 1) = ((x - 1 : Nat) : Int) := w32_eq (by omega) (by omega)
      have e2 : w32 ((x : Int) + (-1)) = ((x - 1 : Nat) : Int) := w32_eq (by omega) (by omega)
      refine e_M_addCandidate_151 ⟨fun _ => ?_, fun h => by omega⟩
      rw [e1, e2, Int.toNat_natCast, Int.toNat_natCast, ms_nk (by decide)]
      refine ⟨⟨by omega, by omega⟩, ⟨by omega, by omega⟩, ⟨by omega, by omega⟩, ⟨by omega, by omega⟩, ih (x - 1) (by omega) (by omega) _ (fun c i c1 c2 => ?_) (fun i hi => ?_) (fun i hi hi2 => ?_)⟩
      · rw [ms_nk c2, ms_nk c1]; exact hF c i c1 c2
      · rw [ms_nk (by decide), ms_ni (by omega), ms_ni (by omega)]; exact h1 i (by omega)
      · by_cases e : i = x
        · subst e
          rw [ms_nk (by decide), ms_eq, ms_eq]
          exact h1 (i - 1) (by omega)
        · rw [ms_nk (by decide), ms_ni e, ms_ni e]; exact h2 i (by omega) hi2
  exact go (n - k) n (by omega) (Nat.le_refl n) σ (fun _ _ _ _ => rfl) (fun _ _ => ⟨rfl, rfl⟩) (fun i h1 h2 => by omega)
/-- candidates lie between and are in least terms -/
def LT1 (a b : Nat → Int) (n : Nat) : Prop := ∀ i, i < n → 0 < a i ∧ a i < b i ∧ gI (a i) (b i) = 1
theorem LT1.ins {a b a2 b2 : Nat → Int} {n k : Nat} {p q : Int} (h : LT1 a b n) (hk : k ≤ n) (hp : 0 < p ∧ p < q ∧ gI p q = 1) (e1 : ∀ i, i < k → a2 i = a i ∧ b2 i = b i) (e2 : a2 k = p ∧ b2 k = q) (e3 : ∀ i, k < i → i < n + 1 → a2 i = a (i - 1) ∧ b2 i = b (i - 1)) : LT1 a2 b2 (n + 1) := fun i hi => by
  rcases Nat.lt_trichotomy i k with z | z | z
  · rw [(e1 i z).1, (e1 i z).2]; exact h i (by omega)
  · subst z; rw [e2.1, e2.2]; exact hp
  · rw [(e3 i z hi).1, (e3 i z hi).2]; exact h (i - 1) (by omega)
theorem one_eq {a b c e : Int} (hb : 0 < b) (he : 0 < e) (g1 : gI a b = 1) (g2 : gI c e = 1) (h : a * e = c * b) : a = c ∧ b = e := by
  have x0 := frP_eq (part := 0) hb he h
  have x1 := frP_eq (part := 1) hb he h
  unfold frP at x0 x1
  rw [g1, g2] at x0 x1
  simp only [Int.tdiv_one] at x0 x1
  exact ⟨x0, x1⟩
theorem sp_M_cand70 {d : Nat} {σ : Mem} {Q : Int → Mem → Prop} {n : Nat} {p q : Int} (hS : SL (σ 73) (σ 74) n) (hL : LT1 (σ 73) (σ 74) n) (hn : σ 49 38 = (n : Int)) (hn3 : n < 40) (hp : 0 < p ∧ p < q ∧ gI p q = 1) (hq : q ≤ 396) (hQ : ∀ σ1 m, DF σ σ1 → σ1 49 38 = ((m : Nat) : Int) → n ≤ m → m ≤ n + 1 → SL (σ1 73) (σ1 74) m → LT1 (σ1 73) (σ1 74) m → (∀ p2 q2, has (σ 73) (σ 74) n p2 q2 → has (σ1 73) (σ1 74) m p2 q2) → has (σ1 73) (σ1 74) m p q → Q 0 σ1) : K_M_addCandidate_70 d Q p q 0 σ := by
  have ins : ∀ k : Nat, k ≤ n → (∀ i, i < k → σ 73 i * q < p * σ 74 i) → (k < n → p * σ 74 k < σ 73 k * q) → K_M_addCandidate_151 d Q p q (k : Int) (n : Int) σ := fun k hk lo hi => sp_M_shift hn hn3 hk (fun σ1 hF h4 g1 g2 g3 => by
    have z := SL.ins hS hk ⟨by omega, by omega, by omega, hq⟩ lo hi g1 g2 g3
    exact hQ σ1 (n + 1) hF h4 (by omega) (by omega) z.1 (hL.ins hk hp g1 g2 g3) z.2.1 z.2.2)
  refine upto (n := n) (P := fun k => (∀ i, i < k → σ 73 i * q < p * σ 74 i) → K_M_addCandidate_70 d Q p q ((k : Nat) : Int) σ) (fun lo => e_M_addCandidate_70 ⟨fun h => by omega, fun _ => ⟨fun h => by omega, fun _ => ?_⟩⟩) (fun k hk ih lo => e_M_addCandidate_70 ⟨fun _ => ⟨⟨by omega, by omega⟩, ⟨by omega, by omega⟩, ?_⟩, fun h => by omega⟩) (fun i hi => absurd hi (by omega))
  · rw [hn]; exact ins n (Nat.le_refl n) lo (fun h => by omega)
  · have bk := hS.1 k hk
    have lk := hL k hk
    have e1 : w32 ((k : Int) + 1) = ((k + 1 : Nat) : Int) := w32_eq (by omega) (by omega)
    rw [e1, Int.toNat_natCast, m396 ⟨bk.1, by omega⟩ ⟨by omega, hq⟩, m396 ⟨by omega, by omega⟩ ⟨by omega, bk.2.2.2⟩, hn]
    have strict : p * σ 74 k ≤ σ 73 k * q → ¬ (σ 73 k = p ∧ σ 74 k = q) → p * σ 74 k < σ 73 k * q := fun h1 h2 => by
      refine Int.lt_iff_le_and_ne.mpr ⟨h1, fun z => h2 ?_⟩
      have := one_eq (a := p) (b := q) (c := σ 73 k) (e := σ 74 k) (by omega) (by omega) hp.2.2 lk.2.2 z
      omega
    refine ⟨fun h => ih (fun i hi => ?_), fun h => ⟨fun _ => ⟨⟨by omega, by omega⟩, fun h2 => ⟨⟨by omega, by omega⟩, fun h3 => ?_, fun h3 => ins k (by omega) lo (fun _ => strict h (fun z => h3 z.2))⟩, fun h2 => ins k (by omega) lo (fun _ => strict h (fun z => h2 z.1))⟩, fun h2 => by omega⟩⟩
    · by_cases e : i = k
      · subst e; exact h
      · exact lo i (by omega)
    · exact hQ σ n (fun _ _ _ _ _ => rfl) hn (Nat.le_refl n) (by omega) hS hL (fun _ _ z => z) ⟨k, hk, by rw [h2, h3]⟩
theorem sp_M_addCandidate {d : Nat} {σ : Mem} {Q : Int → Mem → Prop} {n : Nat} {x y : Int} (hS : SL (σ 73) (σ 74) n) (hL : LT1 (σ 73) (σ 74) n) (hn : σ 49 38 = (n : Int)) (hn3 : n < 40) (hx : -198 ≤ x ∧ x ≤ 198) (hy : -198 ≤ y ∧ y ≤ 198) (hne : ¬ x = y) (hQ : ∀ σ1 m, DF σ σ1 → σ1 49 38 = ((m : Nat) : Int) → n ≤ m → m ≤ n + 1 → SL (σ1 73) (σ1 74) m → LT1 (σ1 73) (σ1 74) m → (∀ p2 q2, has (σ 73) (σ 74) n p2 q2 → has (σ1 73) (σ1 74) m p2 q2) → (opp x y → has (σ1 73) (σ1 74) m (rA x) (rB x y)) → Q 0 σ1) : wp (d + 2) m_M_addCandidate [.inr (.inr 49), .inr (.inl x), .inr (.inl (x - y))] σ Q := by
  have none : ¬ opp x y → Q 0 σ := fun ho => hQ σ n (fun _ _ _ _ _ => rfl) hn (Nat.le_refl n) (by omega) hS hL (fun _ _ z => z) (fun z => absurd z ho)
  have some : opp x y → wp (d + 1) m_M_divisor [.inr (.inl (rA x)), .inr (.inl (rB x y))] σ (fun r s => (¬ r = 0) ∧ (¬ r = 0) ∧ K_M_addCandidate_70 (d + 1) Q (w64 (Int.tdiv (rA x) r)) (w64 (Int.tdiv (rB x y) r)) 0 s) := fun ho => by
    have hr := rB_pos ho
    have hb : rB x y ≤ 396 := by unfold rB; omega
    refine sp_M_dv ⟨by omega, by omega⟩ ⟨by omega, by omega⟩ ?_
    have hg := gI_pos (a := rA x) (b := rB x y) hr.2.2
    obtain ⟨p, hp⟩ := gI_dl (a := rA x) (b := rB x y)
    obtain ⟨q, hq⟩ := gI_dr (a := rA x) (b := rB x y)
    have ep : (rA x).tdiv (gI (rA x) (rB x y)) = p := by
      have := Int.mul_tdiv_cancel_left p (show gI (rA x) (rB x y) ≠ 0 by omega)
      rw [← hp] at this
      exact this
    have eq : (rB x y).tdiv (gI (rA x) (rB x y)) = q := by
      have := Int.mul_tdiv_cancel_left q (show gI (rA x) (rB x y) ≠ 0 by omega)
      rw [← hq] at this
      exact this
    rw [ep, eq]
    generalize hgg : gI (rA x) (rB x y) = g at hp hq hg
    have g1 : gI p q = 1 := by
      have := gI_mul (k := g) (a := p) (b := q) (by omega)
      rw [← hp, ← hq, hgg] at this
      have e : g * 1 = g * gI p q := by omega
      exact (Int.eq_of_mul_eq_mul_left (by omega) e).symm
    have s1 := mp_pos (s := g) (x := p) (by omega)
    have s2 := mp_pos (s := g) (x := q - p) (by omega)
    rw [Int.mul_sub] at s2
    have s3 : q ≤ g * q := by
      have := Int.mul_le_mul_of_nonneg_right (show (1 : Int) ≤ g by omega) (show 0 ≤ q by omega)
      omega
    have hp2 : 0 < p ∧ p < q := by omega
    rw [w64_id (x := p) (by omega) (by omega), w64_id (x := q) (by omega) (by omega)]
    refine ⟨by omega, by omega, sp_M_cand70 hS hL hn hn3 ⟨hp2.1, hp2.2, g1⟩ (by omega) (fun σ1 m k1 k2 k3 k4 k5 k6 k7 k8 => hQ σ1 m k1 k2 k3 k4 k5 k6 k7 (fun _ => ?_))⟩
    obtain ⟨i, i1, i2⟩ := k8
    refine ⟨i, i1, ?_⟩
    rw [hp, hq, ← Int.mul_assoc, Int.mul_comm (σ1 73 i) g, Int.mul_assoc, i2, Int.mul_assoc]
  have nx : w64 (-x) = -x := w64_id (by omega) (by omega)
  have nd : w64 (-(x - y)) = -(x - y) := w64_id (by omega) (by omega)
  refine e_M_addCandidate ⟨fun h => ⟨fun _ => ⟨fun h1 => ⟨fun h2 => ?_, fun h2 => none ?_⟩, fun h1 => none ?_⟩, fun h1 => by omega⟩, fun h => ⟨fun h1 => by omega, fun _ => ⟨fun h1 => ⟨fun h2 => ?_, fun h2 => none ?_⟩, fun h1 => none ?_⟩⟩⟩
  · rw [nx] at h1
    rw [nx, nd] at h2
    have ea : -x = rA x := by unfold rA; omega
    have eb : -(x - y) = rB x y := by unfold rB; omega
    rw [nx, nd, ea, eb]
    exact some (Or.inr ⟨by omega, by omega⟩)
  · rw [nx] at h1
    rw [nx, nd] at h2
    unfold opp; omega
  · rw [nx] at h1
    unfold opp; omega
  · have ea : x = rA x := by unfold rA; omega
    have eb : x - y = rB x y := by unfold rB; omega
    rw [eb]
    have z := some (Or.inl ⟨by omega, by omega⟩)
    rw [← ea] at z
    exact z
  · unfold opp; omega
  · unfold opp; omega
theorem sp_M_addMeeting {d : Nat} {A σ : Mem} {Q : Int → Mem → Prop} {n a b wi : Nat} (hR : SR 7 (mLive A) A) (h2 : A 7 1 = 2) (hE : Eqv A σ) (hS : SL (σ 73) (σ 74) n) (hL : LT1 (σ 73) (σ 74) n) (hn : σ 49 38 = (n : Int)) (hn3 : n < 40) (hwi : wi ≤ 1) (ha : (a : Int) < A 7 2) (hb : (b : Int) < A 7 2) (h0 : dd A (10 + wi) a b 0 = dd A (10 + wi) a b 1 → Q 0 σ) (hQ : ∀ σ1 m, DF σ σ1 → σ1 49 38 = ((m : Nat) : Int) → n ≤ m → m ≤ n + 1 → SL (σ1 73) (σ1 74) m → LT1 (σ1 73) (σ1 74) m → (∀ p2 q2, has (σ 73) (σ 74) n p2 q2 → has (σ1 73) (σ1 74) m p2 q2) → ¬ dd A (10 + wi) a b 0 = dd A (10 + wi) a b 1 → hasP A (σ1 73) (σ1 74) m a b (10 + wi) → Q 0 σ1) : wp (d + 3) m_M_addMeeting [.inr (.inr 49), .inl (wi : Int), .inl (a : Int), .inl (b : Int)] σ Q := by
  have hA := hR.ac
  have hip : isPay (10 + wi) := by unfold isPay; omega
  have x0 := dd_bd hR h2 (t := 0) hip ha hb (by omega)
  have x1 := dd_bd hR h2 (t := 1) hip ha hb (by omega)
  have e24 : w32 (24 * (wi : Int)) = ((24 * wi : Nat) : Int) := w32_eq (by omega) (by omega)
  have e4 : ∀ c : Nat, (c : Int) < A 7 2 → w32 (4 * (c : Int)) = ((4 * c : Nat) : Int) := fun c hc => w32_eq (by omega) (by omega)
  have es : ∀ c : Nat, (c : Int) < A 7 2 → w32 (((24 * wi : Nat) : Int) + ((4 * c : Nat) : Int)) = ((24 * wi + 4 * c : Nat) : Int) := fun c hc => w32_eq (by omega) (by omega)
  have e1 : ∀ c : Nat, (c : Int) < A 7 2 → w32 (((24 * wi + 4 * c : Nat) : Int) + 1) = ((24 * wi + 4 * c + 1 : Nat) : Int) := fun c hc => w32_eq (by omega) (by omega)
  have g : ∀ c t : Nat, (c : Int) < A 7 2 → t < 2 → σ 52 (24 * wi + 4 * c + t) = A (10 + wi) (4 * c + t) := fun c t hc ht => by
    rw [hE 52 _ rfl]
    exact gets_m hR (by omega) hc (by omega)
  have ga0 : σ 52 (24 * wi + 4 * a) = A (10 + wi) (4 * a) := g a 0 ha (by omega)
  have gb0 : σ 52 (24 * wi + 4 * b) = A (10 + wi) (4 * b) := g b 0 hb (by omega)
  have ga1 := g a 1 ha (by omega)
  have gb1 := g b 1 hb (by omega)
  have d0 : A (10 + wi) (4 * a) - A (10 + wi) (4 * b) = dd A (10 + wi) a b 0 := rfl
  have d1 : A (10 + wi) (4 * a + 1) - A (10 + wi) (4 * b + 1) = dd A (10 + wi) a b 1 := rfl
  refine e_M_addMeeting ?_
  rw [e24, e4 a ha, e4 b hb, es a ha, es b hb, e1 a ha, e1 b hb, Int.toNat_natCast, Int.toNat_natCast, Int.toNat_natCast, Int.toNat_natCast, ga0, gb0, ga1, gb1, d0, d1, w32_id (x := dd A (10 + wi) a b 0) (by omega) (by omega), w32_id (x := dd A (10 + wi) a b 1) (by omega) (by omega), w64_id (x := dd A (10 + wi) a b 0 - dd A (10 + wi) a b 1) (by omega) (by omega)]
  refine ⟨⟨by omega, by omega⟩, ⟨by omega, by omega⟩, ⟨by omega, by omega⟩, ⟨by omega, by omega⟩, fun h => h0 h, fun h => ?_⟩
  exact sp_M_addCandidate hS hL hn hn3 x0 x1 h (fun σ1 m k1 k2 k3 k4 k5 k6 k7 k8 => hQ σ1 m k1 k2 k3 k4 k5 k6 k7 h k8)
