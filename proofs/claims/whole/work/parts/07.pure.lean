-- THE SMALL MACHINE IS TRUE, 1: numbers, locals, and the instructions that only move numbers
def InI (x : Int) : Prop := -2147483648 ≤ x ∧ x < 2147483648
def InL (x : Int) : Prop := -9223372036854775808 ≤ x ∧ x < 9223372036854775808
def conc (ad : Nat → Nat) : AV → Value
  | .inl x => .int (Int32.ofInt x)
  | .inr (.inl x) => .long (Int64.ofInt x)
  | .inr (.inr k) => .ref (ad k)
def OKv : AV → Prop
  | .inl x => InI x
  | .inr (.inl x) => InL x
  | .inr (.inr _) => True
def OKs (st : List AV) : Prop := ∀ x ∈ st, OKv x
theorem OKs.nil : OKs [] := fun _ h => by cases h
theorem OKs.cons {x : AV} {st : List AV} (h : OKv x) (hs : OKs st) : OKs (x :: st) := fun y hy => by
  rcases List.mem_cons.mp hy with rfl | hy
  · exact h
  · exact hs y hy
theorem OKs.hd {x : AV} {st : List AV} (h : OKs (x :: st)) : OKv x := h x List.mem_cons_self
theorem OKs.tl {x : AV} {st : List AV} (h : OKs (x :: st)) : OKs st := fun y hy => h y (List.mem_cons_of_mem _ hy)
theorem i32_id {x : Int} (h : InI x) : (Int32.ofInt x).toInt = x := Int32.toInt_ofInt_of_le (by have := h.1; omega) (by have := h.2; omega)
theorem i64_id {x : Int} (h : InL x) : (Int64.ofInt x).toInt = x := Int64.toInt_ofInt_of_le (by have := h.1; omega) (by have := h.2; omega)
theorem i32_in (x : Int32) : InI x.toInt := ⟨by have := Int32.le_toInt x; omega, by have := Int32.toInt_lt x; omega⟩
theorem i64_in (x : Int64) : InL x.toInt := ⟨by have := Int64.le_toInt x; omega, by have := Int64.toInt_lt x; omega⟩
theorem w32_in (x : Int) : InI (w32 x) := i32_in _
theorem w64_in (x : Int) : InL (w64 x) := i64_in _
theorem w32_id {x : Int} (h1 : -2147483648 ≤ x) (h2 : x < 2147483648) : w32 x = x := i32_id ⟨h1, h2⟩
theorem w64_id {x : Int} (h1 : -9223372036854775808 ≤ x) (h2 : x < 9223372036854775808) : w64 x = x := i64_id ⟨h1, h2⟩
theorem of_w32 (x : Int) : Int32.ofInt (w32 x) = Int32.ofInt x := Int32.ofInt_toInt _
theorem of_w64 (x : Int) : Int64.ofInt (w64 x) = Int64.ofInt x := Int64.ofInt_toInt _
theorem of_lt {x y : Int} (hx : InI x) (hy : InI y) : Int32.ofInt x < Int32.ofInt y ↔ x < y := by rw [Int32.lt_iff_toInt_lt, i32_id hx, i32_id hy]
theorem of_le {x y : Int} (hx : InI x) (hy : InI y) : Int32.ofInt x ≤ Int32.ofInt y ↔ x ≤ y := by rw [Int32.le_iff_toInt_le, i32_id hx, i32_id hy]
theorem of_eq {x y : Int} (hx : InI x) (hy : InI y) : Int32.ofInt x = Int32.ofInt y ↔ x = y := by rw [← Int32.toInt_inj, i32_id hx, i32_id hy]
theorem ol_lt {x y : Int} (hx : InL x) (hy : InL y) : Int64.ofInt x < Int64.ofInt y ↔ x < y := by rw [Int64.lt_iff_toInt_lt, i64_id hx, i64_id hy]
theorem ol_le {x y : Int} (hx : InL x) (hy : InL y) : Int64.ofInt x ≤ Int64.ofInt y ↔ x ≤ y := by rw [Int64.le_iff_toInt_le, i64_id hx, i64_id hy]
theorem ol_eq {x y : Int} (hx : InL x) (hy : InL y) : Int64.ofInt x = Int64.ofInt y ↔ x = y := by rw [← Int64.toInt_inj, i64_id hx, i64_id hy]
theorem in0 : InI 0 := ⟨by decide, by decide⟩
theorem of_0 : Int32.ofInt 0 = 0 := by decide
theorem ol_0 : Int64.ofInt 0 = 0 := by decide
theorem of_div {x y : Int} (hx : InI x) (hy : InI y) : Int32.ofInt x / Int32.ofInt y = Int32.ofInt (w32 (x.tdiv y)) := by
  rw [of_w32]
  apply Int32.toInt_inj.mp
  rw [Int32.toInt_div, i32_id hx, i32_id hy, Int32.toInt_ofInt]
theorem ol_div {x y : Int} (hx : InL x) (hy : InL y) : Int64.ofInt x / Int64.ofInt y = Int64.ofInt (w64 (x.tdiv y)) := by
  rw [of_w64]
  apply Int64.toInt_inj.mp
  rw [Int64.toInt_div, i64_id hx, i64_id hy, Int64.toInt_ofInt]
theorem of_rem {x y : Int} (hx : InI x) (hy : InI y) : Int32.ofInt x - Int32.ofInt x / Int32.ofInt y * Int32.ofInt y = Int32.ofInt (x.tmod y) := by
  rw [of_div hx hy, of_w32, ← Int32.ofInt_mul, ← Int32.ofInt_sub]
  congr 1
  have := Int.tmod_add_mul_tdiv x y
  have e : y * x.tdiv y = x.tdiv y * y := Int.mul_comm _ _
  omega
theorem ol_rem {x y : Int} (hx : InL x) (hy : InL y) : Int64.ofInt x - Int64.ofInt x / Int64.ofInt y * Int64.ofInt y = Int64.ofInt (x.tmod y) := by
  rw [ol_div hx hy, of_w64, ← Int64.ofInt_mul, ← Int64.ofInt_sub]
  congr 1
  have := Int.tmod_add_mul_tdiv x y
  have e : y * x.tdiv y = x.tdiv y * y := Int.mul_comm _ _
  omega
theorem tmod_in {x y lo hi : Int} (h1 : lo ≤ x) (h2 : x < hi) (hl : lo ≤ 0) (hh : 0 < hi) : lo ≤ x.tmod y ∧ x.tmod y < hi := by
  rcases Int.le_total 0 x with h | h
  · have a := Int.tmod_nonneg y h
    have b : x.tmod y ≤ x := by
      have e := Int.tmod_add_mul_tdiv x y
      have : 0 ≤ y * x.tdiv y := by
        rcases Int.le_total 0 y with hy | hy
        · exact Int.mul_nonneg hy (Int.tdiv_nonneg h hy)
        · exact Int.mul_nonneg_of_nonpos_of_nonpos hy (by have := Int.tdiv_nonpos_of_nonneg_of_nonpos h hy; exact this)
      omega
    omega
  · have e0 : x.tmod y = -((-x).tmod y) := by rw [Int.neg_tmod, Int.neg_neg]
    have hx : 0 ≤ -x := by omega
    have a := Int.tmod_nonneg y hx
    have b : (-x).tmod y ≤ -x := by
      have e := Int.tmod_add_mul_tdiv (-x) y
      have : 0 ≤ y * (-x).tdiv y := by
        rcases Int.le_total 0 y with hy | hy
        · exact Int.mul_nonneg hy (Int.tdiv_nonneg hx hy)
        · exact Int.mul_nonneg_of_nonpos_of_nonpos hy (by have := Int.tdiv_nonpos_of_nonneg_of_nonpos hx hy; exact this)
      omega
    omega
def asc (ad : Nat → Nat) : Nat → Lo → List (Nat × Value)
  | _, [] => []
  | i, none :: t => asc ad (i + 1) t
  | i, some v :: t => (i, conc ad v) :: asc ad (i + 1) t
theorem asc_mem {ad : Nat → Nat} : ∀ {ls : Lo} {i : Nat} {q : Nat × Value}, q ∈ asc ad i ls ↔ ∃ j v, lget ls j = some v ∧ q = (i + j, conc ad v)
  | [], i, q => by simp [asc, lget]
  | none :: t, i, q => by
    rw [show asc ad i (none :: t) = asc ad (i + 1) t from rfl, asc_mem]
    constructor
    · rintro ⟨j, v, h1, h2⟩
      exact ⟨j + 1, v, h1, by rw [h2, show i + 1 + j = i + (j + 1) by omega]⟩
    · rintro ⟨j, v, h1, h2⟩
      cases j with
      | zero => cases h1
      | succ j => exact ⟨j, v, h1, by rw [h2, show i + 1 + j = i + (j + 1) by omega]⟩
  | some w :: t, i, q => by
    rw [show asc ad i (some w :: t) = (i, conc ad w) :: asc ad (i + 1) t from rfl, List.mem_cons, asc_mem]
    constructor
    · rintro (h | ⟨j, v, h1, h2⟩)
      · exact ⟨0, w, rfl, h⟩
      · exact ⟨j + 1, v, h1, by rw [h2, show i + 1 + j = i + (j + 1) by omega]⟩
    · rintro ⟨j, v, h1, h2⟩
      cases j with
      | zero => cases h1; exact Or.inl h2
      | succ j => exact Or.inr ⟨j, v, h1, by rw [h2, show i + 1 + j = i + (j + 1) by omega]⟩
def LR (ad : Nat → Nat) (nL : Nat) (ls : Lo) (jls : Array Slot) : Prop := lv_has jls nL (asc ad 0 ls) ∧ ∀ j v, lget ls j = some v → OKv v
theorem LR.at {ad : Nat → Nat} {nL : Nat} {ls : Lo} {jls : Array Slot} (h : LR ad nL ls jls) {i : Nat} {v : AV} (hi : lget ls i = some v) : jls[i]? = some (.val (conc ad v)) := by
  have := h.1.2.2 (i, conc ad v) (asc_mem.mpr ⟨i, v, hi, by simp⟩)
  exact this
theorem lget_stoA {f : Lo → Lo} {j : Nat} {w : AV} : ∀ {ls : Lo} {i : Nat}, lget (stoA f ls i) j = some w → (i ≤ j ∧ ∃ l, lget (f l) (j - i) = some w ∧ (∀ k, lget l k = lget ls (i + k))) ∨ (j < i ∧ lget ls j = some w ∧ ¬ (j + 1 = i ∧ isL (some w) = true))
  | ls, 0, h => by
    have e : stoA f ls 0 = f ls := by cases ls <;> rfl
    rw [e] at h
    exact Or.inl ⟨Nat.zero_le _, ls, h, fun k => by rw [Nat.zero_add]⟩
  | [], i + 1, h => by
    have e : stoA f [] (i + 1) = [] := by cases i <;> rfl
    rw [e] at h
    cases h
  | x :: t, 1, h => by
    rw [show stoA f (x :: t) 1 = notL x :: f t from rfl] at h
    cases j with
    | zero =>
      have h1 : notL x = some w := h
      unfold notL at h1
      refine Or.inr ⟨by omega, ?_⟩
      split at h1
      · cases h1
      · rename_i hb
        have hx : x = some w := h1
        subst hx
        exact ⟨rfl, fun q => by rw [q.2] at hb; cases hb⟩
    | succ j =>
      exact Or.inl ⟨by omega, t, h, fun k => by rw [show 1 + k = k + 1 by omega]; rfl⟩
  | x :: t, i + 2, h => by
    rw [show stoA f (x :: t) (i + 2) = x :: stoA f t (i + 1) from rfl] at h
    cases j with
    | zero => exact Or.inr ⟨by omega, h, fun q => by omega⟩
    | succ j =>
      have h1 : lget (stoA f t (i + 1)) j = some w := h
      rcases lget_stoA h1 with ⟨a, l, b, c⟩ | ⟨a, b, c⟩
      · exact Or.inl ⟨by omega, l, by rw [show j + 1 - (i + 2) = j - (i + 1) by omega]; exact b, fun k => by rw [c k, show i + 2 + k = (i + 1 + k) + 1 by omega]; rfl⟩
      · exact Or.inr ⟨by omega, b, fun q => c ⟨by omega, q.2⟩⟩
theorem lget_sto1 {ls : Lo} {i j : Nat} {v w : AV} (h : lget (sto1 ls i v) j = some w) : (j = i ∧ w = v) ∨ (j ≠ i ∧ lget ls j = some w ∧ ¬ (j + 1 = i ∧ isL (some w) = true)) := by
  rcases lget_stoA h with ⟨a, l, b, c⟩ | ⟨a, b, c⟩
  · cases l with
    | nil => cases b
    | cons y u =>
      by_cases hj : j = i
      · subst hj
        rw [Nat.sub_self] at b
        have b' : some v = some w := b
        exact Or.inl ⟨rfl, (Option.some.inj b').symm⟩
      · obtain ⟨k, rfl⟩ : ∃ k, j = i + (k + 1) := ⟨j - i - 1, by omega⟩
        rw [show i + (k + 1) - i = k + 1 by omega] at b
        have b' : lget (y :: u) (k + 1) = some w := b
        rw [c] at b'
        exact Or.inr ⟨by omega, b', fun q => by omega⟩
  · exact Or.inr ⟨by omega, b, c⟩
theorem lget_sto2 {ls : Lo} {i j : Nat} {v w : AV} (h : lget (sto2 ls i v) j = some w) : (j = i ∧ w = v) ∨ (j ≠ i ∧ j ≠ i + 1 ∧ lget ls j = some w ∧ ¬ (j + 1 = i ∧ isL (some w) = true)) := by
  rcases lget_stoA h with ⟨a, l, b, c⟩ | ⟨a, b, c⟩
  · cases l with
    | nil => cases b
    | cons y u =>
      by_cases hj : j = i
      · subst hj
        rw [Nat.sub_self] at b
        have b' : some v = some w := b
        exact Or.inl ⟨rfl, (Option.some.inj b').symm⟩
      · obtain ⟨k, rfl⟩ : ∃ k, j = i + (k + 1) := ⟨j - i - 1, by omega⟩
        rw [show i + (k + 1) - i = k + 1 by omega] at b
        have b' : lget (hdN u) k = some w := b
        cases u with
        | nil => cases b'
        | cons z u =>
          cases k with
          | zero => cases b'
          | succ k =>
            have b2 : lget (y :: z :: u) (k + 1 + 1) = some w := b'
            rw [c] at b2
            exact Or.inr ⟨by omega, by omega, b2, fun q => by omega⟩
  · exact Or.inr ⟨by omega, by omega, b, c⟩
theorem cat_conc {ad : Nat → Nat} {w : AV} (h : (conc ad w).category = 2) : isL (some w) = true := by
  match w, h with
  | .inl _, h => cases h
  | .inr (.inl _), _ => rfl
  | .inr (.inr _), h => cases h
theorem LR.sto1 {ad : Nat → Nat} {nL : Nat} {ls : Lo} {jls jl : Array Slot} {i : Nat} {v : AV} (h : LR ad nL ls jls) (hv : OKv v) (hl : lv_has jl nL ((i, conc ad v) :: (asc ad 0 ls).filter (fun q => !(q.1 == i) && !(q.1 + 1 == i && q.2.category == 2)))) : LR ad nL (sto1 ls i v) jl := by
  refine ⟨⟨hl.1, hl.2.1, fun q hq => hl.2.2 q ?_⟩, fun j w hw => ?_⟩
  · obtain ⟨j, w, h1, rfl⟩ := asc_mem.mp hq
    rw [Nat.zero_add]
    rcases lget_sto1 h1 with ⟨rfl, rfl⟩ | ⟨a, b, c⟩
    · exact List.mem_cons_self
    · refine List.mem_cons_of_mem _ (List.mem_filter.mpr ⟨asc_mem.mpr ⟨j, w, b, by simp⟩, ?_⟩)
      simp only [Bool.and_eq_true, Bool.not_eq_true', beq_eq_false_iff_ne, ne_eq, Bool.and_eq_false_iff]
      refine ⟨a, ?_⟩
      by_cases hj : j + 1 = i
      · exact Or.inr (fun z => c ⟨hj, cat_conc z⟩)
      · exact Or.inl hj
  · rcases lget_sto1 hw with ⟨-, rfl⟩ | ⟨-, b, -⟩
    · exact hv
    · exact h.2 j w b
theorem LR.sto2 {ad : Nat → Nat} {nL : Nat} {ls : Lo} {jls jl : Array Slot} {i : Nat} {v : AV} (h : LR ad nL ls jls) (hv : OKv v) (hl : lv_has jl nL ((i, conc ad v) :: (asc ad 0 ls).filter (fun q => !(q.1 == i) && (!(q.1 == i + 1) && !(q.1 + 1 == i && q.2.category == 2))))) : LR ad nL (sto2 ls i v) jl := by
  refine ⟨⟨hl.1, hl.2.1, fun q hq => hl.2.2 q ?_⟩, fun j w hw => ?_⟩
  · obtain ⟨j, w, h1, rfl⟩ := asc_mem.mp hq
    rw [Nat.zero_add]
    rcases lget_sto2 h1 with ⟨rfl, rfl⟩ | ⟨a, a2, b, c⟩
    · exact List.mem_cons_self
    · refine List.mem_cons_of_mem _ (List.mem_filter.mpr ⟨asc_mem.mpr ⟨j, w, b, by simp⟩, ?_⟩)
      simp only [Bool.and_eq_true, Bool.not_eq_true', beq_eq_false_iff_ne, ne_eq, Bool.and_eq_false_iff]
      refine ⟨a, a2, ?_⟩
      by_cases hj : j + 1 = i
      · exact Or.inr (fun z => c ⟨hj, cat_conc z⟩)
      · exact Or.inl hj
  · rcases lget_sto2 hw with ⟨-, rfl⟩ | ⟨-, -, b, -⟩
    · exact hv
    · exact h.2 j w b
theorem lget_keep {ms : List Nat} : ∀ {ls : Lo} {i j : Nat} {w : AV}, lget (keepF ms i ls) j = some w → lget ls j = some w
  | [], _, _, _, h => by cases h
  | x :: t, i, 0, w, h => by
    have h1 : (match elem i ms with
      | true => x
      | false => none) = some w := h
    split at h1
    · exact h1
    · cases h1
  | x :: t, i, j + 1, w, h => lget_keep (ls := t) (i := i + 1) h
theorem LR.keep {ad : Nat → Nat} {nL : Nat} {ls : Lo} {jls : Array Slot} (h : LR ad nL ls jls) (ms : List Nat) : LR ad nL (keepF ms 0 ls) jls := by
  refine ⟨⟨h.1.1, h.1.2.1, fun q hq => ?_⟩, fun j w hw => h.2 j w (lget_keep hw)⟩
  obtain ⟨j, w, h1, rfl⟩ := asc_mem.mp hq
  exact h.1.2.2 _ (asc_mem.mpr ⟨j, w, lget_keep h1, rfl⟩)
/-- what of an entry a program decides: the instruction's length, its places and its numbers -/
def okE (nL : Nat) (e : En) : Bool := match e with
  | (pc, _, ins, len, a, b, c, v, ts) => match ins with
    | .iconst n => len == 1 && decide (-1 ≤ n ∧ n ≤ 5)
    | .bipush n => len == 2 && decide (-128 ≤ n ∧ n < 128)
    | .sipush n => len == 3 && decide (-32768 ≤ n ∧ n < 32768)
    | .ldc_w _ => len == 3 && decide (-2147483648 ≤ v ∧ v < 2147483648)
    | .ldc2_w _ => len == 3 && decide (-9223372036854775808 ≤ v ∧ v < 9223372036854775808)
    | .lconst n => len == 1 && decide (v = (n.val : Int))
    | .iload _ | .lload _ | .aload _ => len == 2
    | .istore i | .astore i => len == 2 && decide (i < nL)
    | .istore_n i | .astore_n i => len == 1 && decide (i.val < nL)
    | .lstore i => len == 2 && decide (i + 1 < nL)
    | .lstore_n i => len == 1 && decide (i.val + 1 < nL)
    | .iinc i n => len == 3 && decide (i < nL)
    | .goto off => len == 3 && decide ((pc : Int) + off = (a : Int))
    | .ifCond _ off => len == 3 && decide ((pc : Int) + off = (a : Int))
    | .if_icmp _ off => len == 3 && decide ((pc : Int) + off = (a : Int))
    | .getfield _ | .putfield _ | .invokevirtual _ | .invokestatic _ => len == 3
    | .tableswitch d lo hi offs => decide ((pc : Int) + d = (a : Int)) && decide (offs.toList.map (fun o => (pc : Int) + o) = ts.map (fun (t : Nat) => (t : Int))) && decide (lo + (offs.size : Int) = hi + 1)
    | .ldc _ => false
    | _ => len == 1
section PW
variable {p : Program} {l : Launch} {e : Env} {R : Room} {s : State} {m : MethodId} {args : Array Value} {below : List Frame} {meth : Method} {c : Code} {H : Heap} {locs : List Loc} {cells slots : Nat} {Qs : State → Prop}
set_option maxHeartbeats 8000000 in
theorem pure_W {cc : ByteArray} {own : String} {ad : Nat → Nat} {nL pc len a0 b0 c0 : Nat} {mask : Option (List Nat)} {ts : List Nat} {ins : Instr} {v : Int} {ls ls1 : Lo} {st st1 : List AV} {jls : Array Slot}
    (hx : p.tables.exec = Jvm.exec) (hb : c.code = cc) (hown : s.vm.findClass own = some m.cls)
    (hdg : decode cc pc = .ok (ins, len)) (hok : okE nL (pc, mask, ins, len, a0, b0, c0, v, ts) = true)
    (hci : ∀ k, ins = .ldc_w k → (Jvm.Cond.constant own k (Int32.ofInt v)).before args s = true) (hcl : ∀ k, ins = .ldc2_w k → (Jvm.Cond.constantLong own k (Int64.ofInt v)).before args s = true)
    (h : pure1 ins v ls st = some (ls1, st1)) (hL : LR ad nL ls jls) (hS : OKs st)
    (kk : ∀ jl : Array Slot, LR ad nL ls1 jl → OKs st1 → W p l e R s m args below meth c H locs cells slots Qs (F0 m (pc + len) jl (st1.map (conc ad)))) : W p l e R s m args below meth c H locs cells slots Qs (F0 m pc jls (st.map (conc ad))) := by
  unfold pure1 at h
  split at h
  case h_1 n =>
    cases h
    simp only [okE, Bool.and_eq_true, beq_iff_eq, decide_eq_true_eq] at hok
    obtain ⟨rfl, h1⟩ := hok
    exact lv_iconst hx hb hdg rfl (kk jls hL (OKs.cons ⟨by omega, by omega⟩ hS))
  case h_2 n =>
    cases h
    simp only [okE, Bool.and_eq_true, beq_iff_eq, decide_eq_true_eq] at hok
    obtain ⟨rfl, h1⟩ := hok
    refine lv_bipush hx hb hdg ?_ (kk jls hL (OKs.cons ⟨by omega, by omega⟩ hS))
    apply Int32.toInt_inj.mp
    rw [i32_id ⟨by omega, by omega⟩, Int8.toInt_toInt32, Int8.toInt_ofInt_of_le (by omega) (by omega)]
  case h_3 n =>
    cases h
    simp only [okE, Bool.and_eq_true, beq_iff_eq, decide_eq_true_eq] at hok
    obtain ⟨rfl, h1⟩ := hok
    refine lv_sipush hx hb hdg ?_ (kk jls hL (OKs.cons ⟨by omega, by omega⟩ hS))
    apply Int32.toInt_inj.mp
    rw [i32_id ⟨by omega, by omega⟩, Int16.toInt_toInt32, Int16.toInt_ofInt_of_le (by omega) (by omega)]
  case h_4 n =>
    cases h
    simp only [okE, Bool.and_eq_true, beq_iff_eq, decide_eq_true_eq] at hok
    obtain ⟨rfl, h1⟩ := hok
    exact lv_ldcw hx hb hown (hci n rfl) hdg (kk jls hL (OKs.cons h1 hS))
  case h_5 n => simp [okE] at hok
  case h_6 n =>
    cases h
    simp only [okE, Bool.and_eq_true, beq_iff_eq, decide_eq_true_eq] at hok
    obtain ⟨rfl, h1⟩ := hok
    exact lv_ldc2 hx hb hown (hcl n rfl) hdg (kk jls hL (OKs.cons h1 hS))
  case h_7 n =>
    cases h
    simp only [okE, Bool.and_eq_true, beq_iff_eq, decide_eq_true_eq] at hok
    obtain ⟨rfl, rfl⟩ := hok
    refine lv_lconst hx hb hdg ?_ (kk jls hL (OKs.cons ⟨by have := n.isLt; omega, by have := n.isLt; omega⟩ hS))
    rw [Int64.ofInt_eq_ofNat]
  case h_8 i =>
    split at h
    · rename_i x hx1
      cases h
      simp only [okE, beq_iff_eq] at hok
      subst hok
      exact lv_iload hx hb hdg (hL.at hx1) (kk jls hL (OKs.cons (hL.2 _ _ hx1) hS))
    · cases h
  case h_9 i =>
    split at h
    · rename_i x hx1
      cases h
      simp only [okE, beq_iff_eq] at hok
      subst hok
      exact lv_iload_n hx hb hdg rfl (hL.at hx1) (kk jls hL (OKs.cons (hL.2 _ _ hx1) hS))
    · cases h
  case h_10 i =>
    split at h
    · rename_i x hx1
      cases h
      simp only [okE, beq_iff_eq] at hok
      subst hok
      exact lv_lload hx hb hdg (hL.at hx1) (kk jls hL (OKs.cons (hL.2 _ _ hx1) hS))
    · cases h
  case h_11 i =>
    split at h
    · rename_i x hx1
      cases h
      simp only [okE, beq_iff_eq] at hok
      subst hok
      exact lv_lload_n hx hb hdg rfl (hL.at hx1) (kk jls hL (OKs.cons (hL.2 _ _ hx1) hS))
    · cases h
  case h_12 i =>
    split at h
    · rename_i x hx1
      cases h
      simp only [okE, beq_iff_eq] at hok
      subst hok
      exact lv_aload hx hb hdg (hL.at hx1) (kk jls hL (OKs.cons (hL.2 _ _ hx1) hS))
    · cases h
  case h_13 i =>
    split at h
    · rename_i x hx1
      cases h
      simp only [okE, beq_iff_eq] at hok
      subst hok
      exact lv_aload_n hx hb hdg rfl (hL.at hx1) (kk jls hL (OKs.cons (hL.2 _ _ hx1) hS))
    · cases h
  case h_14 i =>
    split at h
    · cases h
      simp only [okE, Bool.and_eq_true, beq_iff_eq, decide_eq_true_eq] at hok
      obtain ⟨rfl, h1⟩ := hok
      exact lv_istore hx hb hdg hL.1 h1 rfl (fun jl hl => kk jl (hL.sto1 hS.hd hl) hS.tl)
    · cases h
  case h_15 i =>
    split at h
    · cases h
      simp only [okE, Bool.and_eq_true, beq_iff_eq, decide_eq_true_eq] at hok
      obtain ⟨rfl, h1⟩ := hok
      exact lv_istore_n hx hb hdg rfl hL.1 h1 rfl (fun jl hl => kk jl (hL.sto1 hS.hd hl) hS.tl)
    · cases h
  case h_16 i =>
    split at h
    · cases h
      simp only [okE, Bool.and_eq_true, beq_iff_eq, decide_eq_true_eq] at hok
      obtain ⟨rfl, h1⟩ := hok
      exact lv_lstore hx hb hdg hL.1 h1 rfl (fun jl hl => kk jl (hL.sto2 hS.hd hl) hS.tl)
    · cases h
  case h_17 i =>
    split at h
    · cases h
      simp only [okE, Bool.and_eq_true, beq_iff_eq, decide_eq_true_eq] at hok
      obtain ⟨rfl, h1⟩ := hok
      exact lv_lstore_n hx hb hdg rfl hL.1 h1 rfl (fun jl hl => kk jl (hL.sto2 hS.hd hl) hS.tl)
    · cases h
  case h_18 i =>
    split at h
    · cases h
      simp only [okE, Bool.and_eq_true, beq_iff_eq, decide_eq_true_eq] at hok
      obtain ⟨rfl, h1⟩ := hok
      exact lv_astore hx hb hdg hL.1 h1 rfl (fun jl hl => kk jl (hL.sto1 hS.hd hl) hS.tl)
    · cases h
  case h_19 i =>
    split at h
    · cases h
      simp only [okE, Bool.and_eq_true, beq_iff_eq, decide_eq_true_eq] at hok
      obtain ⟨rfl, h1⟩ := hok
      exact lv_astore_n hx hb hdg rfl hL.1 h1 rfl (fun jl hl => kk jl (hL.sto1 hS.hd hl) hS.tl)
    · cases h
  case h_20 i n =>
    split at h
    · rename_i x hx1
      cases h
      simp only [okE, Bool.and_eq_true, beq_iff_eq, decide_eq_true_eq] at hok
      obtain ⟨rfl, h1⟩ := hok
      obtain ⟨k, hk⟩ := List.getElem?_of_mem (asc_mem (ad := ad) (i := 0).mpr ⟨i, .inl x, hx1, rfl⟩)
      rw [Nat.zero_add] at hk
      refine lv_iinc (v := Int32.ofInt (w32 (x + n))) hx hb hdg hL.1 hk (by rw [of_w32, Int32.ofInt_add]) h1 rfl (fun jl hl => kk jl (hL.sto1 (w32_in _) hl) hS)
    · cases h
  case h_21 =>
    split at h
    · cases h
      simp only [okE, beq_iff_eq] at hok
      subst hok
      have k1 := kk jls hL (OKs.cons (w32_in _) hS.tl.tl)
      simp only [List.map_cons, conc, of_w32, Int32.ofInt_add] at k1
      exact lv_iadd hx hb hdg k1
    · cases h
  case h_22 =>
    split at h
    · cases h
      simp only [okE, beq_iff_eq] at hok
      subst hok
      have k1 := kk jls hL (OKs.cons (w32_in _) hS.tl.tl)
      simp only [List.map_cons, conc, of_w32, Int32.ofInt_sub] at k1
      exact lv_isub hx hb hdg k1
    · cases h
  case h_23 =>
    split at h
    · cases h
      simp only [okE, beq_iff_eq] at hok
      subst hok
      have k1 := kk jls hL (OKs.cons (w32_in _) hS.tl.tl)
      simp only [List.map_cons, conc, of_w32, Int32.ofInt_mul] at k1
      exact lv_imul hx hb hdg k1
    · cases h
  case h_24 =>
    split at h
    · cases h
      simp only [okE, beq_iff_eq] at hok
      subst hok
      have k1 := kk jls hL (OKs.cons (w32_in _) hS.tl)
      simp only [List.map_cons, conc, of_w32, Int32.ofInt_neg] at k1
      exact lv_ineg hx hb hdg k1
    · cases h
  case h_25 =>
    split at h
    · cases h
      simp only [okE, beq_iff_eq] at hok
      subst hok
      have k1 := kk jls hL (OKs.cons (x := _) (i32_in _) hS.tl.tl)
      simp only [List.map_cons, conc, andI, Int32.ofInt_toInt] at k1
      exact lv_iand hx hb hdg k1
    · cases h
  case h_26 =>
    split at h
    · cases h
      simp only [okE, beq_iff_eq] at hok
      subst hok
      have k1 := kk jls hL (OKs.cons (x := _) (i32_in _) hS.tl.tl)
      simp only [List.map_cons, conc, orI, Int32.ofInt_toInt] at k1
      exact lv_ior hx hb hdg k1
    · cases h
  case h_27 =>
    split at h
    · cases h
      simp only [okE, beq_iff_eq] at hok
      subst hok
      have k1 := kk jls hL (OKs.cons (x := _) (i32_in _) hS.tl.tl)
      simp only [List.map_cons, conc, shlI, Int32.ofInt_toInt] at k1
      exact lv_ishl hx hb hdg k1
    · cases h
  case h_28 =>
    split at h
    · cases h
      simp only [okE, beq_iff_eq] at hok
      subst hok
      have k1 := kk jls hL (OKs.cons (x := _) (i32_in _) hS.tl.tl)
      simp only [List.map_cons, conc, shrI, Int32.ofInt_toInt] at k1
      exact lv_ishr hx hb hdg k1
    · cases h
  case h_29 =>
    split at h
    · cases h
      simp only [okE, beq_iff_eq] at hok
      subst hok
      exact lv_iushr hx hb hdg (Int32.ofInt_toInt _).symm (kk jls hL (OKs.cons (i32_in _) hS.tl.tl))
    · cases h
  case h_30 =>
    split at h
    · cases h
      simp only [okE, beq_iff_eq] at hok
      subst hok
      have k1 := kk jls hL (OKs.cons (w64_in _) hS.tl.tl)
      simp only [List.map_cons, conc, of_w64, Int64.ofInt_add] at k1
      exact lv_ladd hx hb hdg k1
    · cases h
  case h_31 =>
    split at h
    · cases h
      simp only [okE, beq_iff_eq] at hok
      subst hok
      have k1 := kk jls hL (OKs.cons (w64_in _) hS.tl.tl)
      simp only [List.map_cons, conc, of_w64, Int64.ofInt_sub] at k1
      exact lv_lsub hx hb hdg k1
    · cases h
  case h_32 =>
    split at h
    · cases h
      simp only [okE, beq_iff_eq] at hok
      subst hok
      have k1 := kk jls hL (OKs.cons (w64_in _) hS.tl.tl)
      simp only [List.map_cons, conc, of_w64, Int64.ofInt_mul] at k1
      exact lv_lmul hx hb hdg k1
    · cases h
  case h_33 =>
    split at h
    · cases h
      simp only [okE, beq_iff_eq] at hok
      subst hok
      have k1 := kk jls hL (OKs.cons (w64_in _) hS.tl)
      simp only [List.map_cons, conc, of_w64, Int64.ofInt_neg] at k1
      exact lv_lneg hx hb hdg k1
    · cases h
  case h_34 =>
    split at h
    · cases h
      simp only [okE, beq_iff_eq] at hok
      subst hok
      have k1 := kk jls hL (OKs.cons (x := _) (i64_in _) hS.tl.tl)
      simp only [List.map_cons, conc, andL, Int64.ofInt_toInt] at k1
      exact lv_land hx hb hdg k1
    · cases h
  case h_35 =>
    split at h
    · cases h
      simp only [okE, beq_iff_eq] at hok
      subst hok
      have k1 := kk jls hL (OKs.cons (x := _) (i64_in _) hS.tl.tl)
      simp only [List.map_cons, conc, orL, Int64.ofInt_toInt] at k1
      exact lv_lor hx hb hdg k1
    · cases h
  case h_36 =>
    split at h
    · cases h
      simp only [okE, beq_iff_eq] at hok
      subst hok
      exact lv_lshl hx hb hdg (Int64.ofInt_toInt _).symm (kk jls hL (OKs.cons (i64_in _) hS.tl.tl))
    · cases h
  case h_37 =>
    split at h
    · cases h
      simp only [okE, beq_iff_eq] at hok
      subst hok
      exact lv_lshr hx hb hdg (Int64.ofInt_toInt _).symm (kk jls hL (OKs.cons (i64_in _) hS.tl.tl))
    · cases h
  case h_38 =>
    split at h
    · cases h
      simp only [okE, beq_iff_eq] at hok
      subst hok
      have h1 : InI _ := hS.hd
      exact lv_i2l hx hb hdg (by apply Int64.toInt_inj.mp; rw [Int32.toInt_toInt64, i32_id h1, i64_id ⟨by have := h1.1; omega, by have := h1.2; omega⟩]) (kk jls hL (OKs.cons ⟨by have := h1.1; omega, by have := h1.2; omega⟩ hS.tl))
    · cases h
  case h_39 =>
    split at h
    · cases h
      simp only [okE, beq_iff_eq] at hok
      subst hok
      have h1 : InL _ := hS.hd
      exact lv_l2i hx hb hdg (by rw [of_w32, ← Int32.ofInt_int64ToInt, i64_id h1]) (kk jls hL (OKs.cons (w32_in _) hS.tl))
    · cases h
  case h_40 =>
    split at h
    · cases h
      simp only [okE, beq_iff_eq] at hok
      subst hok
      exact lv_dup hx hb hdg rfl (kk jls hL (OKs.cons hS.hd hS))
    · cases h
      simp only [okE, beq_iff_eq] at hok
      subst hok
      exact lv_dup hx hb hdg rfl (kk jls hL (OKs.cons hS.hd hS))
    · cases h
  case h_41 =>
    split at h
    · cases h
      simp only [okE, beq_iff_eq] at hok
      subst hok
      exact lv_dup2_2 hx hb hdg rfl (kk jls hL (OKs.cons hS.hd hS))
    · cases h
      simp only [okE, beq_iff_eq] at hok
      subst hok
      exact lv_dup2_11 hx hb hdg rfl rfl (kk jls hL (OKs.cons hS.hd (OKs.cons hS.tl.hd hS)))
    · cases h
  case h_42 =>
    split at h
    · cases h
      simp only [okE, beq_iff_eq] at hok
      subst hok
      exact lv_pop hx hb hdg rfl (kk jls hL hS.tl)
    · cases h
  case h_43 => cases h
end PW
