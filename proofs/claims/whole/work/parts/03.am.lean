-- THE SMALL MACHINE: whole numbers, cells by number; what a stretch of code asks (seg), what a method asks (wp)
abbrev AV : Type := Int ⊕ (Int ⊕ Nat)
abbrev Mem : Type := Nat → Nat → Int
abbrev En : Type := Nat × Option (List Nat) × Instr × Nat × Nat × Nat × Nat × Int × List Nat
abbrev LC : Type := Nat ⊕ (Nat ⊕ (Nat × List Nat))
abbrev Lo : Type := List (Option AV)
def w32 (x : Int) : Int := (Int32.ofInt x).toInt
def w64 (x : Int) : Int := (Int64.ofInt x).toInt
def andI (x y : Int) : Int := (Int32.ofInt x &&& Int32.ofInt y).toInt
def orI (x y : Int) : Int := (Int32.ofInt x ||| Int32.ofInt y).toInt
def shlI (x y : Int) : Int := (Int32.ofInt x <<< (Int32.ofInt y &&& 31)).toInt
def shrI (x y : Int) : Int := (Int32.ofInt x >>> (Int32.ofInt y &&& 31)).toInt
def ushrI (x y : Int) : Int := ((Int32.ofInt x).toUInt32 >>> ((Int32.ofInt y).toUInt32 &&& Int32.toUInt32 31)).toInt32.toInt
def andL (x y : Int) : Int := (Int64.ofInt x &&& Int64.ofInt y).toInt
def orL (x y : Int) : Int := (Int64.ofInt x ||| Int64.ofInt y).toInt
def shlL (x y : Int) : Int := (Int64.ofInt x <<< ((Int32.ofInt y).toInt64 &&& 63)).toInt
def shrL (x y : Int) : Int := (Int64.ofInt x >>> ((Int32.ofInt y).toInt64 &&& 63)).toInt
def mset (σ : Mem) (o i : Nat) (x : Int) : Mem := fun k j => if k = o ∧ j = i then x else σ k j
def mcpy (σ : Mem) (so sp d dp n : Nat) : Mem := fun k j => if k = d ∧ dp ≤ j ∧ j < dp + n then σ so (sp + (j - dp)) else σ k j
def lget : Lo → Nat → Option AV
  | [], _ => none
  | x :: _, 0 => x
  | _ :: t, i + 1 => lget t i
def isL : Option AV → Bool
  | some (.inr (.inl _)) => true
  | _ => false
def hd1 (v : AV) : Lo → Lo
  | [] => []
  | _ :: t => some v :: t
def hdN : Lo → Lo
  | [] => []
  | _ :: t => none :: t
def hd2 (v : AV) : Lo → Lo
  | [] => []
  | _ :: t => some v :: hdN t
def notL (x : Option AV) : Option AV := match isL x with
  | true => none
  | false => x
/-- a store into a place: a long that ends there is gone -/
def stoA (f : Lo → Lo) : Lo → Nat → Lo
  | l, 0 => f l
  | [], _ + 1 => []
  | x :: t, 1 => notL x :: f t
  | x :: t, i + 2 => x :: stoA f t (i + 1)
def sto1 (ls : Lo) (i : Nat) (v : AV) : Lo := stoA (hd1 v) ls i
def sto2 (ls : Lo) (i : Nat) (v : AV) : Lo := stoA (hd2 v) ls i
def elem (i : Nat) : List Nat → Bool
  | [] => false
  | j :: t => match Nat.beq i j with
    | true => true
    | false => elem i t
def keepF (ms : List Nat) : Nat → Lo → Lo
  | _, [] => []
  | i, x :: t => (match elem i ms with
    | true => x
    | false => none) :: keepF ms (i + 1) t
def entL : List AV → Lo
  | [] => []
  | .inr (.inl x) :: t => some (.inr (.inl x)) :: none :: entL t
  | .inl x :: t => some (.inl x) :: entL t
  | .inr (.inr x) :: t => some (.inr (.inr x)) :: entL t
def padL : Nat → Lo → Lo
  | 0, l => l
  | n + 1, [] => none :: padL n []
  | n + 1, x :: t => x :: padL n t
def lnth {α : Type} (d : α) : List α → Nat → α
  | [], _ => d
  | x :: _, 0 => x
  | _ :: t, i + 1 => lnth d t i
def toPc (pc : Nat) : List En → List En
  | [] => []
  | e :: t => match Nat.beq e.1 pc with
    | true => e :: t
    | false => toPc pc t
def br (c : Jvm.ClassFile.Cond) (x y : Int) (T F : Prop) : Prop := match c with
  | .eq => (x = y → T) ∧ (¬ x = y → F)
  | .ne => (x = y → F) ∧ (¬ x = y → T)
  | .lt => (x < y → T) ∧ (y ≤ x → F)
  | .ge => (x < y → F) ∧ (y ≤ x → T)
  | .gt => (y < x → T) ∧ (x ≤ y → F)
  | .le => (y < x → F) ∧ (x ≤ y → T)
def pure1 (ins : Instr) (v : Int) (ls : Lo) (st : List AV) : Option (Lo × List AV) := match ins with
  | .iconst n => some (ls, .inl n :: st)
  | .bipush n => some (ls, .inl n :: st)
  | .sipush n => some (ls, .inl n :: st)
  | .ldc_w _ => some (ls, .inl v :: st)
  | .ldc _ => some (ls, .inl v :: st)
  | .ldc2_w _ => some (ls, .inr (.inl v) :: st)
  | .lconst n => some (ls, .inr (.inl v) :: st)
  | .iload i => match lget ls i with
    | some (.inl x) => some (ls, .inl x :: st)
    | _ => none
  | .iload_n i => match lget ls i.val with
    | some (.inl x) => some (ls, .inl x :: st)
    | _ => none
  | .lload i => match lget ls i with
    | some (.inr (.inl x)) => some (ls, .inr (.inl x) :: st)
    | _ => none
  | .lload_n i => match lget ls i.val with
    | some (.inr (.inl x)) => some (ls, .inr (.inl x) :: st)
    | _ => none
  | .aload i => match lget ls i with
    | some (.inr (.inr x)) => some (ls, .inr (.inr x) :: st)
    | _ => none
  | .aload_n i => match lget ls i.val with
    | some (.inr (.inr x)) => some (ls, .inr (.inr x) :: st)
    | _ => none
  | .istore i => match st with
    | .inl x :: t => some (sto1 ls i (.inl x), t)
    | _ => none
  | .istore_n i => match st with
    | .inl x :: t => some (sto1 ls i.val (.inl x), t)
    | _ => none
  | .lstore i => match st with
    | .inr (.inl x) :: t => some (sto2 ls i (.inr (.inl x)), t)
    | _ => none
  | .lstore_n i => match st with
    | .inr (.inl x) :: t => some (sto2 ls i.val (.inr (.inl x)), t)
    | _ => none
  | .astore i => match st with
    | .inr (.inr x) :: t => some (sto1 ls i (.inr (.inr x)), t)
    | _ => none
  | .astore_n i => match st with
    | .inr (.inr x) :: t => some (sto1 ls i.val (.inr (.inr x)), t)
    | _ => none
  | .iinc i n => match lget ls i with
    | some (.inl x) => some (sto1 ls i (.inl (w32 (x + n))), st)
    | _ => none
  | .iadd => match st with
    | .inl y :: .inl x :: t => some (ls, .inl (w32 (x + y)) :: t)
    | _ => none
  | .isub => match st with
    | .inl y :: .inl x :: t => some (ls, .inl (w32 (x - y)) :: t)
    | _ => none
  | .imul => match st with
    | .inl y :: .inl x :: t => some (ls, .inl (w32 (x * y)) :: t)
    | _ => none
  | .ineg => match st with
    | .inl x :: t => some (ls, .inl (w32 (-x)) :: t)
    | _ => none
  | .iand => match st with
    | .inl y :: .inl x :: t => some (ls, .inl (andI x y) :: t)
    | _ => none
  | .ior => match st with
    | .inl y :: .inl x :: t => some (ls, .inl (orI x y) :: t)
    | _ => none
  | .ishl => match st with
    | .inl y :: .inl x :: t => some (ls, .inl (shlI x y) :: t)
    | _ => none
  | .ishr => match st with
    | .inl y :: .inl x :: t => some (ls, .inl (shrI x y) :: t)
    | _ => none
  | .iushr => match st with
    | .inl y :: .inl x :: t => some (ls, .inl (ushrI x y) :: t)
    | _ => none
  | .ladd => match st with
    | .inr (.inl y) :: .inr (.inl x) :: t => some (ls, .inr (.inl (w64 (x + y))) :: t)
    | _ => none
  | .lsub => match st with
    | .inr (.inl y) :: .inr (.inl x) :: t => some (ls, .inr (.inl (w64 (x - y))) :: t)
    | _ => none
  | .lmul => match st with
    | .inr (.inl y) :: .inr (.inl x) :: t => some (ls, .inr (.inl (w64 (x * y))) :: t)
    | _ => none
  | .lneg => match st with
    | .inr (.inl x) :: t => some (ls, .inr (.inl (w64 (-x))) :: t)
    | _ => none
  | .land => match st with
    | .inr (.inl y) :: .inr (.inl x) :: t => some (ls, .inr (.inl (andL x y)) :: t)
    | _ => none
  | .lor => match st with
    | .inr (.inl y) :: .inr (.inl x) :: t => some (ls, .inr (.inl (orL x y)) :: t)
    | _ => none
  | .lshl => match st with
    | .inl y :: .inr (.inl x) :: t => some (ls, .inr (.inl (shlL x y)) :: t)
    | _ => none
  | .lshr => match st with
    | .inl y :: .inr (.inl x) :: t => some (ls, .inr (.inl (shrL x y)) :: t)
    | _ => none
  | .i2l => match st with
    | .inl x :: t => some (ls, .inr (.inl x) :: t)
    | _ => none
  | .l2i => match st with
    | .inr (.inl x) :: t => some (ls, .inl (w32 x) :: t)
    | _ => none
  | .dup => match st with
    | .inl x :: t => some (ls, .inl x :: .inl x :: t)
    | .inr (.inr x) :: t => some (ls, .inr (.inr x) :: .inr (.inr x) :: t)
    | _ => none
  | .dup2 => match st with
    | .inr (.inl x) :: t => some (ls, .inr (.inl x) :: .inr (.inl x) :: t)
    | .inl x :: .inr (.inr y) :: t => some (ls, .inl x :: .inr (.inr y) :: .inl x :: .inr (.inr y) :: t)
    | _ => none
  | .pop => match st with
    | .inl _ :: t => some (ls, t)
    | _ => none
  | _ => none
def layC (o : Nat) : LC := lnth (.inl 0) layL o
/-- a place of an int array (a long array) -/
def InA (o : Nat) (i : Int) : Prop := match layC o with
  | .inl n => 0 ≤ i ∧ i < (n : Int)
  | _ => False
def InJ (o : Nat) (i : Int) : Prop := match layC o with
  | .inr (.inl n) => 0 ≤ i ∧ i < (n : Int)
  | _ => False
def isB (x : Int) : Prop := x = 0 ∨ x = 1
def getF (σ : Mem) (o k ci : Nat) (K : AV → Prop) : Prop := match layC o with
  | .inr (.inr (c, fts)) => match Nat.beq c ci with
    | true => match lnth 1000000 fts k with
      | 0 => K (.inl (σ o k))
      | 1 => K (.inr (.inl (σ o k)))
      | 2 => K (.inl (σ o k))
      | j + 3 => match Nat.ble j 80 with
        | true => K (.inr (.inr j))
        | false => False
    | false => False
  | _ => False
def putF (σ : Mem) (o k ci : Nat) (v : AV) (K : Mem → Prop) : Prop := match layC o with
  | .inr (.inr (c, fts)) => match Nat.beq c ci with
    | true => match v with
      | .inl x => match lnth 1000000 fts k with
        | 0 => K (mset σ o k x)
        | 2 => isB x ∧ K (mset σ o k x)
        | _ => False
      | .inr (.inl x) => match lnth 1000000 fts k with
        | 1 => K (mset σ o k x)
        | _ => False
      | _ => False
    | false => False
  | _ => False
def cat (v : AV) : Nat := match v with
  | .inr (.inl _) => 2
  | _ => 1
def catS : List AV → Nat
  | [] => 0
  | v :: t => cat v + catS t
def popN : Nat → List AV → List AV → Option (List AV × List AV)
  | 0, acc, st => some (acc, st)
  | _ + 1, _, [] => none
  | n + 1, acc, v :: t => popN n (v :: acc) t
def pushR (c : Nat) (r : Int) (st : List AV) : List AV := match c with
  | 0 => st
  | 1 => .inl r :: st
  | 2 => .inr (.inl r) :: st
  | _ => .inr (.inr r.toNat) :: st
/-- the receiver is an object of class ci -/
def isO (v : AV) (ci : Nat) (K : Prop) : Prop := match v with
  | .inr (.inr o) => match layC o with
    | .inr (.inr (c, _)) => match Nat.beq c ci with
      | true => K
      | false => False
    | _ => False
  | _ => False
def copyC (σ : Mem) (so : Nat) (sp : Int) (d : Nat) (dp n : Int) (K : Mem → Prop) : Prop := match layC so, layC d with
  | .inl n0, .inl n1 => (0 ≤ sp ∧ 0 ≤ dp ∧ 0 < n ∧ sp + n ≤ (n0 : Int) ∧ dp + n ≤ (n1 : Int)) ∧ K (mcpy σ so sp.toNat d dp.toNat n.toNat)
  | .inr (.inl n0), .inr (.inl n1) => (0 ≤ sp ∧ 0 ≤ dp ∧ 0 < n ∧ sp + n ≤ (n0 : Int) ∧ dp + n ≤ (n1 : Int)) ∧ K (mcpy σ so sp.toNat d dp.toNat n.toNat)
  | _, _ => False
/-- Math's own, by number: 990 min, 991 max of ints, 992 min, 993 max, 994 abs of longs -/
def mathC (a : Nat) (st : List AV) : Option (AV × List AV) := match a with
  | 990 => match st with
    | .inl y :: .inl x :: t => some (.inl (min x y), t)
    | _ => none
  | 991 => match st with
    | .inl y :: .inl x :: t => some (.inl (max x y), t)
    | _ => none
  | 992 => match st with
    | .inr (.inl y) :: .inr (.inl x) :: t => some (.inr (.inl (min x y)), t)
    | _ => none
  | 993 => match st with
    | .inr (.inl y) :: .inr (.inl x) :: t => some (.inr (.inl (max x y)), t)
    | _ => none
  | 994 => match st with
    | .inr (.inl x) :: t => some (.inr (.inl (w64 (x.natAbs : Int))), t)
    | _ => none
  | _ => none
def swC (x : Int) (K : Nat → Prop) : Int → List Nat → Prop
  | _, [] => True
  | i, t :: ts => (x = i → K t) ∧ swC x K (i + 1) ts
def seg (sc : Option (Nat × (Nat → Int))) (call : Nat → List AV → Mem → (Int → Mem → Prop) → Prop) (full : List En) (rb : Bool) (Q : Int → Mem → Prop) (cut : Nat → Lo → List AV → Mem → Prop) : Nat → Bool → List En → Lo → List AV → Mem → Prop
  | 0, _, _, _, _, _ => False
  | _ + 1, _, [], _, _, _ => False
  | k + 1, fst, (pc, mask, ins, len, a, b, c, v, ts) :: rest, ls, st, σ =>
    match fst, mask with
    | false, some ms => cut pc (keepF ms 0 ls) st σ
    | _, _ => match ins with
      | .goto _ => seg sc call full rb Q cut k false (toPc a full) ls st σ
      | .ifCond cc _ => match st with
        | .inl x :: t => br cc x 0 (seg sc call full rb Q cut k false (toPc a full) ls t σ) (seg sc call full rb Q cut k false rest ls t σ)
        | _ => False
      | .if_icmp cc _ => match st with
        | .inl y :: .inl x :: t => br cc x y (seg sc call full rb Q cut k false (toPc a full) ls t σ) (seg sc call full rb Q cut k false rest ls t σ)
        | _ => False
      | .lcmp => match st with
        | .inr (.inl y) :: .inr (.inl x) :: t => match rest with
          | (_, none, .ifCond cc _, _, a2, _) :: rest2 => br cc x y (seg sc call full rb Q cut k false (toPc a2 full) ls t σ) (seg sc call full rb Q cut k false rest2 ls t σ)
          | _ => False
        | _ => False
      | .getfield _ => match st with
        | .inr (.inr o) :: t => getF σ o a b (fun x => seg sc call full rb Q cut k false rest ls (x :: t) σ)
        | _ => False
      | .putfield _ => match st with
        | x :: .inr (.inr o) :: t => putF σ o a b x (fun σ1 => seg sc call full rb Q cut k false rest ls t σ1)
        | _ => False
      | .iaload => match st with
        | .inl i :: .inr (.inr o) :: t => match sc with
          | none => InA o i ∧ seg sc call full rb Q cut k false rest ls (.inl (σ o i.toNat) :: t) σ
          | some (L, xs) => match Nat.beq o 1000 with
            | true => (0 ≤ i ∧ i < (L : Int)) ∧ seg sc call full rb Q cut k false rest ls (.inl (xs i.toNat) :: t) σ
            | false => False
        | _ => False
      | .arraylength => match st with
        | .inr (.inr o) :: t => match sc with
          | none => False
          | some (L, _) => match Nat.beq o 1000 with
            | true => seg sc call full rb Q cut k false rest ls (.inl (L : Int) :: t) σ
            | false => False
        | _ => False
      | .laload => match st with
        | .inl i :: .inr (.inr o) :: t => InJ o i ∧ seg sc call full rb Q cut k false rest ls (.inr (.inl (σ o i.toNat)) :: t) σ
        | _ => False
      | .iastore => match st with
        | .inl x :: .inl i :: .inr (.inr o) :: t => InA o i ∧ seg sc call full rb Q cut k false rest ls t (mset σ o i.toNat x)
        | _ => False
      | .lastore => match st with
        | .inr (.inl x) :: .inl i :: .inr (.inr o) :: t => InJ o i ∧ seg sc call full rb Q cut k false rest ls t (mset σ o i.toNat x)
        | _ => False
      | .idiv => match st with
        | .inl y :: .inl x :: t => ¬ y = 0 ∧ seg sc call full rb Q cut k false rest ls (.inl (w32 (x.tdiv y)) :: t) σ
        | _ => False
      | .irem => match st with
        | .inl y :: .inl x :: t => ¬ y = 0 ∧ seg sc call full rb Q cut k false rest ls (.inl (x.tmod y) :: t) σ
        | _ => False
      | .ldiv => match st with
        | .inr (.inl y) :: .inr (.inl x) :: t => ¬ y = 0 ∧ seg sc call full rb Q cut k false rest ls (.inr (.inl (w64 (x.tdiv y))) :: t) σ
        | _ => False
      | .lrem => match st with
        | .inr (.inl y) :: .inr (.inl x) :: t => ¬ y = 0 ∧ seg sc call full rb Q cut k false rest ls (.inr (.inl (x.tmod y)) :: t) σ
        | _ => False
      | .invokevirtual _ => match popN b [] st with
        | some (x :: as, t) => match Nat.ble (catS t) 8 with
          | true => isO x v.toNat (call a (x :: as) σ (fun r σ1 => seg sc call full rb Q cut k false rest ls (pushR c r t) σ1))
          | false => False
        | _ => False
      | .invokestatic _ => match Nat.beq a 999 with
        | true => match st with
          | .inl n :: .inl dp :: .inr (.inr d) :: .inl sp :: .inr (.inr so) :: t => match t with
            | [] => copyC σ so sp d dp n (fun σ1 => seg sc call full rb Q cut k false rest ls [] σ1)
            | _ => False
          | _ => False
        | false => match Nat.ble 990 a with
          | true => match mathC a st with
            | some (x, t) => match Nat.ble (catS t) 8 with
              | true => seg sc call full rb Q cut k false rest ls (x :: t) σ
              | false => False
            | none => False
          | false => match popN b [] st with
            | some (as, t) => match Nat.ble (catS t) 8 with
              | true => call a as σ (fun r σ1 => seg sc call full rb Q cut k false rest ls (pushR c r t) σ1)
              | false => False
            | _ => False
      | .tableswitch _ lo hi _ => match st with
        | .inl x :: t => (x < lo ∨ hi < x → seg sc call full rb Q cut k false (toPc a full) ls t σ) ∧ swC x (fun p => seg sc call full rb Q cut k false (toPc p full) ls t σ) lo ts
        | _ => False
      | .ireturn => match st with
        | [.inl x] => match rb with
          | true => isB x ∧ Q x σ
          | false => Q x σ
        | _ => False
      | .lreturn => match st with
        | [.inr (.inl x)] => Q x σ
        | _ => False
      | .areturn => match st with
        | [.inr (.inr o)] => Q (o : Int) σ
        | _ => False
      | .return_ => match st with
        | [] => Q 0 σ
        | _ => False
      | _ => match pure1 ins v ls st with
        | some (ls1, st1) => seg sc call full rb Q cut k false rest ls1 st1 σ
        | none => False
/-- from a cut on: the least that the stretches allow -/
def XX (sc : Option (Nat × (Nat → Int))) (call : Nat → List AV → Mem → (Int → Mem → Prop) → Prop) (full : List En) (rb : Bool) (Q : Int → Mem → Prop) (pc : Nat) (ls : Lo) (st : List AV) (σ : Mem) : Prop :=
  ∀ P : Nat → Lo → List AV → Mem → Prop, (∀ pc ls st σ, seg sc call full rb Q P 2000 true (toPc pc full) ls st σ → P pc ls st σ) → P pc ls st σ
theorem br_mono {c : Jvm.ClassFile.Cond} {x y : Int} {T F T' F' : Prop} (hT : T → T') (hF : F → F') (h : br c x y T F) : br c x y T' F' := by
  cases c <;> exact ⟨fun z => by first | exact hT (h.1 z) | exact hF (h.1 z), fun z => by first | exact hF (h.2 z) | exact hT (h.2 z)⟩
theorem getF_mono {σ : Mem} {o k ci : Nat} {K K' : AV → Prop} (hK : ∀ v, K v → K' v) (h : getF σ o k ci K) : getF σ o k ci K' := by
  unfold getF at h ⊢
  split at h
  · split at h
    · split at h
      · exact hK _ h
      · exact hK _ h
      · exact hK _ h
      · split at h
        · exact hK _ h
        · exact h
    · exact h
  · exact h
theorem putF_mono {σ : Mem} {o k ci : Nat} {v : AV} {K K' : Mem → Prop} (hK : ∀ v, K v → K' v) (h : putF σ o k ci v K) : putF σ o k ci v K' := by
  unfold putF at h ⊢
  split at h
  · split at h
    · split at h
      · split at h
        · exact hK _ h
        · exact ⟨h.1, hK _ h.2⟩
        · exact h
      · split at h
        · exact hK _ h
        · exact h
      · exact h
    · exact h
  · exact h
theorem isO_mono {v : AV} {ci : Nat} {K K' : Prop} (hK : K → K') (h : isO v ci K) : isO v ci K' := by
  unfold isO at h ⊢
  split at h
  · split at h
    · split at h
      · exact hK h
      · exact h
    · exact h
  · exact h
theorem copyC_mono {σ : Mem} {so d : Nat} {sp dp n : Int} {K K' : Mem → Prop} (hK : ∀ v, K v → K' v) (h : copyC σ so sp d dp n K) : copyC σ so sp d dp n K' := by
  unfold copyC at h ⊢
  split at h
  · exact ⟨h.1, hK _ h.2⟩
  · exact ⟨h.1, hK _ h.2⟩
  · exact h
theorem swC_mono {x : Int} {K K' : Nat → Prop} (hK : ∀ v, K v → K' v) : ∀ {ts : List Nat} {i : Int}, swC x K i ts → swC x K' i ts
  | [], _, h => h
  | _ :: _, _, h => ⟨fun z => hK _ (h.1 z), swC_mono hK h.2⟩
set_option maxHeartbeats 4000000 in
theorem seg_mono {sc : Option (Nat × (Nat → Int))} {call call' : Nat → List AV → Mem → (Int → Mem → Prop) → Prop} {full : List En} {rb : Bool} {Q Q' : Int → Mem → Prop} {cut cut' : Nat → Lo → List AV → Mem → Prop}
    (hc : ∀ m as σ (K K' : Int → Mem → Prop), (∀ r σ1, K r σ1 → K' r σ1) → call m as σ K → call' m as σ K') (hQ : ∀ x σ, Q x σ → Q' x σ) (hk : ∀ pc ls st σ, cut pc ls st σ → cut' pc ls st σ) :
    ∀ (k : Nat) (fst : Bool) (es : List En) (ls : Lo) (st : List AV) (σ : Mem), seg sc call full rb Q cut k fst es ls st σ → seg sc call' full rb Q' cut' k fst es ls st σ := by
  intro k
  induction k with
  | zero => intro fst es ls st σ h; exact h
  | succ k ih =>
    intro fst es ls st σ h
    cases es with
    | nil => exact h
    | cons e rest =>
      obtain ⟨pc, mask, ins, len, a, b, c, v, ts⟩ := e
      unfold seg at h ⊢
      split at h
      · exact hk _ _ _ _ h
      · split at h
        case h_1 => exact ih _ _ _ _ _ h
        case h_2 =>
          split at h
          · exact br_mono (ih _ _ _ _ _) (ih _ _ _ _ _) h
          · exact h
        case h_3 =>
          split at h
          · exact br_mono (ih _ _ _ _ _) (ih _ _ _ _ _) h
          · exact h
        case h_4 =>
          split at h
          · split at h
            · exact br_mono (ih _ _ _ _ _) (ih _ _ _ _ _) h
            · exact h
          · exact h
        case h_5 =>
          split at h
          · exact getF_mono (fun _ => ih _ _ _ _ _) h
          · exact h
        case h_6 =>
          split at h
          · exact putF_mono (fun _ => ih _ _ _ _ _) h
          · exact h
        case h_7 =>
          split at h
          · split at h
            · exact ⟨h.1, ih _ _ _ _ _ h.2⟩
            · split at h
              · exact ⟨h.1, ih _ _ _ _ _ h.2⟩
              · exact h
          · exact h
        case h_8 =>
          split at h
          · split at h
            · exact h
            · split at h
              · exact ih _ _ _ _ _ h
              · exact h
          · exact h
        case h_9 | h_10 | h_11 | h_12 | h_13 | h_14 | h_15 =>
          split at h
          · exact ⟨h.1, ih _ _ _ _ _ h.2⟩
          · exact h
        case h_16 =>
          split at h
          · split at h
            · exact isO_mono (hc _ _ _ _ _ (fun _ _ => ih _ _ _ _ _)) h
            · exact h
          · exact h
        case h_17 =>
          split at h
          · split at h
            · split at h
              · exact copyC_mono (fun _ => ih _ _ _ _ _) h
              · exact h
            · exact h
          · split at h
            · split at h
              · split at h
                · exact ih _ _ _ _ _ h
                · exact h
              · exact h
            · split at h
              · split at h
                · exact hc _ _ _ _ _ (fun _ _ => ih _ _ _ _ _) h
                · exact h
              · exact h
        case h_18 =>
          split at h
          · exact ⟨fun z => ih _ _ _ _ _ (h.1 z), swC_mono (fun _ => ih _ _ _ _ _) h.2⟩
          · exact h
        case h_19 =>
          split at h
          · split at h
            · exact ⟨h.1, hQ _ _ h.2⟩
            · exact hQ _ _ h
          · exact h
        case h_20 | h_21 | h_22 =>
          split at h
          · exact hQ _ _ h
          · exact h
        case h_23 =>
          split at h
          · exact ih _ _ _ _ _ h
          · exact h
