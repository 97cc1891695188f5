-- THE CONSTRUCTORS: a small closed machine over cells that are made one behind the other
abbrev CC : Type := Nat ⊕ (Nat ⊕ (Nat × List (Option AV)))
abbrev CS : Type := Lo × List AV × List CC × Nat × Nat
def dfl (ty : FieldType) : Option AV := match ty with
  | .long => some (.inr (.inl 0))
  | .object _ => none
  | .array _ => none
  | _ => some (.inl 0)
def dflt (ci : Nat) : List (Option AV) := (List.range (nFl ci)).map (fun k => dfl (tyOf ci k))
def cset (cs : List CC) (o k ci : Nat) (v : AV) : Option (List CC) := match cs[o]? with
  | some (.inr (.inr (c, fs))) => match Nat.beq c ci && decide (k < fs.length) with
    | true => some (cs.set o (.inr (.inr (c, fs.set k (some v)))))
    | false => none
  | _ => none
def cget (cs : List CC) (o k ci : Nat) : Option AV := match cs[o]? with
  | some (.inr (.inr (c, fs))) => match Nat.beq c ci with
    | true => match fs[k]? with
      | some (some (.inr (.inr v))) => some (.inr (.inr v))
      | _ => none
    | false => none
  | _ => none
def crun (call : Nat → List AV → List CC → Option (List CC)) (fin : Bool) (mc ms : Nat) : List En → CS → Option CS
  | [], S => match fin with
    | true => none
    | false => some S
  | (pc, _, ins, len, a, b, c, v, ts) :: rest, (ls, st, cs, kc, ks) => match ins with
    | .newarray t => match st with
      | .inl n :: u => match decide (0 ≤ n ∧ n < 1000 ∧ kc + 1 ≤ mc ∧ ks + n.toNat ≤ ms) with
        | true => match t with
          | .int => crun call fin mc ms rest (ls, .inr (.inr cs.length) :: u, cs ++ [.inl n.toNat], kc + 1, ks + n.toNat)
          | .long => crun call fin mc ms rest (ls, .inr (.inr cs.length) :: u, cs ++ [.inr (.inl n.toNat)], kc + 1, ks + n.toNat)
          | _ => none
        | false => none
      | _ => none
    | .new _ => match decide (a < 9 ∧ kc + 1 ≤ mc ∧ ks + nFl a ≤ ms) with
      | true => crun call fin mc ms rest (ls, .inr (.inr cs.length) :: st, cs ++ [.inr (.inr (a, dflt a))], kc + 1, ks + nFl a)
      | false => none
    | .putfield _ => match fin, st with
      | true, .inr (.inr x) :: .inr (.inr o) :: u => match cset cs o a b (.inr (.inr x)) with
        | some cs1 => crun call fin mc ms rest (ls, u, cs1, kc, ks)
        | none => none
      | _, _ => none
    | .getfield _ => match st with
      | .inr (.inr o) :: u => match cget cs o a b with
        | some x => crun call fin mc ms rest (ls, x :: u, cs, kc, ks)
        | none => none
      | _ => none
    | .invokespecial _ => match Nat.beq a 998 with
      | true => match st with
        | .inr (.inr _) :: u => match Nat.ble (catS u) 8 with
          | true => crun call fin mc ms rest (ls, u, cs, kc, ks)
          | false => none
        | _ => none
      | false => match popN b [] st with
        | some (.inr (.inr x) :: as, t) => match decide (a < 9 ∧ catS t ≤ 8 ∧ kc + ctC a ≤ mc ∧ ks + ctS a ≤ ms) with
          | true => match call a (.inr (.inr x) :: as) cs with
            | some cs1 => crun call fin mc ms rest (ls, t, cs1, kc + ctC a, ks + ctS a)
            | none => none
          | false => none
        | _ => none
    | .return_ => match fin, st with
      | true, [] => some (ls, st, cs, kc, ks)
      | _, _ => none
    | _ => match pure1 ins v ls st with
      | some (ls1, st1) => crun call fin mc ms rest (ls1, st1, cs, kc, ks)
      | none => none
def ctor : Nat → Nat → List AV → List CC → Option (List CC)
  | 0 => fun _ _ _ => none
  | d + 1 => fun i as cs => match decide (catS as ≤ ctL i) with
    | true => match crun (ctor d) true (ctC i) (ctS i) (ccOf i) (padL (ctL i) (entL as), [], cs, 0, 0) with
      | some (_, _, cs1, kc, ks) => match decide (kc = ctC i ∧ ks = ctS i) with
        | true => some cs1
        | false => none
      | none => none
    | false => none
def toCV (ft : Nat) : Option AV := match ft with
  | 0 => some (.inl 0)
  | 1 => some (.inr (.inl 0))
  | 2 => some (.inl 0)
  | j + 3 => some (.inr (.inr j))
def toCC (c : LC) : CC := match c with
  | .inl n => .inl n
  | .inr (.inl n) => .inr (.inl n)
  | .inr (.inr (ci, fts)) => .inr (.inr (ci, fts.map toCV))
def bAV : AV → AV → Bool
  | .inl x, .inl y => decide (x = y)
  | .inr (.inl x), .inr (.inl y) => decide (x = y)
  | .inr (.inr x), .inr (.inr y) => decide (x = y)
  | _, _ => false
theorem bAV_eq : ∀ {x y : AV}, bAV x y = true → x = y
  | .inl x, .inl y, h => by rw [show x = y from of_decide_eq_true h]
  | .inr (.inl x), .inr (.inl y), h => by rw [show x = y from of_decide_eq_true h]
  | .inr (.inr x), .inr (.inr y), h => by rw [show x = y from of_decide_eq_true h]
  | .inl _, .inr _, h => by cases h
  | .inr (.inl _), .inl _, h => by cases h
  | .inr (.inr _), .inl _, h => by cases h
  | .inr (.inl _), .inr (.inr _), h => by cases h
  | .inr (.inr _), .inr (.inl _), h => by cases h
def bOV : Option AV → Option AV → Bool
  | none, none => true
  | some x, some y => bAV x y
  | _, _ => false
theorem bOV_eq : ∀ {x y : Option AV}, bOV x y = true → x = y
  | none, none, _ => rfl
  | some x, some y, h => by rw [bAV_eq (x := x) (y := y) h]
  | none, some _, h => by cases h
  | some _, none, h => by cases h
def bLs {α : Type} (f : α → α → Bool) : List α → List α → Bool
  | [], [] => true
  | x :: s, y :: t => f x y && bLs f s t
  | _, _ => false
theorem bLs_eq {α : Type} {f : α → α → Bool} (hf : ∀ {x y}, f x y = true → x = y) : ∀ {s t : List α}, bLs f s t = true → s = t
  | [], [], _ => rfl
  | x :: s, y :: t, h => by
    simp only [bLs, Bool.and_eq_true] at h
    rw [hf h.1, bLs_eq hf h.2]
  | [], _ :: _, h => by cases h
  | _ :: _, [], h => by cases h
def bCC : CC → CC → Bool
  | .inl x, .inl y => decide (x = y)
  | .inr (.inl x), .inr (.inl y) => decide (x = y)
  | .inr (.inr (c, fs)), .inr (.inr (e, gs)) => decide (c = e) && bLs bOV fs gs
  | _, _ => false
theorem bCC_eq : ∀ {x y : CC}, bCC x y = true → x = y
  | .inl x, .inl y, h => by rw [show x = y from of_decide_eq_true h]
  | .inr (.inl x), .inr (.inl y), h => by rw [show x = y from of_decide_eq_true h]
  | .inr (.inr (c, fs)), .inr (.inr (e, gs)), h => by
    simp only [bCC, Bool.and_eq_true, decide_eq_true_eq] at h
    rw [h.1, bLs_eq bOV_eq h.2]
  | .inl _, .inr _, h => by cases h
  | .inr (.inl _), .inl _, h => by cases h
  | .inr (.inr _), .inl _, h => by cases h
  | .inr (.inl _), .inr (.inr _), h => by cases h
  | .inr (.inr _), .inr (.inl _), h => by cases h
set_option maxRecDepth 100000 in
theorem run_law0 : (match crun (ctor 3) false 81 3409 cc_law ([some (.inr (.inr 1000)), none, none, none], [], [], 0, 0) with
  | some (ls, st, cs, kc, ks) => bLs bOV ls [some (.inr (.inr 1000)), some (.inr (.inr 0)), some (.inr (.inr 49)), some (.inl 0)] && st.isEmpty && bLs bCC cs (layL.map toCC) && decide (kc = 81) && decide (ks = 3409)
  | none => false) = true := by decide +kernel
theorem run_law : crun (ctor 3) false 81 3409 cc_law ([some (.inr (.inr 1000)), none, none, none], [], [], 0, 0) = some ([some (.inr (.inr 1000)), some (.inr (.inr 0)), some (.inr (.inr 49)), some (.inl 0)], [], layL.map toCC, 81, 3409) := by
  have h := run_law0
  split at h
  · rename_i ls st cs kc ks he
    rw [he]
    simp only [Bool.and_eq_true, decide_eq_true_eq, List.isEmpty_iff] at h
    obtain ⟨⟨⟨⟨h1, h2⟩, h3⟩, h4⟩, h5⟩ := h
    rw [bLs_eq bOV_eq h1, h2, bLs_eq bCC_eq h3, h4, h5]
  · cases h
def refTy (ty : FieldType) : Bool := match ty with
  | .object _ => true
  | .array _ => true
  | _ => false
def declF (b a : Nat) : Bool := match vwCl[b]? with
  | some (_, T, N) => decide ((T a).1 = clsN b) && decide (a < N)
  | none => false
def okC (own nL : Nat) (en : En) : Bool := match en with
  | (pc, _, ins, len, a, b, c, v, ts) => match ins with
    | .newarray _ => len == 2
    | .new k => len == 3 && CKt.any (fun q => decide (q.2 = (own, k, a)))
    | .putfield k => len == 3 && FC2.any (fun q => decide (q.2 = (own, k, b, a))) && finF b a && decide (own = b) && decide (b < 9) && declF b a && refTy (tyOf b a)
    | .getfield k => len == 3 && FC2.any (fun q => decide (q.2 = (own, k, b, a))) && decide (b < 9) && declF b a
    | .invokespecial k => len == 3 && ((decide (a = 998) && OBt.any (fun q => decide (q.2 = (own, k)))) || ((MCt.any (fun q => decide (q.2 = (own, k, a))) || NCt.any (fun q => decide (q.2 = (own, k, a)))) && decide ((parseMethodDescriptor (ctY a).desc).map (fun d => d.parameters.length) = some (b - 1)) && decide (0 < b)))
    | .return_ => len == 1
    | .ldc_w _ | .ldc2_w _ => false
    | _ => okE nL en
def chC (own nL : Nat) (bytes : ByteArray) (en : En) : Bool := decide (decode bytes en.1 = .ok (en.2.2.1, en.2.2.2.1)) && okC own nL en
def ctchk (i : Nat) : Bool := decide ((ctY i).cls = clsN i) && Jvm.plainName (ctY i).cls && decide ((ctY i).cls ≠ "java/lang/invoke/MethodHandle") && decide ((ctY i).cls ≠ "java/lang/invoke/VarHandle") && decide ((ctY i).name = "<init>") && decide (ctL i ≤ 40) && (ccOf i).all (chC i (ctL i) (ctB i)) && seqC (ccOf i) && decide ((ccOf i).head?.map (fun e => e.1) = some 0)
set_option maxRecDepth 100000 in
theorem ctchk_ok : (List.range 9).all ctchk = true := by decide +kernel
set_option maxRecDepth 100000 in
theorem lawchk_ok : (cc_law.all (chC 10 4 code) && seqC (cc_law ++ [(18, none, .nop, 1, 0, 0, 0, 0, [])])) = true := by decide +kernel
