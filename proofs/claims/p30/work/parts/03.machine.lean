/-! THE SMALL MACHINE: values, a memory by class and field, one step of an instruction, a method's run (fuel), its result (no fuel).
Values: vU unknown, vI an int (by its number), vJ a long, vF a float's bits, vN null, vR t i: the i-th object of tag t.
Tags: 0 Cellar 1 History 2 Lot 3 Panel 4 Row 5 Rules 6 Script 7 Sharing 8 Trial 9 VineyardBlends 10 Model 11 Topic 12 String 13 int[] of a Row 14 int[] of the model 15 Lot[] 16 Cellar[] 17 float[] 18 long[] 19 the script 20 byte[] of a String.
A field's number: 20 * tag + its place. -/
abbrev AV : Type := Option (Int ⊕ (Int ⊕ (UInt32 ⊕ Option (Nat × Nat))))
def vU : AV := none
def vI (x : Int) : AV := some (.inl x)
def vJ (x : Int) : AV := some (.inr (.inl x))
def vF (x : UInt32) : AV := some (.inr (.inr (.inl x)))
def vN : AV := some (.inr (.inr (.inr none)))
def vR (t i : Nat) : AV := some (.inr (.inr (.inr (some (t, i)))))
/-- what is made: reference fields, how many of a tag, an array's length, how many cells and slots in all; the script -/
abbrev MS : Type := (Nat → Nat → Option Nat) × (Nat → Nat) × (Nat → Nat → Nat) × Nat × Nat × (Nat → Int)
abbrev M2 : Type := Nat → Nat → Int
/-- the class's: int fields, Row arrays, Lot arrays, Cellar arrays, float arrays, float fields -/
abbrev MC : Type := M2 × M2 × (Nat → Nat → Option Nat) × (Nat → Nat → Option Nat) × (Nat → Nat → UInt32) × (Nat → Nat → UInt32)
/-- the model's: int fields, int arrays, long arrays -/
abbrev MD : Type := M2 × M2 × M2
abbrev Mem : Type := MS × MC × MD
def w32 (x : Int) : Int := Int.bmod x 4294967296
def w64 (x : Int) : Int := Int.bmod x 18446744073709551616
def up2 {α : Type} (f : Nat → Nat → α) (a b : Nat) (v : α) : Nat → Nat → α := fun x y => if x = a ∧ y = b then v else f x y
def b32 (f : Int32 → Int32 → Int32) (x y : Int) : Int := (f (Int32.ofInt x) (Int32.ofInt y)).toInt
def i_or (x y : Int) : Int := b32 (fun a b => a ||| b) x y
def i_and (x y : Int) : Int := b32 (fun a b => a &&& b) x y
def i_shl (x y : Int) : Int := b32 (fun a b => a <<< (b &&& 31)) x y
def i_shr (x y : Int) : Int := b32 (fun a b => a >>> (b &&& 31)) x y
def j_or (x y : Int) : Int := (Int64.ofInt x ||| Int64.ofInt y).toInt
def j_shl (x y : Int) : Int := (Int64.ofInt x <<< ((Int32.ofInt y).toInt64 &&& 63)).toInt
def j_ushr (x y : Int) : Int := ((Int64.ofInt x).toUInt64 >>> ((Int32.ofInt y).toInt64.toUInt64 &&& Int64.toUInt64 63)).toInt64.toInt
def j_cmp (x y : Int) : Int := if y < x then 1 else if x = y then 0 else -1
def f_ok (r : UInt32) : Bool := decide (r &&& 0x7fffffff ≤ 0x7f800000)
def f_i2f (x : Int) : UInt32 := FP.i2f (Int32.ofInt x)
def f_f2i (x : UInt32) : Int := (FP.f2i x).toInt
def f_cmp (op : CmpOp) (x y : UInt32) : Int := (Op.cmpValue (FP.fcmp x y) op).toInt
def f_raw (x : UInt32) : Int := x.toInt32.toInt
/-- a local's value; a second half is unknown -/
def lg (ls : List AV) (k : Nat) : AV := ls.getD k vU
def unJ (v : AV) : AV := match v with
  | some (.inr (.inl _)) => vU
  | w => w
/-- a store of one slot, of two -/
def st1 : List AV → Nat → AV → List AV
  | [], _, _ => []
  | _ :: r, 0, v => v :: r
  | a :: r, 1, v => unJ a :: st1 r 0 v
  | a :: r, k + 2, v => a :: st1 r (k + 1) v
def set0 : List AV → Nat → AV → List AV
  | [], _, _ => []
  | _ :: r, 0, v => v :: r
  | a :: r, k + 1, v => a :: set0 r k v
def st2 (ls : List AV) (k : Nat) (v : AV) : List AV := set0 (st1 ls k v) (k + 1) vU
def kil : List Nat → List AV → List AV
  | [], ls => ls
  | k :: r, ls => kil r (set0 ls k vU)
def spr : List AV → List AV
  | [] => []
  | some (.inr (.inl x)) :: r => vJ x :: vU :: spr r
  | v :: r => v :: spr r
def entryL (n : Nat) (args : List AV) : List AV := spr args ++ List.replicate (n - (spr args).length) vU
def tsw : Int → List Int → Int → Int → Int
  | _, [], d, _ => d
  | lo, o :: r, d, x => if x = lo then o else tsw (lo + 1) r d x
def lsw : List (Int × Int) → Int → Int → Int
  | [], d, _ => d
  | q :: r, d, x => if x = q.1 then q.2 else lsw r d x
/-- Topic's fields: 0 low 1 high 2 leastKind 3 mostKind -/
def tpI (f i : Nat) : Int := (([[0, 2000, 0, 0, 0, 0], [7, 2063, 9, 2000, 200, 500], [0, 2, 3, 4, 6, -1], [1, -1, -1, 5, 7, 8]] : List (List Int)).getD f []).getD i 0
/-- the texts: origin year variety alcohol acid sugar least most -/
def txt (i : Nat) : List Int := ([[111, 114, 105, 103, 105, 110], [121, 101, 97, 114], [118, 97, 114, 105, 101, 116, 121], [97, 108, 99, 111, 104, 111, 108], [97, 99, 105, 100], [115, 117, 103, 97, 114], [108, 101, 97, 115, 116], [109, 111, 115, 116]] : List (List Int)).getD i []
def retOk (k : Nat) (x : Int) : Bool := match k with
  | 2 => decide (x = 0 ∨ x = 1)
  | 6 => decide (0 ≤ x ∧ x < 65536)
  | 7 => decide (-128 ≤ x ∧ x < 128)
  | _ => true
abbrev LK : Type := Nat × Nat × Nat × Nat
/-- a step: (pc, locals, stack, memory), or a call (method, arguments, stack below), or the result -/
abbrev SR : Type := Option ((Nat × List AV × List AV × Mem) ⊕ ((Nat × List AV × List AV) ⊕ AV))
def nx (pc : Nat) (ls st : List AV) (μ : Mem) : SR := some (.inl (pc, ls, st, μ))
def alen (S : MS) (t i : Nat) : Option Nat := if (13 ≤ t ∧ t ≤ 17) ∨ t = 19 then some (S.2.2.1 t i) else none
def offsetsOk (off T : Nat) : Bool := off == T
/-- the order in which the cells are made: the c-th cellar's first cell; the place of the i-th of tag t -/
def cbX (c : Nat) : Nat := if c = 0 then 1 else if c = 5 then 274 else 3 + 53 * c
/-- the place of a cellar's row -/
def rpX (a : Nat) : Nat := if a < 2 then 1 + 2 * a else if a < 5 then 2 + 2 * a else if a < 7 then 2 + 2 * a else 3 * a - 3
def roX (i : Nat) : Nat := if i < 95 then cbX (i / 19) + rpX (i % 19) else if 97 ≤ i ∧ i < 116 then 274 + rpX (i - 97) else ([269, 271, 328, 330, 332, 334, 336, 339, 343, 346, 348, 350, 353, 355, 357] : List Nat).getD (if i < 97 then i - 95 else i - 114) 0
/-- in one object of the class: the place of its i-th thing of a tag -/
def of1 (t i : Nat) : Nat := match t with
  | 0 => cbX i
  | 1 => 54
  | 2 => if i < 72 then cbX (i / 12) + 17 + 3 * (i % 12) else if i = 72 then 327 else 352
  | 3 => 338
  | 4 => roX i
  | 5 => if i < 6 then cbX i + 5 else 345
  | 6 => 342
  | 7 => 268
  | 8 => 273
  | 9 => 0
  | 13 => 1 + roX i
  | 15 => cbX i + 16
  | 16 => 55
  | 17 => 341
  | _ => 0
/-- how many of a tag an object of the class has -/
def NB (t : Nat) : Nat := ([6, 1, 74, 1, 129, 7, 1, 1, 1, 1, 0, 0, 0, 129, 0, 6, 1, 1, 0] : List Nat).getD t 0
/-- two objects, one behind the other -/
def offX (t i : Nat) : Nat := if i < NB t then of1 t i else 359 + of1 t (i - NB t)
/-- how many of a tag there are in the end -/
def NX (t : Nat) : Nat := ([12, 2, 148, 2, 258, 14, 2, 2, 2, 2, 0, 0, 0, 258, 0, 12, 2, 2, 0] : List Nat).getD t 0
/-- how many fields an object of a tag has -/
def nFX (t : Nat) : Nat := ([8, 2, 12, 6, 1, 4, 11, 2, 6, 7, 0] : List Nat).getD t 0
/-- an object or an array of tag t with z slots is made -/
def mkS (S : MS) (t z : Nat) : Option (Nat × MS) :=
  if S.2.1 t < NX t ∧ offX t (S.2.1 t) = S.2.2.2.1 then
    some (S.2.1 t, S.1, (fun x => if x = t then S.2.1 t + 1 else S.2.1 x), (fun x y => if x = t ∧ y = S.2.1 t then z else S.2.2.1 x y), S.2.2.2.1 + 1, S.2.2.2.2.1 + z, S.2.2.2.2.2)
  else none
def rfV (t : Nat) (r : Option Nat) : AV := match r with
  | some i => vR t i
  | none => vN
/-- what is got from a field by its link -/
def getS (k : LK) (t i : Nat) (μ : Mem) : Option AV := match k with
  | (0, f, tg, _) => if t = tg then some (vI (μ.2.1.1 f i)) else none
  | (2, f, tg, rt) => if t = tg then some (rfV rt (μ.1.1 f i)) else none
  | (3, f, tg, _) => if t = tg then some (vF (μ.2.1.2.2.2.2.2 f i)) else none
  | (4, f, _, _) => if t = 11 then some (vI (tpI f i)) else none
  | _ => none
def putS (C : Nat) (ini : Bool) (k : LK) (t i : Nat) (v : AV) (μ : Mem) : Option Mem := match k, v with
  | (0, f, tg, _), some (.inl x) => if t = tg then some (μ.1, (up2 μ.2.1.1 f i x, μ.2.1.2), μ.2.2) else none
  | (2, f, tg, rt), some (.inr (.inr (.inr (some (t', j))))) => if t = tg ∧ t' = rt ∧ C = tg ∧ ini = true then some ((up2 μ.1.1 f i (some j), μ.1.2), μ.2) else none
  | (3, f, tg, _), some (.inr (.inr (.inl x))) => if t = tg then some (μ.1, (μ.2.1.1, μ.2.1.2.1, μ.2.1.2.2.1, μ.2.1.2.2.2.1, μ.2.1.2.2.2.2.1, up2 μ.2.1.2.2.2.2.2 f i x), μ.2.2) else none
  | _, _ => none
/-- an int is read from an array of ints or bytes, a place that is in range -/
def iald (t i : Nat) (j : Nat) (μ : Mem) : Option Int :=
  if t = 13 then some (μ.2.1.2.1 i j) else if t = 19 then some (μ.1.2.2.2.2.2 j) else none
def iast (t i : Nat) (j : Nat) (x : Int) (μ : Mem) : Option Mem :=
  if t = 13 then some (μ.1, (μ.2.1.1, up2 μ.2.1.2.1 i j x, μ.2.1.2.2), μ.2.2) else none
/-- place j of an array of length z -/
def inA (z : Nat) (x : Int) : Bool := decide (0 ≤ x ∧ x < (z : Int))
def cpyA (f : M2) (a b : Nat) (sp dp n : Int) : M2 := fun k j => if k = b ∧ dp ≤ (j : Int) ∧ (j : Int) < dp + n then f a ((j : Int) - dp + sp).toNat else f k j
def tg32 (pc : Nat) (off : Int) : Nat := ((pc : Int) + off).toNat
def cndI (c : ClassFile.Cond) (x y : Int) : Bool := match c with
  | .eq => decide (x = y)
  | .ne => decide (x ≠ y)
  | .lt => decide (x < y)
  | .ge => decide (y ≤ x)
  | .gt => decide (y < x)
  | .le => decide (x ≤ y)
def n8 (n : Int) : Bool := decide (-128 ≤ n ∧ n < 128)
def n16 (n : Int) : Bool := decide (-32768 ≤ n ∧ n < 32768)
/-- of a reference: tag and number, or null -/
def refOf (v : AV) : Option (Option (Nat × Nat)) := match v with
  | some (.inr (.inr (.inr r))) => some r
  | _ => none
def isInt (v : AV) : Bool := match v with
  | some (.inl _) => true
  | _ => false
def isLong (v : AV) : Bool := match v with
  | some (.inr (.inl _)) => true
  | _ => false
def isFlo (v : AV) : Bool := match v with
  | some (.inr (.inr (.inl _))) => true
  | _ => false
def isRef (v : AV) : Bool := (refOf v).isSome
def isOne (v : AV) : Bool := isInt v || isFlo v || isRef v
def ld (ok : Bool) (pc : Nat) (ls st : List AV) (v : AV) (μ : Mem) : SR := if ok = true then nx pc ls (v :: st) μ else none
/-- loads, stores, constants, the stack -/
def stepA (pc len : Nat) (i : Instr) (ls st : List AV) (μ : Mem) : SR :=
  match i with
  | .iconst n => if n8 n = true then nx (pc + 1) ls (vI n :: st) μ else none
  | .bipush n => if n8 n = true then nx (pc + 2) ls (vI n :: st) μ else none
  | .sipush n => if n16 n = true then nx (pc + 3) ls (vI n :: st) μ else none
  | .lconst n => nx (pc + 1) ls (vJ (n.val : Int) :: st) μ
  | .fconst n => if n = 0 then nx (pc + 1) ls (vF FP.fconst0 :: st) μ else if n = 2 then nx (pc + 1) ls (vF FP.fconst2 :: st) μ else none
  | .aconst_null => nx (pc + 1) ls (vN :: st) μ
  | .iload_n k => ld (isInt (lg ls k.val)) (pc + 1) ls st (lg ls k.val) μ
  | .iload k => ld (isInt (lg ls k)) (pc + 2) ls st (lg ls k) μ
  | .lload_n k => ld (isLong (lg ls k.val)) (pc + 1) ls st (lg ls k.val) μ
  | .lload k => ld (isLong (lg ls k)) (pc + 2) ls st (lg ls k) μ
  | .fload_n k => ld (isFlo (lg ls k.val)) (pc + 1) ls st (lg ls k.val) μ
  | .fload k => ld (isFlo (lg ls k)) (pc + 2) ls st (lg ls k) μ
  | .aload_n k => ld (isRef (lg ls k.val)) (pc + 1) ls st (lg ls k.val) μ
  | .aload k => ld (isRef (lg ls k)) (pc + 2) ls st (lg ls k) μ
  | .istore_n k => match st with
    | v :: r => if isInt v = true ∧ k.val < ls.length then nx (pc + 1) (st1 ls k.val v) r μ else none
    | _ => none
  | .istore k => match st with
    | v :: r => if isInt v = true ∧ k < ls.length then nx (pc + 2) (st1 ls k v) r μ else none
    | _ => none
  | .fstore_n k => match st with
    | v :: r => if isFlo v = true ∧ k.val < ls.length then nx (pc + 1) (st1 ls k.val v) r μ else none
    | _ => none
  | .astore_n k => match st with
    | v :: r => if isRef v = true ∧ k.val < ls.length then nx (pc + 1) (st1 ls k.val v) r μ else none
    | _ => none
  | .astore k => match st with
    | v :: r => if isRef v = true ∧ k < ls.length then nx (pc + 2) (st1 ls k v) r μ else none
    | _ => none
  | .lstore_n k => match st with
    | v :: r => if isLong v = true ∧ k.val + 1 < ls.length then nx (pc + 1) (st2 ls k.val v) r μ else none
    | _ => none
  | .lstore k => match st with
    | v :: r => if isLong v = true ∧ k + 1 < ls.length then nx (pc + 2) (st2 ls k v) r μ else none
    | _ => none
  | .dup => match st with
    | v :: r => if isOne v = true then nx (pc + 1) ls (v :: v :: r) μ else none
    | _ => none
  | .dup2 => match st with
    | v :: w :: r => if isOne v = true ∧ isOne w = true then nx (pc + 1) ls (v :: w :: v :: w :: r) μ else none
    | _ => none
  | .pop => match st with
    | v :: r => if isOne v = true then nx (pc + 1) ls r μ else none
    | _ => none
  | .iinc k n => match lg ls k with
    | some (.inl x) => if k < ls.length ∧ n8 n = true ∧ len = 3 then nx (pc + 3) (st1 ls k (vI (w32 (x + n)))) st μ else none
    | _ => none
  | _ => none
/-! what lies on the stack -/
def oI (st : List AV) (f : Int → List AV → SR) : SR := match st with
  | some (.inl x) :: r => f x r
  | _ => none
def oII (st : List AV) (f : Int → Int → List AV → SR) : SR := match st with
  | some (.inl y) :: some (.inl x) :: r => f x y r
  | _ => none
def oJ (st : List AV) (f : Int → List AV → SR) : SR := match st with
  | some (.inr (.inl x)) :: r => f x r
  | _ => none
def oJJ (st : List AV) (f : Int → Int → List AV → SR) : SR := match st with
  | some (.inr (.inl y)) :: some (.inr (.inl x)) :: r => f x y r
  | _ => none
def oIJ (st : List AV) (f : Int → Int → List AV → SR) : SR := match st with
  | some (.inl y) :: some (.inr (.inl x)) :: r => f x y r
  | _ => none
def oF (st : List AV) (f : UInt32 → List AV → SR) : SR := match st with
  | some (.inr (.inr (.inl x))) :: r => f x r
  | _ => none
def oFF (st : List AV) (f : UInt32 → UInt32 → List AV → SR) : SR := match st with
  | some (.inr (.inr (.inl y))) :: some (.inr (.inr (.inl x))) :: r => f x y r
  | _ => none
def oQ (st : List AV) (f : Option (Nat × Nat) → List AV → SR) : SR := match st with
  | some (.inr (.inr (.inr q))) :: r => f q r
  | _ => none
def oO (st : List AV) (f : Nat → Nat → List AV → SR) : SR := match st with
  | some (.inr (.inr (.inr (some (t, i))))) :: r => f t i r
  | _ => none
def oVO (st : List AV) (f : AV → Nat → Nat → List AV → SR) : SR := match st with
  | v :: some (.inr (.inr (.inr (some (t, i))))) :: r => f v t i r
  | _ => none
def oIO (st : List AV) (f : Int → Nat → Nat → List AV → SR) : SR := match st with
  | some (.inl x) :: some (.inr (.inr (.inr (some (t, i))))) :: r => f x t i r
  | _ => none
def oVIO (st : List AV) (f : AV → Int → Nat → Nat → List AV → SR) : SR := match st with
  | v :: some (.inl x) :: some (.inr (.inr (.inr (some (t, i))))) :: r => f v x t i r
  | _ => none
def o0 (st : List AV) (f : SR) : SR := match st with
  | [] => f
  | _ => none
/-- arithmetic -/
def stepB (pc : Nat) (i : Instr) (ls st : List AV) (μ : Mem) : SR :=
  match i with
  | .iadd => oII st fun x y r => nx (pc + 1) ls (vI (w32 (x + y)) :: r) μ
  | .isub => oII st fun x y r => nx (pc + 1) ls (vI (w32 (x - y)) :: r) μ
  | .imul => oII st fun x y r => nx (pc + 1) ls (vI (w32 (x * y)) :: r) μ
  | .idiv => oII st fun x y r => if y = 0 then none else nx (pc + 1) ls (vI (w32 (Int.tdiv x y)) :: r) μ
  | .irem => oII st fun x y r => if y = 0 then none else nx (pc + 1) ls (vI (Int.tmod x y) :: r) μ
  | .ineg => oI st fun x r => nx (pc + 1) ls (vI (w32 (-x)) :: r) μ
  | .ior => oII st fun x y r => nx (pc + 1) ls (vI (i_or x y) :: r) μ
  | .iand => oII st fun x y r => nx (pc + 1) ls (vI (i_and x y) :: r) μ
  | .ishl => oII st fun x y r => nx (pc + 1) ls (vI (i_shl x y) :: r) μ
  | .ishr => oII st fun x y r => nx (pc + 1) ls (vI (i_shr x y) :: r) μ
  | .ladd => oJJ st fun x y r => nx (pc + 1) ls (vJ (w64 (x + y)) :: r) μ
  | .lsub => oJJ st fun x y r => nx (pc + 1) ls (vJ (w64 (x - y)) :: r) μ
  | .lmul => oJJ st fun x y r => nx (pc + 1) ls (vJ (w64 (x * y)) :: r) μ
  | .ldiv => oJJ st fun x y r => if y = 0 then none else nx (pc + 1) ls (vJ (w64 (Int.tdiv x y)) :: r) μ
  | .lrem => oJJ st fun x y r => if y = 0 then none else nx (pc + 1) ls (vJ (Int.tmod x y) :: r) μ
  | .lneg => oJ st fun x r => nx (pc + 1) ls (vJ (w64 (-x)) :: r) μ
  | .lor => oJJ st fun x y r => nx (pc + 1) ls (vJ (j_or x y) :: r) μ
  | .lshl => oIJ st fun x y r => nx (pc + 1) ls (vJ (j_shl x y) :: r) μ
  | .lushr => oIJ st fun x y r => nx (pc + 1) ls (vJ (j_ushr x y) :: r) μ
  | .lcmp => oJJ st fun x y r => nx (pc + 1) ls (vI (j_cmp x y) :: r) μ
  | .i2l => oI st fun x r => nx (pc + 1) ls (vJ x :: r) μ
  | .l2i => oJ st fun x r => nx (pc + 1) ls (vI (w32 x) :: r) μ
  | .i2c => oI st fun x r => if 0 ≤ x ∧ x < 65536 then nx (pc + 1) ls (vI x :: r) μ else none
  | .i2f => oI st fun x r => nx (pc + 1) ls (vF (f_i2f x) :: r) μ
  | .f2i => oF st fun x r => nx (pc + 1) ls (vI (f_f2i x) :: r) μ
  | .fdiv => oFF st fun x y r => if f_ok (FP.fdiv x y) = true then nx (pc + 1) ls (vF (FP.fdiv x y) :: r) μ else none
  | .fmul => oFF st fun x y r => if f_ok (FP.fmul x y) = true then nx (pc + 1) ls (vF (FP.fmul x y) :: r) μ else none
  | .fcmp op => oFF st fun x y r => nx (pc + 1) ls (vI (f_cmp op x y) :: r) μ
  | _ => none
/-- branches, returns -/
def stepC (rk pc : Nat) (i : Instr) (ls st : List AV) (μ : Mem) : SR :=
  match i with
  | .goto o => nx (tg32 pc o) ls st μ
  | .ifCond c o => oI st fun x r => nx (if cndI c x 0 = true then tg32 pc o else pc + 3) ls r μ
  | .if_icmp c o => oII st fun x y r => nx (if cndI c x y = true then tg32 pc o else pc + 3) ls r μ
  | .ifnull o => oQ st fun q r => nx (if q = none then tg32 pc o else pc + 3) ls r μ
  | .ifnonnull o => oQ st fun q r => nx (if q = none then pc + 3 else tg32 pc o) ls r μ
  | .if_acmp c o => oO st fun t b r => oO r fun t' a r => if t = 11 ∧ t' = 11 then (match c with
    | .eq => nx (if a = b then tg32 pc o else pc + 3) ls r μ
    | .ne => nx (if a = b then pc + 3 else tg32 pc o) ls r μ) else none
  | .tableswitch d lo _ os => oI st fun x r => nx (tg32 pc (tsw lo os.toList d x)) ls r μ
  | .lookupswitch d qs => oI st fun x r => nx (tg32 pc (lsw qs.toList d x)) ls r μ
  | .ireturn => oI st fun x r => o0 r (if (rk = 1 ∨ rk = 2 ∨ rk = 6 ∨ rk = 7) ∧ retOk rk x = true then some (.inr (.inr (vI x))) else none)
  | .lreturn => oJ st fun x r => o0 r (if rk = 3 then some (.inr (.inr (vJ x))) else none)
  | .freturn => oF st fun x r => o0 r (if rk = 4 then some (.inr (.inr (vF x))) else none)
  | .areturn => oQ st fun q r => o0 r (if rk = 5 then some (.inr (.inr (some (.inr (.inr (.inr q)))))) else none)
  | .return_ => o0 st (if rk = 0 then some (.inr (.inr vU)) else none)
  | _ => none
/-- constants and statics by a link -/
def cstS (k : LK) : Option AV := match k with
  | (8, a, _, _) => if a < 6 then some (vR 11 a) else none
  | (13, a, _, _) => if a < 2147483648 then some (vI (a : Int)) else none
  | (14, a, _, _) => some (vF (UInt32.ofNat a))
  | _ => none
/-- fields, arrays, what is made -/
def stepD (C : Nat) (ini : Bool) (lk : Nat → Option LK) (pc : Nat) (i : Instr) (ls st : List AV) (μ : Mem) : SR :=
  match i with
  | .getfield k => oO st fun t a r => (lk k).bind fun q => (getS q t a μ).bind fun v => nx (pc + 3) ls (v :: r) μ
  | .putfield k => oVO st fun v t a r => (lk k).bind fun q => (putS C ini q t a v μ).bind fun μ' => nx (pc + 3) ls r μ'
  | .getstatic k => (lk k).bind fun q => (cstS q).bind fun v => if 8 ≤ q.1 ∧ q.1 ≤ 10 then nx (pc + 3) ls (v :: st) μ else none
  | .ldc k => (lk k).bind fun q => (cstS q).bind fun v => if q.1 = 13 ∨ q.1 = 14 ∨ q.1 = 16 then nx (pc + 2) ls (v :: st) μ else none
  | .ldc2_w k => (lk k).bind fun q => (cstS q).bind fun v => if q.1 = 15 then nx (pc + 3) ls (v :: st) μ else none
  | .arraylength => oO st fun t a r => (alen μ.1 t a).bind fun z => if z < 2147483648 then nx (pc + 1) ls (vI (z : Int) :: r) μ else none
  | .iaload => oIO st fun x t a r => if inA (μ.1.2.2.1 t a) x = true then (iald t a x.toNat μ).bind (fun v => nx (pc + 1) ls (vI v :: r) μ) else none
  | .iastore => oVIO st fun v x t a r => if inA (μ.1.2.2.1 t a) x = true then (oI [v] fun z _ => (iast t a x.toNat z μ).bind fun μ' => nx (pc + 1) ls r μ') else none
  | .faload => oIO st fun x t a r => if inA (μ.1.2.2.1 t a) x = true then (if t = 17 then nx (pc + 1) ls (vF (μ.2.1.2.2.2.2.1 a x.toNat) :: r) μ else none) else none
  | .fastore => oVIO st fun v x t a r => if inA (μ.1.2.2.1 t a) x = true then (oF [v] fun z _ => if t = 17 then nx (pc + 1) ls r (μ.1, (μ.2.1.1, μ.2.1.2.1, μ.2.1.2.2.1, μ.2.1.2.2.2.1, up2 μ.2.1.2.2.2.2.1 a x.toNat z, μ.2.1.2.2.2.2.2), μ.2.2) else none) else none
  | .aaload => oIO st fun x t a r => if inA (μ.1.2.2.1 t a) x = true then (if t = 15 then nx (pc + 1) ls (rfV 2 (μ.2.1.2.2.1 a x.toNat) :: r) μ else if t = 16 then nx (pc + 1) ls (rfV 0 (μ.2.1.2.2.2.1 a x.toNat) :: r) μ else none) else none
  | .aastore => oVIO st fun v x t a r => if inA (μ.1.2.2.1 t a) x = true then (oO [v] fun t' z _ => if t = 15 ∧ t' = 2 then nx (pc + 1) ls r (μ.1, (μ.2.1.1, μ.2.1.2.1, up2 μ.2.1.2.2.1 a x.toNat (some z), μ.2.1.2.2.2), μ.2.2)
      else if t = 16 ∧ t' = 0 then nx (pc + 1) ls r (μ.1, (μ.2.1.1, μ.2.1.2.1, μ.2.1.2.2.1, up2 μ.2.1.2.2.2.1 a x.toNat (some z), μ.2.1.2.2.2.2), μ.2.2) else none) else none
  | .new k => (lk k).bind fun q => if q.1 = 11 ∧ q.2.2.1 = nFX q.2.1 ∧ q.2.1 ≤ 9 then (mkS μ.1 q.2.1 q.2.2.1).bind (fun w => nx (pc + 3) ls (vR q.2.1 w.1 :: st) (w.2, μ.2)) else none
  | .newarray ty => oI st fun x r => if 0 ≤ x ∧ x < 10000 then (match ty with
    | .int => (mkS μ.1 13 x.toNat).bind (fun w => nx (pc + 2) ls (vR 13 w.1 :: r) (w.2, μ.2))
    | .float => (mkS μ.1 17 x.toNat).bind (fun w => nx (pc + 2) ls (vR 17 w.1 :: r) (w.2, μ.2))
    | _ => none) else none
  | .anewarray k => oI st fun x r => if 0 ≤ x ∧ x < 10000 then ((lk k).bind fun q => if q.1 = 11 ∧ (q.2.1 = 2 ∧ q.2.2.2 = 15 ∨ q.2.1 = 0 ∧ q.2.2.2 = 16) then (mkS μ.1 q.2.2.2 x.toNat).bind (fun w => nx (pc + 3) ls (vR q.2.2.2 w.1 :: r) (w.2, μ.2)) else none) else none
  | _ => none
/-- the JDK's own: 0 max 1 min 2 abs 3 arraycopy 4 Object's constructor 5 a float's raw bits -/
def stepE (k : Nat) (pc : Nat) (ls st : List AV) (μ : Mem) : SR :=
  match k with
  | 0 => oII st fun x y r => nx (pc + 3) ls (vI (if x < y then y else x) :: r) μ
  | 1 => oII st fun x y r => nx (pc + 3) ls (vI (if y < x then y else x) :: r) μ
  | 2 => oI st fun x r => nx (pc + 3) ls (vI (if 0 ≤ x then x else w32 (0 - x)) :: r) μ
  | 3 => oII st fun dp n r => oO r fun t b r => oIO r fun sp t' a r => if t = 13 ∧ t' = 13 then (if 0 ≤ sp ∧ 0 ≤ dp ∧ 0 ≤ n ∧ sp + n ≤ (μ.1.2.2.1 13 a : Int) ∧ dp + n ≤ (μ.1.2.2.1 13 b : Int) then nx (pc + 3) ls r (μ.1, (μ.2.1.1, cpyA μ.2.1.2.1 a b sp dp n, μ.2.1.2.2), μ.2.2) else none) else none
  | 4 => oO st fun _ _ r => nx (pc + 3) ls r μ
  | _ => none
/-- a call: the arguments, as they lie on the stack (the last one on top), are taken off -/
def takeA : Nat → List AV → Option (List AV × List AV)
  | 0, st => some ([], st)
  | n + 1, v :: st => match takeA n st with
    | some (as, r) => some (as ++ [v], r)
    | none => none
  | _ + 1, [] => none
/-- words on the stack -/
def catS (st : List AV) : Nat := match st with
  | [] => 0
  | some (.inr (.inl _)) :: r => 2 + catS r
  | _ :: r => 1 + catS r
/-- the receiver is of the method's class -/
def rcvOk (inst : Bool) (z y : Nat) (as : List AV) : Bool := match inst with
  | false => z == 0
  | true => match as with
    | some (.inr (.inr (.inr (some (t, _))))) :: _ => z == 1 && t == y / 100
    | _ => false
def stepF (lk : Nat → Option LK) (ml : Nat → Nat) (inst : Bool) (k pc : Nat) (ls st : List AV) (μ : Mem) : SR :=
  (lk k).bind fun q => if q.1 = 18 then (if catS st ≤ 13 then stepE q.2.1 pc ls st μ else none)
    else if q.1 = 17 then ((takeA q.2.2.1 st).bind fun w => if catS w.2 ≤ 8 ∧ (spr w.1).length ≤ ml q.2.1 ∧ rcvOk inst q.2.2.2 q.2.1 w.1 = true then some (.inr (.inl (q.2.1, w.1, w.2))) else none) else none
def opK (i : Instr) : Nat := match i with
  | .iconst _ | .bipush _ | .sipush _ | .lconst _ | .fconst _ | .aconst_null | .iload_n _ | .iload _ | .lload_n _ | .lload _ | .fload_n _ | .fload _ | .aload_n _ | .aload _ | .istore_n _ | .istore _ | .fstore_n _ | .astore_n _ | .astore _ | .lstore_n _ | .lstore _ | .dup | .dup2 | .pop | .iinc _ _ => 0
  | .goto _ | .ifCond _ _ | .if_icmp _ _ | .ifnull _ | .ifnonnull _ | .if_acmp _ _ | .tableswitch _ _ _ _ | .lookupswitch _ _ | .ireturn | .lreturn | .freturn | .areturn | .return_ => 2
  | .getfield _ | .putfield _ | .getstatic _ | .ldc _ | .ldc2_w _ | .arraylength | .iaload | .iastore | .laload | .lastore | .faload | .fastore | .baload | .aaload | .aastore | .new _ | .newarray _ | .anewarray _ => 3
  | .invokevirtual _ | .invokespecial _ => 4
  | .invokestatic _ => 5
  | _ => 1
def stepX (C rk : Nat) (ini : Bool) (lk : Nat → Option LK) (ml : Nat → Nat) (pc len : Nat) (i : Instr) (ls st : List AV) (μ : Mem) : SR :=
  match opK i with
  | 0 => stepA pc len i ls st μ
  | 1 => stepB pc i ls st μ
  | 2 => stepC rk pc i ls st μ
  | 3 => stepD C ini lk pc i ls st μ
  | 4 => match i with
    | .invokevirtual k => stepF lk ml true k pc ls st μ
    | .invokespecial k => stepF lk ml true k pc ls st μ
    | _ => none
  | _ => match i with
    | .invokestatic k => stepF lk ml false k pc ls st μ
    | _ => none
