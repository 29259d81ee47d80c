/-! THE ABSTRACT MACHINE: a world of cells by number, one step of it, its runs. Nothing here speaks of the real machine yet. -/
abbrev Wd : Type := (Nat → Nat × Nat) × (Nat → Nat → Int32) × (Nat → Nat → Int64) × (Nat → Nat → UInt64) × (Nat → Nat → Option Nat) × Nat × Nat
def wK (w : Wd) : Nat → Nat × Nat := w.1
def gI (w : Wd) : Nat → Nat → Int32 := w.2.1
def gL (w : Wd) : Nat → Nat → Int64 := w.2.2.1
def gD (w : Wd) : Nat → Nat → UInt64 := w.2.2.2.1
def gR (w : Wd) : Nat → Nat → Option Nat := w.2.2.2.2.1
def wN (w : Wd) : Nat := w.2.2.2.2.2.1
def wS (w : Wd) : Nat := w.2.2.2.2.2.2
def u1 {α : Type} (g : Nat → α) (a : Nat) (v : α) : Nat → α := fun b => if b = a then v else g b
def u2 {α : Type} (g : Nat → Nat → α) (a k : Nat) (v : α) : Nat → Nat → α := fun b j => if b = a then (if j = k then v else g b j) else g b j
def sI (w : Wd) (a k : Nat) (x : Int32) : Wd := (wK w, u2 (gI w) a k x, gL w, gD w, gR w, wN w, wS w)
def sL (w : Wd) (a k : Nat) (x : Int64) : Wd := (wK w, gI w, u2 (gL w) a k x, gD w, gR w, wN w, wS w)
def sD (w : Wd) (a k : Nat) (x : UInt64) : Wd := (wK w, gI w, gL w, u2 (gD w) a k x, gR w, wN w, wS w)
def sR (w : Wd) (a k : Nat) (x : Option Nat) : Wd := (wK w, gI w, gL w, gD w, u2 (gR w) a k x, wN w, wS w)
/-- a new cell: its tag, its length; all of it is 0 or nothing -/
def nw (w : Wd) (t n : Nat) : Wd := (u1 (wK w) (wN w) (t, n), u1 (gI w) (wN w) (fun _ => 0), u1 (gL w) (wN w) (fun _ => 0), u1 (gD w) (wN w) (fun _ => 0), u1 (gR w) (wN w) (fun _ => none), wN w + 1, wS w + n)
/-- new long[n][k]: the outer one, then the inner ones -/
def nwm (w : Wd) (n k : Nat) : Wd := (fun b => if b < wN w then wK w b else if b = wN w then (27, n) else if b < wN w + 1 + n then (23, k) else wK w b, fun b => if b < wN w then gI w b else fun _ => 0, fun b => if b < wN w then gL w b else fun _ => 0, fun b => if b < wN w then gD w b else fun _ => 0, fun b => if b < wN w then gR w b else if b = wN w then (fun j => if j < n then some (wN w + 1 + j) else none) else fun _ => none, wN w + 1 + n, wS w + n + n * k)
/-- items si .. of a come to di .. of b, as if all were taken first (longs) -/
def cpL (w : Wd) (a si b di n : Nat) : Wd := (wK w, gI w, u1 (gL w) b (va_cpy (gL w a) (gL w b) si di n), gD w, gR w, wN w, wS w)
def inB (i : Int32) (n : Nat) : Bool := !(decide (i < 0)) && decide (i.toNatClampNeg < n)
def lg : List (Option Value) → Nat → Option Value
  | [], _ => none
  | x :: _, 0 => x
  | _ :: r, k + 1 => lg r k
def lset : List (Option Value) → Nat → Option Value → List (Option Value)
  | [], _, _ => []
  | _ :: r, 0, v => v :: r
  | x :: r, k + 1, v => x :: lset r k v
/-- a store into the second half of a long takes the long away -/
def lkill (l : List (Option Value)) (i : Nat) : List (Option Value) := match i with
  | 0 => l
  | j + 1 => match lg l j with
    | some (.long _) => lset l j none
    | some (.double _) => lset l j none
    | _ => l
def st1 (l : List (Option Value)) (i : Nat) (v : Value) : List (Option Value) := lset (lkill l i) i (some v)
def st2 (l : List (Option Value)) (i : Nat) (v : Value) : List (Option Value) := lset (lset (lkill l i) i (some v)) (i + 1) none
/-- a method's locals at its entry -/
def lents : List Value → List (Option Value)
  | [] => []
  | .long x :: r => some (.long x) :: none :: lents r
  | .double x :: r => some (.double x) :: none :: lents r
  | v :: r => some v :: lents r
def lentry (n : Nat) (as : List Value) : List (Option Value) := lents as ++ List.replicate (n - (lents as).length) none
/-- what lies on the stack: arguments in order, the rest -/
def popn : Nat → List Value → Option (List Value × List Value)
  | 0, st => some ([], st)
  | n + 1, v :: st => match popn n st with
    | some (as, r) => some (as ++ [v], r)
    | none => none
  | _ + 1, [] => none
def ldI (ls : List (Option Value)) (st : List Value) (k : Nat) : Option (List (Option Value) × List Value) := match lg ls k with
  | some (.int x) => some (ls, .int x :: st)
  | _ => none
def ldL (ls : List (Option Value)) (st : List Value) (k : Nat) : Option (List (Option Value) × List Value) := match lg ls k with
  | some (.long x) => some (ls, .long x :: st)
  | _ => none
def ldD (ls : List (Option Value)) (st : List Value) (k : Nat) : Option (List (Option Value) × List Value) := match lg ls k with
  | some (.double x) => some (ls, .double x :: st)
  | _ => none
def ldA (ls : List (Option Value)) (st : List Value) (k : Nat) : Option (List (Option Value) × List Value) := match lg ls k with
  | some (.ref x) => some (ls, .ref x :: st)
  | some .null => some (ls, .null :: st)
  | _ => none
def stI (ls : List (Option Value)) (st : List Value) (k : Nat) : Option (List (Option Value) × List Value) := match st with
  | .int x :: r => if k < ls.length then some (st1 ls k (.int x), r) else none
  | _ => none
def stA (ls : List (Option Value)) (st : List Value) (k : Nat) : Option (List (Option Value) × List Value) := match st with
  | .ref x :: r => if k < ls.length then some (st1 ls k (.ref x), r) else none
  | .null :: r => if k < ls.length then some (st1 ls k .null, r) else none
  | _ => none
def stL (ls : List (Option Value)) (st : List Value) (k : Nat) : Option (List (Option Value) × List Value) := match st with
  | .long x :: r => if k + 1 < ls.length then some (st2 ls k (.long x), r) else none
  | _ => none
def stD (ls : List (Option Value)) (st : List Value) (k : Nat) : Option (List (Option Value) × List Value) := match st with
  | .double x :: r => if k + 1 < ls.length then some (st2 ls k (.double x), r) else none
  | _ => none
def bI (f : Int32 → Int32 → Int32) (ls : List (Option Value)) (st : List Value) : Option (List (Option Value) × List Value) := match st with
  | .int y :: .int x :: r => some (ls, .int (f x y) :: r)
  | _ => none
def bL (f : Int64 → Int64 → Int64) (ls : List (Option Value)) (st : List Value) : Option (List (Option Value) × List Value) := match st with
  | .long y :: .long x :: r => some (ls, .long (f x y) :: r)
  | _ => none
def bS (f : Int64 → Int32 → Int64) (ls : List (Option Value)) (st : List Value) : Option (List (Option Value) × List Value) := match st with
  | .int y :: .long x :: r => some (ls, .long (f x y) :: r)
  | _ => none
/-- a double that is no NaN -/
def nN (b : UInt64) : Bool := decide (b &&& 0x7fffffffffffffff ≤ 0x7ff0000000000000)
def bD (f : UInt64 → UInt64 → UInt64) (ls : List (Option Value)) (st : List Value) : Option (List (Option Value) × List Value) := match st with
  | .double y :: .double x :: r => if nN (f x y) = true then some (ls, .double (f x y) :: r) else none
  | _ => none
def ushI (x y : Int32) : Int32 := (x.toUInt32 >>> (y.toUInt32 &&& Int32.toUInt32 31)).toInt32
def shlL (x : Int64) (y : Int32) : Int64 := x <<< (y.toInt64 &&& 63)
def shrL (x : Int64) (y : Int32) : Int64 := x >>> (y.toInt64 &&& 63)
def ushL (x : Int64) (y : Int32) : Int64 := (x.toUInt64 >>> (y.toInt64.toUInt64 &&& Int64.toUInt64 63)).toInt64
def cmpL (x y : Int64) : Int32 := lg_cmp x y
/-- what neither jumps nor asks the world -/
def pst (i : Instr) (av : Value) (ls : List (Option Value)) (st : List Value) : Option (List (Option Value) × List Value) := match i with
  | .iconst _ | .bipush _ | .sipush _ | .lconst _ | .dconst _ | .aconst_null | .ldc _ | .ldc_w _ | .ldc2_w _ | .getstatic _ => some (ls, av :: st)
  | .iload k => ldI ls st k
  | .iload_n k => ldI ls st k
  | .lload k => ldL ls st k
  | .lload_n k => ldL ls st k
  | .dload k => ldD ls st k
  | .dload_n k => ldD ls st k
  | .aload k => ldA ls st k
  | .aload_n k => ldA ls st k
  | .istore k => stI ls st k
  | .istore_n k => stI ls st k
  | .lstore k => stL ls st k
  | .lstore_n k => stL ls st k
  | .dstore k => stD ls st k
  | .dstore_n k => stD ls st k
  | .astore k => stA ls st k
  | .astore_n k => stA ls st k
  | .iinc k _ => match av with
    | .int c => match lg ls k with
      | some (.int x) => if k < ls.length then some (st1 ls k (.int (x + c)), st) else none
      | _ => none
    | _ => none
  | .iadd => bI (fun x y => x + y) ls st
  | .isub => bI (fun x y => x - y) ls st
  | .imul => bI (fun x y => x * y) ls st
  | .iand => bI (fun x y => x &&& y) ls st
  | .ior => bI (fun x y => x ||| y) ls st
  | .ixor => bI (fun x y => x ^^^ y) ls st
  | .ishl => bI (fun x y => x <<< (y &&& 31)) ls st
  | .ishr => bI (fun x y => x >>> (y &&& 31)) ls st
  | .iushr => bI ushI ls st
  | .idiv => match st with
    | .int y :: .int x :: r => if y = 0 then none else some (ls, .int (x / y) :: r)
    | _ => none
  | .irem => match st with
    | .int y :: .int x :: r => if y = 0 then none else some (ls, .int (x - x / y * y) :: r)
    | _ => none
  | .ineg => match st with
    | .int x :: r => some (ls, .int (-x) :: r)
    | _ => none
  | .ladd => bL (fun x y => x + y) ls st
  | .lsub => bL (fun x y => x - y) ls st
  | .lmul => bL (fun x y => x * y) ls st
  | .land => bL (fun x y => x &&& y) ls st
  | .lor => bL (fun x y => x ||| y) ls st
  | .lxor => bL (fun x y => x ^^^ y) ls st
  | .lshl => bS shlL ls st
  | .lshr => bS shrL ls st
  | .lushr => bS ushL ls st
  | .ldiv => match st with
    | .long y :: .long x :: r => if y = 0 then none else some (ls, .long (x / y) :: r)
    | _ => none
  | .lrem => match st with
    | .long y :: .long x :: r => if y = 0 then none else some (ls, .long (x - x / y * y) :: r)
    | _ => none
  | .lneg => match st with
    | .long x :: r => some (ls, .long (-x) :: r)
    | _ => none
  | .lcmp => match st with
    | .long y :: .long x :: r => some (ls, .int (cmpL x y) :: r)
    | _ => none
  | .i2b => match st with
    | .int x :: r => some (ls, .int (x.toInt8.toInt32) :: r)
    | _ => none
  | .i2c => match st with
    | .int x :: r => some (ls, .int ((x.toUInt32 % 65536).toInt32) :: r)
    | _ => none
  | .i2l => match st with
    | .int x :: r => some (ls, .long x.toInt64 :: r)
    | _ => none
  | .l2i => match st with
    | .long x :: r => some (ls, .int x.toInt32 :: r)
    | _ => none
  | .i2d => match st with
    | .int x :: r => some (ls, .double (FP.i2d x) :: r)
    | _ => none
  | .l2d => match st with
    | .long x :: r => some (ls, .double (FP.l2d x) :: r)
    | _ => none
  | .d2l => match st with
    | .double x :: r => some (ls, .long (FP.d2l x) :: r)
    | _ => none
  | .dneg => match st with
    | .double x :: r => some (ls, .double (FP.dneg x) :: r)
    | _ => none
  | .dcmp op => match st with
    | .double y :: .double x :: r => some (ls, .int (Op.cmpValue (FP.dcmp x y) op) :: r)
    | _ => none
  | .dadd => bD FP.dadd ls st
  | .dsub => bD FP.dsub ls st
  | .dmul => bD FP.dmul ls st
  | .ddiv => bD FP.ddiv ls st
  | .dup => match st with
    | v :: r => if v.category = 1 then some (ls, v :: v :: r) else none
    | _ => none
  | .dup_x1 => match st with
    | v :: u :: r => if v.category = 1 then (if u.category = 1 then some (ls, v :: u :: v :: r) else none) else none
    | _ => none
  | .dup2 => match st with
    | v :: u :: r => if v.category = 1 then (if u.category = 1 then some (ls, v :: u :: v :: u :: r) else none) else none
    | _ => none
  | .pop => match st with
    | v :: r => if v.category = 1 then some (ls, r) else none
    | _ => none
  | _ => none

abbrev Rs : Type := Option (Option Value × Wd)
/-- where a run stands: method, frames that may still be laid, place, locals, stack, world -/
abbrev Cfg : Type := Nat × Nat × Nat × List (Option Value) × List Value × Wd
/-- what comes next: an end; another place; a call, and where its answer goes -/
abbrev Pl : Type := Rs ⊕ (Cfg ⊕ (Cfg × (Option Value × Wd → Cfg)))
/-- an instruction of a method: itself, its length, numbers, a value, a switch's keys -/
abbrev En : Type := Instr × Nat × List Nat × Value × List (Int32 × Nat)
def no : Pl := .inl none
def gto (y d pc : Nat) (ls : List (Option Value)) (st : List Value) (w : Wd) : Pl := .inr (.inl (y, d, pc, ls, st, w))
def swk (x : Int32) (df : Nat) : List (Int32 × Nat) → (Nat → Pl) → Pl
  | [], k => k df
  | q :: r, k => if x = q.1 then k q.2 else swk x df r k
def fval (w : Wd) (a k : Nat) : Nat → Value
  | 0 => .int (gI w a k)
  | 1 => .long (gL w a k)
  | 2 => .double (gD w a k)
  | 3 => va_rf (gR w a k)
  | _ => .int (gI w a k)
def sval (w : Wd) (a k : Nat) (kd : Nat) (v : Value) : Option Wd := match kd with
  | 0 => match v with
    | .int x => some (sI w a k x)
    | _ => none
  | 1 => match v with
    | .long x => some (sL w a k x)
    | _ => none
  | 2 => match v with
    | .double x => some (sD w a k x)
    | _ => none
  | 3 => match v with
    | .ref b => if 64 ≤ b then some (sR w a k (some b)) else none
    | .null => some (sR w a k none)
    | _ => none
  | _ => match v with
    | .int x => if vp_nar .boolean x = x then some (sI w a k x) else none
    | _ => none
def isIA (t : Nat) : Bool := t == 20 || t == 30 || t == 31
def isBA (t : Nat) : Bool := t == 21 || t == 22 || t == 33
def isRA (t : Nat) : Bool := t == 25 || t == 26 || t == 27
def isAr (t : Nat) : Bool := t == 20 || t == 21 || t == 22 || t == 23 || t == 24 || t == 25 || t == 26 || t == 27 || t == 30 || t == 33
def catS : List Value → Nat
  | [] => 0
  | v :: r => v.category + catS r
/-- a receiver of class ci (99: none is asked) -/
def rcv (w : Wd) (ci : Nat) (as : List Value) : Bool := if ci = 99 then true else match as with
  | .ref a :: _ => (wK w a).1 == ci
  | _ => false
def narB (rt : Nat) (x : Int32) : Bool := match rt with
  | 0 => true
  | 1 => decide (vp_nar .boolean x = x)
  | 2 => decide (vp_nar .byte x = x)
  | _ => decide (vp_nar .char x = x)
def pcall (y d pc : Nat) (ls : List (Option Value)) (st : List Value) (w : Wd) (y2 na ci mx : Nat) : Pl := match popn na st with
  | none => no
  | some q => if rcv w ci q.1 = true then (if (lents q.1).length ≤ mx then (if catS q.2 ≤ 8 then (match d with
    | 0 => no
    | d2 + 1 => .inr (.inr ((y2, d2, 0, lentry mx q.1, [], w), fun v => (y, d2 + 1, pc + 3, ls, v.1.toList ++ q.2, v.2)))) else no) else no) else no
def sgn (b : Int64) : Bool := vn_snl2d b
/-- the natives, and Object's constructor -/
def dpos (d : Nat) (P : Pl) : Pl := match d with
  | 0 => no
  | _ + 1 => P
def pnat (y d pc : Nat) (ls : List (Option Value)) (st : List Value) (w : Wd) (c : Nat) : Pl := match c with
  | 0 => match st with
    | .ref a :: r => if 64 ≤ a then (if catS r ≤ 8 then dpos d (gto y d (pc + 3) ls r w) else no) else no
    | _ => no
  | 1 => match st with
    | .long b :: r => if sgn b = false then (if catS r ≤ 8 then dpos d (gto y d (pc + 3) ls (.double b.toUInt64 :: r) w) else no) else no
    | _ => no
  | 2 => match st with
    | .double b :: r => if catS r ≤ 8 then dpos d (gto y d (pc + 3) ls (.long b.toInt64 :: r) w) else no
    | _ => no
  | 3 => match st with
    | .int n :: .int dp :: .ref b :: .int sp :: .ref a :: r => if (wK w a).1 = 23 then (if (wK w b).1 = 23 then (if sp < 0 then no else if dp < 0 then no else if n < 0 then no else
      if sp.toNatClampNeg + n.toNatClampNeg ≤ (wK w a).2 then (if dp.toNatClampNeg + n.toNatClampNeg ≤ (wK w b).2 then (if catS r ≤ 8 then dpos d (gto y d (pc + 3) ls r (cpL w a sp.toNatClampNeg b dp.toNatClampNeg n.toNatClampNeg)) else no) else no) else no) else no) else no
    | _ => no
  | 4 => match st with
    | .int b :: .int a :: r => if catS r ≤ 8 then dpos d (gto y d (pc + 3) ls (.int (if a < b then b else a) :: r) w) else no
    | _ => no
  | 5 => match st with
    | .int b :: .int a :: r => if catS r ≤ 8 then dpos d (gto y d (pc + 3) ls (.int (if b < a then b else a) :: r) w) else no
    | _ => no
  | 6 => match st with
    | .int a :: r => if catS r ≤ 8 then dpos d (gto y d (pc + 3) ls (.int (if 0 ≤ a then a else 0 - a) :: r) w) else no
    | _ => no
  | 7 => match st with
    | .long b :: .long a :: r => if catS r ≤ 8 then dpos d (gto y d (pc + 3) ls (.long (if b < a then a else b) :: r) w) else no
    | _ => no
  | 8 => match st with
    | .long a :: r => if catS r ≤ 8 then dpos d (gto y d (pc + 3) ls (.long (if 0 < a then a else -a) :: r) w) else no
    | _ => no
  | _ => no
def pbr (y d pc : Nat) (ls : List (Option Value)) (r : List Value) (w : Wd) (t : Nat) (c : Prop) (hc : Decidable c) : Pl := if c then gto y d t ls r w else gto y d (pc + 3) ls r w
/-- what jumps or asks the world -/
def pln (y d pc : Nat) (ls : List (Option Value)) (st : List Value) (w : Wd) (i : Instr) (n : Nat) (ax : List Nat) (sw : List (Int32 × Nat)) : Pl := match i with
  | .goto _ => match ax with
    | [t] => gto y d t ls st w
    | _ => no
  | .ifCond c _ => match ax with
    | [t] => match st with
      | .int x :: r => match c with
        | .eq => pbr y d pc ls r w t (x = 0) inferInstance
        | .ne => pbr y d pc ls r w t (¬ x = 0) inferInstance
        | .lt => pbr y d pc ls r w t (x < 0) inferInstance
        | .ge => pbr y d pc ls r w t (0 ≤ x) inferInstance
        | .gt => pbr y d pc ls r w t (0 < x) inferInstance
        | .le => pbr y d pc ls r w t (x ≤ 0) inferInstance
      | _ => no
    | _ => no
  | .if_icmp c _ => match ax with
    | [t] => match st with
      | .int b :: .int x :: r => match c with
        | .eq => pbr y d pc ls r w t (x = b) inferInstance
        | .ne => pbr y d pc ls r w t (¬ x = b) inferInstance
        | .lt => pbr y d pc ls r w t (x < b) inferInstance
        | .ge => pbr y d pc ls r w t (b ≤ x) inferInstance
        | .gt => pbr y d pc ls r w t (b < x) inferInstance
        | .le => pbr y d pc ls r w t (x ≤ b) inferInstance
      | _ => no
    | _ => no
  | .ifnull _ => match ax with
    | [t] => match st with
      | .null :: r => gto y d t ls r w
      | .ref a :: r => if 64 ≤ a then gto y d (pc + 3) ls r w else no
      | _ => no
    | _ => no
  | .ifnonnull _ => match ax with
    | [t] => match st with
      | .null :: r => gto y d (pc + 3) ls r w
      | .ref a :: r => if 64 ≤ a then gto y d t ls r w else no
      | _ => no
    | _ => no
  | .tableswitch _ _ _ _ => match ax with
    | [t] => match st with
      | .int x :: r => swk x t sw (fun t2 => gto y d t2 ls r w)
      | _ => no
    | _ => no
  | .lookupswitch _ _ => match ax with
    | [t] => match st with
      | .int x :: r => swk x t sw (fun t2 => gto y d t2 ls r w)
      | _ => no
    | _ => no
  | .getfield _ => match ax with
    | [ci, k, kd] => match st with
      | .ref a :: r => if (wK w a).1 = ci then gto y d (pc + 3) ls (fval w a k kd :: r) w else no
      | _ => no
    | _ => no
  | .putfield _ => match ax with
    | [ci, k, kd] => match st with
      | v :: .ref a :: r => if (wK w a).1 = ci then (match sval w a k kd v with
        | some w2 => gto y d (pc + 3) ls r w2
        | none => no) else no
      | _ => no
    | _ => no
  | .iaload => match st with
    | .int j :: .ref a :: r => if isIA (wK w a).1 = true then (if inB j (wK w a).2 = true then gto y d (pc + 1) ls (.int (gI w a j.toNatClampNeg) :: r) w else no) else no
    | _ => no
  | .baload => match st with
    | .int j :: .ref a :: r => if isBA (wK w a).1 = true then (if inB j (wK w a).2 = true then gto y d (pc + 1) ls (.int (gI w a j.toNatClampNeg) :: r) w else no) else no
    | _ => no
  | .laload => match st with
    | .int j :: .ref a :: r => if (wK w a).1 = 23 then (if inB j (wK w a).2 = true then gto y d (pc + 1) ls (.long (gL w a j.toNatClampNeg) :: r) w else no) else no
    | _ => no
  | .daload => match st with
    | .int j :: .ref a :: r => if (wK w a).1 = 24 then (if inB j (wK w a).2 = true then gto y d (pc + 1) ls (.double (gD w a j.toNatClampNeg) :: r) w else no) else no
    | _ => no
  | .aaload => match st with
    | .int j :: .ref a :: r => if isRA (wK w a).1 = true then (if inB j (wK w a).2 = true then gto y d (pc + 1) ls (va_rf (gR w a j.toNatClampNeg) :: r) w else no) else no
    | _ => no
  | .iastore => match st with
    | .int x :: .int j :: .ref a :: r => if (wK w a).1 = 20 then (if inB j (wK w a).2 = true then gto y d (pc + 1) ls r (sI w a j.toNatClampNeg x) else no) else no
    | _ => no
  | .bastore => match st with
    | .int x :: .int j :: .ref a :: r => if (wK w a).1 = 21 then (if inB j (wK w a).2 = true then gto y d (pc + 1) ls r (sI w a j.toNatClampNeg (vp_nar .byte x)) else no)
      else if (wK w a).1 = 22 then (if inB j (wK w a).2 = true then gto y d (pc + 1) ls r (sI w a j.toNatClampNeg (vp_nar .boolean x)) else no) else no
    | _ => no
  | .lastore => match st with
    | .long x :: .int j :: .ref a :: r => if (wK w a).1 = 23 then (if inB j (wK w a).2 = true then gto y d (pc + 1) ls r (sL w a j.toNatClampNeg x) else no) else no
    | _ => no
  | .dastore => match st with
    | .double x :: .int j :: .ref a :: r => if (wK w a).1 = 24 then (if inB j (wK w a).2 = true then gto y d (pc + 1) ls r (sD w a j.toNatClampNeg x) else no) else no
    | _ => no
  | .aastore => match st with
    | .ref b :: .int j :: .ref a :: r => if (wK w a).1 = 25 then (if (wK w b).1 = 3 then (if inB j (wK w a).2 = true then gto y d (pc + 1) ls r (sR w a j.toNatClampNeg (some b)) else no) else no)
      else if (wK w a).1 = 26 then (if (wK w b).1 = 6 then (if inB j (wK w a).2 = true then gto y d (pc + 1) ls r (sR w a j.toNatClampNeg (some b)) else no) else no) else no
    | _ => no
  | .arraylength => match st with
    | .ref a :: r => if isAr (wK w a).1 = true then gto y d (pc + 1) ls (.int (Int32.ofNat (wK w a).2) :: r) w else no
    | _ => no
  | .new _ => match ax with
    | [ci, nf] => gto y d (pc + 3) ls (.ref (wN w) :: st) (nw w ci nf)
    | _ => no
  | .newarray _ => match ax with
    | [t] => match st with
      | .int k :: r => if k < 0 then no else if k.toNatClampNeg ≤ 65536 then gto y d (pc + 2) ls (.ref (wN w) :: r) (nw w t k.toNatClampNeg) else no
      | _ => no
    | _ => no
  | .anewarray _ => match ax with
    | [t] => match st with
      | .int k :: r => if k < 0 then no else if k.toNatClampNeg ≤ 65536 then gto y d (pc + 3) ls (.ref (wN w) :: r) (nw w t k.toNatClampNeg) else no
      | _ => no
    | _ => no
  | .multianewarray _ _ => match st with
    | .int k :: .int j :: r => if k < 0 then no else if j < 0 then no else if k.toNatClampNeg ≤ 65536 then (if j.toNatClampNeg ≤ 65536 then gto y d (pc + 4) ls (.ref (wN w) :: r) (nwm w j.toNatClampNeg k.toNatClampNeg) else no) else no
    | _ => no
  | .ireturn => match ax with
    | [rt] => match st with
      | [.int x] => if narB rt x = true then .inl (some (some (.int x), w)) else no
      | _ => no
    | _ => no
  | .lreturn => match st with
    | [.long x] => .inl (some (some (.long x), w))
    | _ => no
  | .dreturn => match st with
    | [.double x] => .inl (some (some (.double x), w))
    | _ => no
  | .areturn => match st with
    | [.ref a] => .inl (some (some (.ref a), w))
    | [.null] => .inl (some (some .null, w))
    | _ => no
  | .return_ => match st with
    | [] => .inl (some (none, w))
    | _ => no
  | .invokestatic _ => match ax with
    | [c] => pnat y d pc ls st w c
    | [_, y2, na, ci, mx] => pcall y d pc ls st w y2 na ci mx
    | _ => no
  | .invokevirtual _ => match ax with
    | [_, y2, na, ci, mx] => pcall y d pc ls st w y2 na ci mx
    | _ => no
  | .invokespecial _ => match ax with
    | [c] => pnat y d pc ls st w c
    | [_, y2, na, ci, mx] => pcall y d pc ls st w y2 na ci mx
    | _ => no
  | _ => no
