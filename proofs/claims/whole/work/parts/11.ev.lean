/-! THE EVALUATOR: the program's bytecode over a heap that is a function of addresses; what it answers is proved of the machine in 80.. -/
abbrev sC : Type := (FieldType × vp_A) ⊕ (Nat × List Value)
abbrev sH : Type := Nat → Option sC
abbrev sS : Type := sH × Nat × Nat
abbrev sL : Type := List (Option Value)
abbrev sO : Type := (Option Value ⊕ String) × sS
abbrev sG : Type := Nat × sL × List Value × sS
abbrev sR : Type := Option (sG ⊕ sO)
abbrev sV : Type := Nat × (Nat → Value)
def hset (h : sH) (a : Nat) (c : sC) : sH := fun q => if q = a then some c else h q
def lget : sL → Nat → Option Value
  | [], _ => none
  | x :: _, 0 => x
  | _ :: t, i + 1 => lget t i
def ldrop (x : Option Value) : Option Value := match x with
  | some (.long _) => none
  | some (.double _) => none
  | y => y
def lset1 : sL → Nat → Value → sL
  | [], _, _ => []
  | _ :: t, 0, v => some v :: t
  | x :: t, 1, v => ldrop x :: lset1 t 0 v
  | x :: t, i + 2, v => x :: lset1 t (i + 1) v
def lnone : sL → Nat → sL
  | [], _ => []
  | _ :: t, 0 => none :: t
  | x :: t, i + 1 => x :: lnone t i
def lset2 (ls : sL) (i : Nat) (v : Value) : sL := lnone (lset1 ls i v) (i + 1)
def nx (pc : Nat) (ls : sL) (st : List Value) (σ : sS) : sR := some (.inl (pc, ls, st, σ))
def dn (v : Option Value) (σ : sS) : sR := some (.inr (.inl v, σ))
def popN : Nat → List Value → Option (List Value × List Value)
  | 0, st => some ([], st)
  | _ + 1, [] => none
  | n + 1, v :: st => match popN n st with
    | some (as, rest) => some (as ++ [v], rest)
    | none => none
def cats (st : List Value) : Nat := (st.map fun v => v.category).sum
/-- an object's field -/
def gf (h : sH) (a c k : Nat) : Option Value := match h a with
  | some (.inr (c', fs)) => if c' = c then fs[k]? else none
  | _ => none
def isO (h : sH) (a c : Nat) : Prop := ∃ fs, h a = some (.inr (c, fs))
def isOb (h : sH) (a c : Nat) : Bool := match h a with
  | some (.inr (c', _)) => decide (c' = c)
  | _ => false
def pf (h : sH) (a c k : Nat) (v : Value) : Option sH := match h a with
  | some (.inr (c', fs)) => if c' = c ∧ k < fs.length then some (hset h a (.inr (c, fs.set k v))) else none
  | _ => none
def sNar (ty : FieldType) (x : Int32) : Int32 := match ty with
  | .int => x
  | t => vp_nar t x
def aldI (ty : FieldType) (h : sH) (a : Nat) (i : Int32) : Option Value := match h a with
  | some (.inl (t, (n, .inl f))) => if t = ty then (if i < 0 ∨ n ≤ i.toNatClampNeg then none else some (.int (f i.toNatClampNeg))) else none
  | _ => none
def astI (ty : FieldType) (h : sH) (a : Nat) (i x : Int32) : Option sH := match h a with
  | some (.inl (t, (n, .inl f))) => if t = ty then (if i < 0 ∨ n ≤ i.toNatClampNeg then none else some (hset h a (.inl (t, (n, .inl (upd f i.toNatClampNeg (sNar ty x))))))) else none
  | _ => none
def aldL (h : sH) (a : Nat) (i : Int32) : Option Value := match h a with
  | some (.inl (t, (n, .inr (.inl f)))) => if t = .long then (if i < 0 ∨ n ≤ i.toNatClampNeg then none else some (.long (f i.toNatClampNeg))) else none
  | _ => none
def astL (h : sH) (a : Nat) (i : Int32) (x : Int64) : Option sH := match h a with
  | some (.inl (t, (n, .inr (.inl f)))) => if t = .long then (if i < 0 ∨ n ≤ i.toNatClampNeg then none else some (hset h a (.inl (t, (n, .inr (.inl (vp_updL f i.toNatClampNeg x))))))) else none
  | _ => none
def aldD (h : sH) (a : Nat) (i : Int32) : Option Value := match h a with
  | some (.inl (t, (n, .inr (.inr (.inr (.inl f)))))) => if t = .double then (if i < 0 ∨ n ≤ i.toNatClampNeg then none else some (.double (f i.toNatClampNeg))) else none
  | _ => none
def astD (h : sH) (a : Nat) (i : Int32) (x : UInt64) : Option sH := match h a with
  | some (.inl (t, (n, .inr (.inr (.inr (.inl f)))))) => if t = .double then (if i < 0 ∨ n ≤ i.toNatClampNeg then none else some (hset h a (.inl (t, (n, .inr (.inr (.inr (.inl (vf_upd f i.toNatClampNeg x)))))))) ) else none
  | _ => none
def aldR (h : sH) (a : Nat) (i : Int32) : Option Value := match h a with
  | some (.inl (.object _, (n, .inr (.inr (.inr (.inr f)))))) => if i < 0 ∨ n ≤ i.toNatClampNeg then none else some (va_rf (f i.toNatClampNeg))
  | _ => none
/-- a reference of class c into an array of that class -/
def astR (h : sH) (a : Nat) (i : Int32) (v : Nat) : Option sH := match h a, h v with
  | some (.inl (t, (n, .inr (.inr (.inr (.inr f)))))), some (.inr (c, _)) => match gC[c]? with
    | some q => if t = .object q.1 then (if i < 0 ∨ n ≤ i.toNatClampNeg then none else some (hset h a (.inl (t, (n, .inr (.inr (.inr (.inr (va_up f i.toNatClampNeg (some v)))))))))) else none
    | none => none
  | _, _ => none
def alen (h : sH) (a : Nat) : Option Int32 := match h a with
  | some (.inl (_, x)) => some (Int32.ofNat x.1)
  | _ => none
/-- System.arraycopy between two arrays of numbers -/
def acpy (h : sH) (a0 : Nat) (sp : Int32) (a : Nat) (dp n : Int32) : Option sH := match h a0, h a with
  | some (.inl (t0, (n0, .inl f))), some (.inl (t1, (n1, .inl g))) =>
    if t0 = t1 ∧ refKind t0 = false ∧ a0 ≠ a ∧ ¬ sp < 0 ∧ ¬ dp < 0 ∧ ¬ n < 0 ∧ sp.toNatClampNeg + n.toNatClampNeg ≤ n0 ∧ dp.toNatClampNeg + n.toNatClampNeg ≤ n1 ∧ ((List.range n.toNatClampNeg).all fun i => fits t0 (.int (f (sp.toNatClampNeg + i)))) = true then
      some (hset h a (.inl (t1, (n1, .inl (va_cpy f g sp.toNatClampNeg dp.toNatClampNeg n.toNatClampNeg))))) else none
  | _, _ => none
def zarr (ty : FieldType) (n : Nat) : Option vp_A := match ty with
  | .int | .boolean | .char | .byte => some (n, .inl (fun _ => 0))
  | .long => some (n, .inr (.inl (fun _ => 0)))
  | .double => some (n, .inr (.inr (.inr (.inl (fun _ => 0)))))
  | _ => none
/-- a new object's fields -/
def gDef (ci : Nat) : Option (List Value) := match gC[ci]?, gY[ci]? with
  | some q, some y => some ((List.range q.2.2).map (fun k => defaultValue (y k)))
  | _, _ => none
/-- may a field be written: not final, or by a constructor of the class that declares it -/
def pfOk (r : gM) (ci k : Nat) (v : Value) : Bool := match gC[ci]?, gY[ci]? with
  | some q, some y => decide (ci < 10) && decide (k < q.2.2) && decide (narrow (y k) v = v) && fits (y k) v && (!(q.2.1 k).2.2.2 || (decide (r.1.name = "<init>") && decide ((q.2.1 k).1 = r.1.cls)))
  | _, _ => false
def tg (pc : Nat) (off : Int) : Nat := ((pc : Int) + off).toNat
def jp (pc : Nat) (off : Int) (ls : sL) (st : List Value) (σ : sS) : sR := if 0 ≤ (pc : Int) + off then nx (tg pc off) ls st σ else none
def sHnd : List (Nat × Nat × Nat × Nat × String) → Nat → String → Option Nat
  | [], _, _ => none
  | x :: t, pc, E => if x.1 ≤ pc ∧ pc < x.2.1 then (if x.2.2.2.2 = E then some x.2.2.1 else sHnd t pc E) else sHnd t pc E
/-- behind a call -/
def sRet (r : gM) (pc : Nat) (ls : sL) (rest : List Value) (o : Option sO) : sR := match o with
  | none => none
  | some (.inl v, σ) => nx (pc + 3) ls (v.toList ++ rest) σ
  | some (.inr E, σ) => if r.2.2.2.2.2 = [] then some (.inr (.inr E, σ)) else match sHnd r.2.2.2.2.2 pc E with
    | none => none
    | some hp => match decode r.2.1 hp with
      | .ok (.astore k, len) => if len = 2 ∧ k < ls.length then nx (hp + 2) (lnone (lset1 ls k .null) k) [] σ else none
      | .ok (.astore_n k, len) => if len = 1 ∧ (k : Nat) < ls.length then nx (hp + 1) (lnone (lset1 ls k .null) k) [] σ else none
      | _ => none
/-- behind a call that may only return -/
def sRet2 (pc : Nat) (ls : sL) (rest : List Value) (o : Option sO) : sR := match o with
  | some (.inl v, σ) => nx (pc + 3) ls (v.toList ++ rest) σ
  | _ => none
def sInv (call : Nat → List Value → sS → Option sO) (r : gM) (pc : Nat) (ls : sL) (st : List Value) (σ : sS) (inst thr : Bool) (t : Nat × Nat × Nat × Nat) : sR := match popN t.2.2.2 st with
  | none => none
  | some (as, rest) => if inst then (match rest with
      | .ref b :: rest' => if cats rest' ≤ 8 ∧ (t.2.1 = 2 ∨ t.2.1 = 4 ∨ isOb σ.1 b t.2.2.1 = true) then (if thr then sRet r pc ls rest' (call t.1 (.ref b :: as) σ) else sRet2 pc ls rest' (call t.1 (.ref b :: as) σ)) else none
      | _ => none)
    else (if cats rest ≤ 8 then (if thr then sRet r pc ls rest (call t.1 as σ) else sRet2 pc ls rest (call t.1 as σ)) else none)
def ld1 (pc len : Nat) (ls : sL) (i : Nat) (st : List Value) (σ : sS) (ok : Value → Bool) : sR := match lget ls i with
  | some v => if ok v then nx (pc + len) ls (v :: st) σ else none
  | none => none
def vI (v : Value) : Bool := match v with | .int _ => true | _ => false
def vL (v : Value) : Bool := match v with | .long _ => true | _ => false
def vD (v : Value) : Bool := match v with | .double _ => true | _ => false
def vA (v : Value) : Bool := match v with | .ref _ => true | .null => true | _ => false
def st1 (pc len : Nat) (ls : sL) (i : Nat) (st : List Value) (σ : sS) (ok : Value → Bool) : sR := match st with
  | v :: rest => if ok v ∧ i < ls.length then nx (pc + len) (lset1 ls i v) rest σ else none
  | [] => none
def st2 (pc len : Nat) (ls : sL) (i : Nat) (st : List Value) (σ : sS) (ok : Value → Bool) : sR := match st with
  | v :: rest => if ok v ∧ i + 1 < ls.length then nx (pc + len) (lset2 ls i v) rest σ else none
  | [] => none
def up1 (pc len : Nat) (ls : sL) (rest : List Value) (σ : sS) (v : Option Value) : sR := match v with
  | some v => nx (pc + len) ls (v :: rest) σ
  | none => none
def uph (E : sV) (a : Nat) (pc len : Nat) (ls : sL) (rest : List Value) (σ : sS) (h : Option sH) : sR := match h with
  | some h => if E.1 ≤ a then nx (pc + len) ls rest (h, σ.2) else none
  | none => none
def bIf (pc : Nat) (off : Int) (ls : sL) (rest : List Value) (σ : sS) (P : Prop) [Decidable P] : sR := if 0 ≤ (pc : Int) + off then (if P then nx (tg pc off) ls rest σ else nx (pc + 3) ls rest σ) else none
def sIf (cd : ClassFile.Cond) (pc : Nat) (off : Int) (ls : sL) (rest : List Value) (σ : sS) (x y : Int32) : sR := match cd with
  | .eq => bIf pc off ls rest σ (x = y)
  | .ne => bIf pc off ls rest σ (¬ x = y)
  | .lt => bIf pc off ls rest σ (x < y)
  | .ge => bIf pc off ls rest σ (y ≤ x)
  | .gt => bIf pc off ls rest σ (y < x)
  | .le => bIf pc off ls rest σ (x ≤ y)
def c1 (v : Value) : Bool := decide (v.category = 1)
/-- one instruction -/
def stp (E : sV) (call : Nat → List Value → sS → Option sO) (r : gM) (i : Instr) (len : Nat) (pc : Nat) (ls : sL) (st : List Value) (σ : sS) : sR := match i with
  | .iconst n => nx (pc + 1) ls (.int (Int32.ofInt n) :: st) σ
  | .bipush n => nx (pc + 2) ls (.int (Int8.ofInt n).toInt32 :: st) σ
  | .sipush n => nx (pc + 3) ls (.int (Int16.ofInt n).toInt32 :: st) σ
  | .lconst n => nx (pc + 1) ls (.long (Int64.ofNat (n : Nat)) :: st) σ
  | .dconst n => if n = 0 then nx (pc + 1) ls (.double FP.dconst0 :: st) σ else none
  | .aconst_null => nx (pc + 1) ls (.null :: st) σ
  | .iload_n k => ld1 pc 1 ls k st σ vI
  | .iload k => ld1 pc 2 ls k st σ vI
  | .lload_n k => ld1 pc 1 ls k st σ vL
  | .lload k => ld1 pc 2 ls k st σ vL
  | .dload_n k => ld1 pc 1 ls k st σ vD
  | .dload k => ld1 pc 2 ls k st σ vD
  | .aload_n k => ld1 pc 1 ls k st σ vA
  | .aload k => ld1 pc 2 ls k st σ vA
  | .istore_n k => st1 pc 1 ls k st σ vI
  | .istore k => st1 pc 2 ls k st σ vI
  | .astore_n k => st1 pc 1 ls k st σ vA
  | .astore k => st1 pc 2 ls k st σ vA
  | .lstore_n k => st2 pc 1 ls k st σ vL
  | .lstore k => st2 pc 2 ls k st σ vL
  | .dstore_n k => st2 pc 1 ls k st σ vD
  | .dstore k => st2 pc 2 ls k st σ vD
  | .iinc k n => (match lget ls k with
    | some (.int x) => if k < ls.length then nx (pc + 3) (lset1 ls k (.int (x + Int32.ofInt n))) st σ else none
    | _ => none)
  | .iadd => (match st with | .int y :: .int x :: t => nx (pc + 1) ls (.int (x + y) :: t) σ | _ => none)
  | .isub => (match st with | .int y :: .int x :: t => nx (pc + 1) ls (.int (x - y) :: t) σ | _ => none)
  | .imul => (match st with | .int y :: .int x :: t => nx (pc + 1) ls (.int (x * y) :: t) σ | _ => none)
  | .idiv => (match st with | .int y :: .int x :: t => if y = 0 then none else nx (pc + 1) ls (.int (x / y) :: t) σ | _ => none)
  | .irem => (match st with | .int y :: .int x :: t => if y = 0 then none else nx (pc + 1) ls (.int (x - x / y * y) :: t) σ | _ => none)
  | .iand => (match st with | .int y :: .int x :: t => nx (pc + 1) ls (.int (x &&& y) :: t) σ | _ => none)
  | .ior => (match st with | .int y :: .int x :: t => nx (pc + 1) ls (.int (x ||| y) :: t) σ | _ => none)
  | .ishl => (match st with | .int y :: .int x :: t => nx (pc + 1) ls (.int (x <<< (y &&& 31)) :: t) σ | _ => none)
  | .ishr => (match st with | .int y :: .int x :: t => nx (pc + 1) ls (.int (x >>> (y &&& 31)) :: t) σ | _ => none)
  | .ineg => (match st with | .int x :: t => nx (pc + 1) ls (.int (-x) :: t) σ | _ => none)
  | .ladd => (match st with | .long y :: .long x :: t => nx (pc + 1) ls (.long (x + y) :: t) σ | _ => none)
  | .lsub => (match st with | .long y :: .long x :: t => nx (pc + 1) ls (.long (x - y) :: t) σ | _ => none)
  | .lmul => (match st with | .long y :: .long x :: t => nx (pc + 1) ls (.long (x * y) :: t) σ | _ => none)
  | .lcmp => (match st with | .long y :: .long x :: t => nx (pc + 1) ls (.int (lg_cmp x y) :: t) σ | _ => none)
  | .i2l => (match st with | .int x :: t => nx (pc + 1) ls (.long x.toInt64 :: t) σ | _ => none)
  | .i2c => (match st with | .int x :: t => nx (pc + 1) ls (.int (x.toUInt32 % 65536).toInt32 :: t) σ | _ => none)
  | .i2b => (match st with | .int x :: t => nx (pc + 1) ls (.int x.toInt8.toInt32 :: t) σ | _ => none)
  | .i2d => (match st with | .int x :: t => nx (pc + 1) ls (.double (FP.i2d x) :: t) σ | _ => none)
  | .i2f => (match st with | .int x :: t => nx (pc + 1) ls (.float (FP.i2f x) :: t) σ | _ => none)
  | .l2d => (match st with | .long x :: t => nx (pc + 1) ls (.double (FP.l2d x) :: t) σ | _ => none)
  | .f2d => (match st with | .float x :: t => if FP.f2d x &&& 0x7fffffffffffffff ≤ 0x7ff0000000000000 then nx (pc + 1) ls (.double (FP.f2d x) :: t) σ else none | _ => none)
  | .fdiv => (match st with | .float y :: .float x :: t => if FP.fdiv x y &&& 0x7fffffff ≤ 0x7f800000 then nx (pc + 1) ls (.float (FP.fdiv x y) :: t) σ else none | _ => none)
  | .ddiv => (match st with | .double y :: .double x :: t => if FP.ddiv x y &&& 0x7fffffffffffffff ≤ 0x7ff0000000000000 then nx (pc + 1) ls (.double (FP.ddiv x y) :: t) σ else none | _ => none)
  | .dcmp op => (match st with | .double y :: .double x :: t => nx (pc + 1) ls (.int (Op.cmpValue (FP.dcmp x y) op) :: t) σ | _ => none)
  | .dup => (match st with | v :: t => if c1 v then nx (pc + 1) ls (v :: v :: t) σ else none | _ => none)
  | .dup_x1 => (match st with | v :: u :: t => if c1 v && c1 u then nx (pc + 1) ls (v :: u :: v :: t) σ else none | _ => none)
  | .dup2 => (match st with | v :: u :: t => if c1 v && c1 u then nx (pc + 1) ls (v :: u :: v :: u :: t) σ else none | _ => none)
  | .pop => (match st with | v :: t => if c1 v then nx (pc + 1) ls t σ else none | _ => none)
  | .goto off => jp pc off ls st σ
  | .ifCond cd off => (match st with | .int x :: t => sIf cd pc off ls t σ x 0 | _ => none)
  | .if_icmp cd off => (match st with | .int y :: .int x :: t => sIf cd pc off ls t σ x y | _ => none)
  | .if_acmp cd off => (match cd, st with
    | .eq, .ref y :: .ref x :: t => bIf pc off ls t σ (x = y)
    | _, _ => none)
  | .ifnull off => (match st with | .ref _ :: t => nx (pc + 3) ls t σ | .null :: t => jp pc off ls t σ | _ => none)
  | .ifnonnull off => (match st with | .ref _ :: t => jp pc off ls t σ | .null :: t => nx (pc + 3) ls t σ | _ => none)
  | .tableswitch d lo hi offs => (match st with
    | .int x :: t => if x.toInt < lo ∨ hi < x.toInt then jp pc d ls t σ else (match offs[(x.toInt - lo).toNat]? with | some off => jp pc off ls t σ | none => none)
    | _ => none)
  | .getfield i => (match st, LKf r.2.2.2.2.1 i with
    | .ref a :: t, some (c, k) => up1 pc 3 ls t σ (gf σ.1 a c k)
    | _, _ => none)
  | .putfield i => (match st, LKf r.2.2.2.2.1 i with
    | v :: .ref a :: t, some (c, k) => if pfOk r c k v then uph E a pc 3 ls t σ (pf σ.1 a c k v) else none
    | _, _ => none)
  | .getstatic i => (match LKs r.2.2.2.2.1 i with | some si => nx (pc + 3) ls (E.2 si :: st) σ | none => none)
  | .ldc i => (match LKk r.2.2.2.2.1 i with
    | some (.int x) => nx (pc + 2) ls (.int x :: st) σ
    | some (.float x) => nx (pc + 2) ls (.float x :: st) σ
    | _ => none)
  | .ldc_w i => (match LKt r.2.2.2.2.1 i with | some si => nx (pc + 3) ls (E.2 si :: st) σ | none => none)
  | .ldc2_w i => (match LKk r.2.2.2.2.1 i with | some (.long x) => nx (pc + 3) ls (.long x :: st) σ | _ => none)
  | .iaload => (match st with | .int i :: .ref a :: t => up1 pc 1 ls t σ (aldI .int σ.1 a i) | _ => none)
  | .caload => (match st with | .int i :: .ref a :: t => up1 pc 1 ls t σ (aldI .char σ.1 a i) | _ => none)
  | .baload => (match st with | .int i :: .ref a :: t => up1 pc 1 ls t σ ((aldI .byte σ.1 a i).or (aldI .boolean σ.1 a i)) | _ => none)
  | .laload => (match st with | .int i :: .ref a :: t => up1 pc 1 ls t σ (aldL σ.1 a i) | _ => none)
  | .daload => (match st with | .int i :: .ref a :: t => up1 pc 1 ls t σ (aldD σ.1 a i) | _ => none)
  | .aaload => (match st with | .int i :: .ref a :: t => up1 pc 1 ls t σ (aldR σ.1 a i) | _ => none)
  | .iastore => (match st with | .int x :: .int i :: .ref a :: t => uph E a pc 1 ls t σ (astI .int σ.1 a i x) | _ => none)
  | .castore => (match st with | .int x :: .int i :: .ref a :: t => uph E a pc 1 ls t σ (astI .char σ.1 a i x) | _ => none)
  | .bastore => (match st with | .int x :: .int i :: .ref a :: t => uph E a pc 1 ls t σ ((astI .byte σ.1 a i x).or (astI .boolean σ.1 a i x)) | _ => none)
  | .lastore => (match st with | .long x :: .int i :: .ref a :: t => uph E a pc 1 ls t σ (astL σ.1 a i x) | _ => none)
  | .dastore => (match st with | .double x :: .int i :: .ref a :: t => uph E a pc 1 ls t σ (astD σ.1 a i x) | _ => none)
  | .aastore => (match st with | .ref v :: .int i :: .ref a :: t => uph E a pc 1 ls t σ (astR σ.1 a i v) | _ => none)
  | .arraylength => (match st with | .ref a :: t => (match alen σ.1 a with | some n => nx (pc + 1) ls (.int n :: t) σ | none => none) | _ => none)
  | .newarray ty => (match st, zarr (newarray.typeOf ty) (match st with | .int n :: _ => n.toNatClampNeg | _ => 0) with
    | .int n :: t, some x => if n < 0 ∨ 536870912 < n.toNatClampNeg * componentBytes (newarray.typeOf ty) then none else
        nx (pc + 2) ls (.ref σ.2.1 :: t) (hset σ.1 σ.2.1 (.inl (newarray.typeOf ty, x)), σ.2.1 + 1, σ.2.2 + n.toNatClampNeg)
    | _, _ => none)
  | .anewarray i => (match st, LKa r.2.2.2.2.1 i with
    | .int n :: t, some ci => (match gC[ci]? with
      | some q => if n < 0 ∨ 536870912 < n.toNatClampNeg * 4 then none else
        nx (pc + 3) ls (.ref σ.2.1 :: t) (hset σ.1 σ.2.1 (.inl (.object q.1, (n.toNatClampNeg, .inr (.inr (.inr (.inr (fun _ => none))))))), σ.2.1 + 1, σ.2.2 + n.toNatClampNeg)
      | none => none)
    | _, _ => none)
  | .new i => (match LKc r.2.2.2.2.1 i with
    | some ci => (match gDef ci, gC[ci]? with
      | some fs, some q => nx (pc + 3) ls (.ref σ.2.1 :: st) (hset σ.1 σ.2.1 (.inr (ci, fs)), σ.2.1 + 1, σ.2.2 + q.2.2)
      | _, _ => none)
    | none => (match LKx r.2.2.2.2.1 i with
      | some (cls, ic) => if r.2.2.2.2.2 = [] ∧ cats st ≤ 8 ∧ decode r.2.1 (pc + 3) = .ok (.dup, 1) ∧ decode r.2.1 (pc + 4) = .ok (.invokespecial ic, 3) ∧ decode r.2.1 (pc + 7) = .ok (.athrow, 1) then
          some (.inr (.inr cls, (σ.1, σ.2.1 + 1, σ.2.2 + 6))) else none
      | none => none))
  | .invokevirtual i => (match LKm r.2.2.2.2.1 i with
    | some t => if t.2.1 = 0 then sInv call r pc ls st σ true true t else if t.2.1 = 5 then sInv call r pc ls st σ true false t else none
    | none => none)
  | .invokespecial i => (match LKo r.2.2.2.2.1 i with
    | some _ => (match st with
      | .ref _ :: t => if cats t ≤ 8 then nx (pc + 3) ls t σ else none
      | _ => none)
    | none => (match LKm r.2.2.2.2.1 i with
      | some t => if t.2.1 = 2 ∨ t.2.1 = 4 ∨ t.2.1 = 6 then sInv call r pc ls st σ true false t else none
      | none => none))
  | .invokestatic i => (match LKm r.2.2.2.2.1 i with
    | some t => if t.2.1 = 1 then sInv call r pc ls st σ false true t else if t.2.1 = 3 then sInv call r pc ls st σ false false t else none
    | none => (match LKh r.2.2.2.2.1 i with
      | some k => (match k, st with
        | 0, .int x :: t => if cats t ≤ 8 then nx (pc + 3) ls (.int (if 0 ≤ x then x else 0 - x) :: t) σ else none
        | 1, .int y :: .int x :: t => if cats t ≤ 8 then nx (pc + 3) ls (.int (if x < y then y else x) :: t) σ else none
        | 2, .int y :: .int x :: t => if cats t ≤ 8 then nx (pc + 3) ls (.int (if y < x then y else x) :: t) σ else none
        | _, _ => none)
      | none => (match LKy r.2.2.2.2.1 i, st with
        | some _, .int n :: .int dp :: .ref a :: .int sp :: .ref a0 :: t => if cats t ≤ 8 then uph E a pc 3 ls t σ (acpy σ.1 a0 sp a dp n) else none
        | _, _ => none)))
  | .ireturn => (match st, r.2.2.2.1 with
    | [.int v], some ty => if narrow ty (.int v) = .int v then dn (some (.int v)) σ else none
    | _, _ => none)
  | .lreturn => (match st, r.2.2.2.1 with
    | [.long v], some .long => dn (some (.long v)) σ
    | _, _ => none)
  | .freturn => (match st, r.2.2.2.1 with
    | [.float v], some .float => dn (some (.float v)) σ
    | _, _ => none)
  | .dreturn => (match st, r.2.2.2.1 with
    | [.double v], some .double => dn (some (.double v)) σ
    | _, _ => none)
  | .areturn => (match st, r.2.2.2.1 with
    | [v], some (.object _) => if vA v then dn (some v) σ else none
    | [v], some (.array _) => if vA v then dn (some v) σ else none
    | _, _ => none)
  | .return_ => (match st, r.2.2.2.1 with
    | [], none => dn none σ
    | _, _ => none)
  | _ => none
def sLen (i : Instr) (len : Nat) : Bool := match i with
  | .bipush _ | .iload _ | .lload _ | .dload _ | .aload _ | .istore _ | .astore _ | .lstore _ | .dstore _ | .ldc _ | .newarray _ => len == 2
  | .sipush _ | .iinc _ _ | .goto _ | .ifCond _ _ | .if_icmp _ _ | .if_acmp _ _ | .ifnull _ | .ifnonnull _ | .getfield _ | .putfield _ | .getstatic _ | .ldc_w _ | .ldc2_w _ | .anewarray _ | .new _ | .invokevirtual _ | .invokespecial _ | .invokestatic _ => len == 3
  | .tableswitch _ _ _ _ => true
  | _ => len == 1
def step (E : sV) (call : Nat → List Value → sS → Option sO) (mi : Nat) (c : sG) : sR := match gMT mi with
  | none => none
  | some r => match decode r.2.1 c.1 with
    | .ok (i, len) => if sLen i len then stp E call r i len c.1 c.2.1 c.2.2.1 c.2.2.2 else none
    | _ => none
def runF (E : sV) (call : Nat → List Value → sS → Option sO) (mi : Nat) : Nat → sG → Option sO
  | 0, _ => none
  | n + 1, c => match step E call mi c with
    | none => none
    | some (.inl c') => runF E call mi n c'
    | some (.inr o) => some o
theorem runF_mono (E : sV) (call : Nat → List Value → sS → Option sO) (mi : Nat) : ∀ (n : Nat) (c : sG) (o : sO), runF E call mi n c = some o → runF E call mi (n + 1) c = some o := by
  intro n
  induction n with
  | zero => intro c o h; simp [runF] at h
  | succ n ih =>
    intro c o h
    rw [runF] at h ⊢
    cases hs : step E call mi c with
    | none => rw [hs] at h; simp at h
    | some x =>
      rw [hs] at h
      cases x with
      | inl c' => exact ih c' o h
      | inr o' => exact h
theorem runF_le (E : sV) (call : Nat → List Value → sS → Option sO) (mi : Nat) (c : sG) (o : sO) {n m : Nat} (h : n ≤ m) (hr : runF E call mi n c = some o) : runF E call mi m c = some o := by
  induction h with
  | refl => exact hr
  | step _ ih => exact runF_mono E call mi _ c o ih
noncomputable def slim (f : Nat → Option sO) : Option sO := @dite (Option sO) (∃ n o, f n = some o) (Classical.propDecidable _) (fun h => f (Classical.choose h)) (fun _ => none)
/-- the run of a method from a point on, over callees call -/
noncomputable def Rn (E : sV) (call : Nat → List Value → sS → Option sO) (mi : Nat) (c : sG) : Option sO := slim (fun n => runF E call mi n c)
theorem Rn_some {E : sV} {call : Nat → List Value → sS → Option sO} {mi : Nat} {c : sG} {o : sO} : Rn E call mi c = some o ↔ ∃ n, runF E call mi n c = some o := by
  constructor
  · intro h
    unfold Rn slim at h
    split at h
    · exact ⟨_, h⟩
    · cases h
  · rintro ⟨n, hn⟩
    have hx : ∃ n o, runF E call mi n c = some o := ⟨n, o, hn⟩
    unfold Rn slim
    rw [dif_pos hx]
    obtain ⟨o', ho'⟩ := Classical.choose_spec hx
    have h1 := runF_le E call mi c o (Nat.le_max_left n (Classical.choose hx)) hn
    have h2 := runF_le E call mi c o' (Nat.le_max_right n (Classical.choose hx)) ho'
    show runF E call mi (Classical.choose hx) c = some o
    rw [ho', ← h2, h1]
theorem Rn_step (E : sV) (call : Nat → List Value → sS → Option sO) (mi : Nat) (c : sG) : Rn E call mi c = match step E call mi c with
    | none => none
    | some (.inl c') => Rn E call mi c'
    | some (.inr o) => some o := by
  cases h : Rn E call mi c with
  | some o =>
    obtain ⟨n, hn⟩ := Rn_some.mp h
    cases n with
    | zero => simp [runF] at hn
    | succ n =>
      rw [runF] at hn
      cases hs : step E call mi c with
      | none => rw [hs] at hn; simp at hn
      | some x =>
        rw [hs] at hn
        cases x with
        | inl c' => exact (Rn_some.mpr ⟨n, hn⟩).symm
        | inr o' => exact hn.symm
  | none =>
    have hno : ∀ n o, runF E call mi n c ≠ some o := fun n o q => by
      have := Rn_some.mpr ⟨n, q⟩
      rw [h] at this; cases this
    cases hs : step E call mi c with
    | none => rfl
    | some x =>
      cases x with
      | inl c' =>
        show none = Rn E call mi c'
        cases h2 : Rn E call mi c' with
        | none => rfl
        | some o =>
          obtain ⟨n, hn⟩ := Rn_some.mp h2
          exact absurd (show runF E call mi (n + 1) c = some o by rw [runF, hs]; exact hn) (hno _ _)
      | inr o => exact absurd (show runF E call mi 1 c = some o by rw [runF, hs]) (hno _ _)
def lpad (n : Nat) (vs : List Value) : sL := (vs.flatMap fun v => if v.category = 2 then [some v, none] else [some v]) ++ List.replicate (n - (lg_sl vs).length) none
/-- a method at call depth d: what it answers to arguments (the receiver first) over a state -/
noncomputable def Mt (E : sV) : Nat → Nat → List Value → sS → Option sO
  | 0, _, _, _ => none
  | d + 1, mi, as, σ => match gMT mi with
    | none => none
    | some r => if (lg_sl as).length ≤ r.2.2.1 then Rn E (Mt E d) mi (0, lpad r.2.2.1 as, [], σ) else none
