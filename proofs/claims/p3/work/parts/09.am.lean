/-! AN ABSTRACT MACHINE for the class, the reference and the law: references are numbers of cells, 'float u' and 'double u' stand for an int and a long that aren't known. It is sound for the model's machine (next part). -/
abbrev aC := Bool × Nat × List Value
abbrev aH := List (Option aC)
abbrev aL := List (Nat × Value)
abbrev aR := (Option Value ⊕ Nat) × aH × Nat × Nat
abbrev aN := Nat × aL × List Value × aH × Nat × Nat
/-- the script; what is known of symbols: results, comparisons -/
abbrev aX := List Value × List (Instr × Value × Value × Value) × List (ClassFile.Cond × Value × Value × Bool)
abbrev aE := (Nat → Nat) × (Nat → Int32) × (Nat → Int64)
def am_tv (E : aE) : Value → Value
  | .ref k => .ref (E.1 k)
  | .float u => .int (E.2.1 u.toNat)
  | .double u => .long (E.2.2 u.toNat)
  | v => v
def am_isI : Value → Bool
  | .int _ => true
  | .float _ => true
  | _ => false
def am_isL : Value → Bool
  | .long _ => true
  | .double _ => true
  | _ => false
def am_isR : Value → Bool
  | .ref _ => true
  | _ => false
def am_look {α : Type} : List (Nat × α) → Nat → Option α
  | [], _ => none
  | a :: t, k => match Nat.beq a.1 k with
    | true => some a.2
    | false => am_look t k
def am_look2 {α : Type} : List (Nat × Nat × α) → Nat → Nat → Option α
  | [], _, _ => none
  | a :: t, o, k => match Nat.beq a.1 o && Nat.beq a.2.1 k with
    | true => some a.2.2
    | false => am_look2 t o k
def am_ilen : Instr → Nat
  | .bipush _ => 2
  | .sipush _ => 3
  | .iload _ => 2
  | .aload _ => 2
  | .istore _ => 2
  | .astore _ => 2
  | .ldc _ => 2
  | .newarray _ => 2
  | .iinc _ _ => 3
  | .ifCond _ _ => 3
  | .if_icmp _ _ => 3
  | .goto _ => 3
  | .getfield _ => 3
  | .putfield _ => 3
  | .new _ => 3
  | .anewarray _ => 3
  | .ldc2_w _ => 3
  | .invokestatic _ => 3
  | .invokevirtual _ => 3
  | .invokespecial _ => 3
  | _ => 1
-- the operand stack alone
def am_ii (f : Int32 → Int32 → Int32) : List Value → Option (List Value)
  | .int y :: .int x :: S => some (.int (f x y) :: S)
  | _ => none
def am_ll (f : Int64 → Int64 → Int64) : List Value → Option (List Value)
  | .long y :: .long x :: S => some (.long (f x y) :: S)
  | _ => none
def am_li (f : Int64 → Int32 → Int64) : List Value → Option (List Value)
  | .int y :: .long x :: S => some (.long (f x y) :: S)
  | _ => none
def am_neg : List Value → Option (List Value)
  | .int x :: S => some (.int (-x) :: S)
  | _ => none
def am_i2l : List Value → Option (List Value)
  | .int x :: S => some (.long x.toInt64 :: S)
  | _ => none
def am_l2i : List Value → Option (List Value)
  | .long x :: S => some (.int x.toInt32 :: S)
  | _ => none
def am_lcmp : List Value → Option (List Value)
  | .long y :: .long x :: S => some (.int (lg_cmp x y) :: S)
  | _ => none
def am_dup : List Value → Option (List Value)
  | v :: S => match Nat.beq v.category 1 with
    | true => some (v :: v :: S)
    | false => none
  | _ => none
def am_pop : List Value → Option (List Value)
  | v :: S => match Nat.beq v.category 1 with
    | true => some S
    | false => none
  | _ => none
def am_dup2 : List Value → Option (List Value)
  | v :: u :: S => match Nat.beq v.category 1 && Nat.beq u.category 1 with
    | true => some (v :: u :: v :: u :: S)
    | false => none
  | _ => none
def am_pure (i : Instr) (S : List Value) : Option (List Value) := match i with
  | .iconst n => some (.int (Int32.ofInt n) :: S)
  | .bipush n => some (.int (Int8.ofInt n).toInt32 :: S)
  | .sipush n => some (.int (Int16.ofInt n).toInt32 :: S)
  | .iadd => am_ii (fun x y => x + y) S
  | .isub => am_ii (fun x y => x - y) S
  | .imul => am_ii (fun x y => x * y) S
  | .iand => am_ii (fun x y => x &&& y) S
  | .ior => am_ii (fun x y => x ||| y) S
  | .ishl => am_ii (fun x y => x <<< (y &&& 31)) S
  | .ishr => am_ii (fun x y => x >>> (y &&& 31)) S
  | .ineg => am_neg S
  | .i2l => am_i2l S
  | .l2i => am_l2i S
  | .land => am_ll (fun x y => x &&& y) S
  | .lor => am_ll (fun x y => x ||| y) S
  | .lshl => am_li (fun x y => x <<< (y.toInt64 &&& 63)) S
  | .lshr => am_li (fun x y => x >>> (y.toInt64 &&& 63)) S
  | .lcmp => am_lcmp S
  | .dup => am_dup S
  | .pop => am_pop S
  | .dup2 => am_dup2 S
  | _ => none
-- loads and stores of local variables
def am_chk (p : Value → Bool) : Option Value → Option Value
  | some v => match p v with
    | true => some v
    | false => none
  | none => none
def am_ld (i : Instr) (L : aL) : Option Value := match i with
  | .iload k => am_chk am_isI (am_look L k)
  | .iload_n k => am_chk am_isI (am_look L k.val)
  | .aload k => am_chk am_isR (am_look L k)
  | .aload_n k => am_chk am_isR (am_look L k.val)
  | .lload_n k => am_chk am_isL (am_look L k.val)
  | _ => none
def am_put (L : aL) (i : Nat) (v : Value) : aL := (i, v) :: L.filter (fun q => !(q.1 == i) && !(q.1 + 1 == i && q.2.category == 2))
def am_hd (p : Value → Bool) (k : Nat) : List Value → Option (Nat × Value × List Value)
  | v :: S => match p v with
    | true => some (k, v, S)
    | false => none
  | [] => none
def am_inc (k : Nat) (n : Int) (S : List Value) : Option Value → Option (Nat × Value × List Value)
  | some (.int x) => some (k, .int (x + Int32.ofInt n), S)
  | _ => none
def am_sto (i : Instr) (L : aL) (S : List Value) : Option (Nat × Value × List Value) := match i with
  | .istore k => am_hd am_isI k S
  | .istore_n k => am_hd am_isI k.val S
  | .astore k => am_hd am_isR k S
  | .astore_n k => am_hd am_isR k.val S
  | .iinc k n => am_inc k n S (am_look L k)
  | _ => none
-- branches
def am_tgt (pc : Nat) (off : Int) : Option Nat := match (pc : Int) + off with
  | .ofNat t => some t
  | _ => none
def am_cnd (c : ClassFile.Cond) (x y : Int32) : Bool := match c with
  | .eq => decide (x = y)
  | .ne => decide (¬ x = y)
  | .lt => decide (x < y)
  | .ge => decide (y ≤ x)
  | .gt => decide (y < x)
  | .le => decide (x ≤ y)
def am_go (b : Bool) (pc : Nat) (off : Int) (S : List Value) : Option (Nat × List Value) := match am_tgt pc off with
  | some t => some (bif b then t else pc + 3, S)
  | none => none
def am_b1 (c : ClassFile.Cond) (off : Int) (pc : Nat) : List Value → Option (Nat × List Value)
  | .int x :: S => am_go (am_cnd c x 0) pc off S
  | _ => none
def am_b2 (c : ClassFile.Cond) (off : Int) (pc : Nat) : List Value → Option (Nat × List Value)
  | .int y :: .int x :: S => am_go (am_cnd c x y) pc off S
  | _ => none
def am_sw (d lo hi : Int) (offs : Array Int) (pc : Nat) : List Value → Option (Nat × List Value)
  | .int x :: S => match decide (x.toInt < lo ∨ hi < x.toInt) with
    | true => am_go true pc d S
    | false => match offs[(x.toInt - lo).toNat]? with
      | some o => am_go true pc o S
      | none => none
  | _ => none
def am_br (i : Instr) (pc : Nat) (S : List Value) : Option (Nat × List Value) := match i with
  | .ifCond c off => am_b1 c off pc S
  | .if_icmp c off => am_b2 c off pc S
  | .goto off => am_go true pc off S
  | .tableswitch d lo hi offs => am_sw d lo hi offs pc S
  | _ => none
-- the heap
def am_get (h : aH) (k : Nat) : Option aC := match Nat.blt k 1000000 with
  | true => match h[k]? with
    | some (some c) => some c
    | _ => none
  | false => none
def am_fit (ty : FieldType) (v : Value) : Bool := match ty with
  | .int => am_isI v
  | .boolean => decide (v = .int 0) || decide (v = .int 1)
  | .object _ => am_isR v || decide (v = .null)
  | .array _ => am_isR v || decide (v = .null)
  | _ => false
def am_getf (o idx : Nat) (S : List Value) (h : aH) : Option (List Value) := match S with
  | .ref r :: S => match am_look2 am_fd o idx with
    | some (ci, k) => match am_get h r with
      | some (false, cj, fs) => match Nat.beq ci cj with
        | true => match fs[k]? with
          | some v => some (v :: S)
          | none => none
        | false => none
      | _ => none
    | none => none
  | _ => none
def am_nf (ci : Nat) : Nat := match vwCl[ci]? with
  | some q => q.2.2
  | none => 0
def am_fin (ci k : Nat) : Bool := match vwCl[ci]? with
  | some q => (q.2.1 k).2.2.2
  | none => true
def am_putf (o : Nat) (ini : Bool) (idx : Nat) (S : List Value) (h : aH) : Option (List Value × aH) := match S with
  | v :: .ref r :: S => match am_look2 am_fd o idx with
    | some (ci, k) => match am_get h r with
      | some (false, cj, fs) => match Nat.beq ci cj && Nat.beq fs.length (am_nf ci) && am_fit (am_ty ci k) v && (!(am_fin ci k) || (ini && Nat.beq o ci)) with
        | true => some (S, h.set r (some (false, ci, fs.set k v)))
        | false => none
      | _ => none
    | none => none
  | _ => none
def am_ix (x : Int32) (l : List Value) : Option Value := match decide (x < 0) with
  | true => none
  | false => l[x.toNatClampNeg]?
def am_ald (xs : List Value) (tk : Nat) (S : List Value) (h : aH) : Option (List Value) := match S with
  | .int i :: .ref r :: S => match am_get h r with
    | some (true, tj, l) => match Nat.beq tj tk with
      | true => match am_ix i l with
        | some v => some (v :: S)
        | none => none
      | false => none
    | some _ => none
    | none => match Nat.beq r 2000000 && Nat.beq tk 0 with
      | true => match am_ix i xs with
        | some v => some (v :: S)
        | none => none
      | false => none
  | _ => none
def am_el0 (v : Value) : Option Value := match am_isI v with
  | true => some v
  | false => none
def am_el1 : Value → Option Value
  | .int x => some (.int (x &&& 1))
  | _ => none
def am_el2 (v : Value) : Option Value := match am_isL v with
  | true => some v
  | false => none
def am_el3 (h : aH) : Value → Option Value
  | .ref r => match am_get h r with
    | some (false, ci, _) => match Nat.beq ci 4 with
      | true => some (.ref r)
      | false => none
    | _ => none
  | _ => none
def am_elt (tk : Nat) (h : aH) (v : Value) : Option Value := match tk with
  | 0 => am_el0 v
  | 1 => am_el1 v
  | 2 => am_el2 v
  | 3 => am_el3 h v
  | _ => none
def am_ast (tk : Nat) (S : List Value) (h : aH) : Option (List Value × aH) := match S with
  | v :: .int i :: .ref r :: S => match am_get h r with
    | some (true, tj, l) => match Nat.beq tj tk && !(decide (i < 0)) && Nat.blt i.toNatClampNeg l.length with
      | true => match am_elt tk h v with
        | some w => some (S, h.set r (some (true, tk, l.set i.toNatClampNeg w)))
        | none => none
      | false => none
    | _ => none
  | _ => none
def am_len (xs : List Value) (S : List Value) (h : aH) : Option (List Value) := match S with
  | .ref r :: S => match am_get h r with
    | some (true, _, l) => some (.int (Int32.ofNat l.length) :: S)
    | some _ => none
    | none => match Nat.beq r 2000000 with
      | true => some (.int (Int32.ofNat xs.length) :: S)
      | false => none
  | _ => none
def am_plain : Value → Bool
  | .int _ => true
  | .null => true
  | _ => false
def am_blank (ci : Nat) : List Value := (List.range (am_nf ci)).map (fun k => defaultValue (am_ty ci k))
def am_new (o idx : Nat) (S : List Value) (h : aH) : Option (List Value × aH × Nat) := match am_look2 am_nw o idx with
  | some ci => match Nat.blt h.length 1000000 && (am_blank ci).all am_plain with
    | true => some (.ref h.length :: S, h ++ [some (false, ci, am_blank ci)], am_nf ci)
    | false => none
  | none => none
def am_newa (tk : Nat) (z : Value) (S : List Value) (h : aH) : Option (List Value × aH × Nat) := match S with
  | .int n :: S => match decide (n < 0) || !(Nat.blt h.length 1000000) || !(Nat.blt n.toNatClampNeg 1000000) with
    | true => none
    | false => some (.ref h.length :: S, h ++ [some (true, tk, List.replicate n.toNatClampNeg z)], n.toNatClampNeg)
  | _ => none
def am_fo : List (ClassFile.Cond × Value × Value × Bool) → ClassFile.Cond → Value → Value → Option Bool
  | [], _, _, _ => none
  | q :: t, c, a, b => match decide (q.1 = c) && decide (q.2.1 = a) && decide (q.2.2.1 = b) with
    | true => some q.2.2.2
    | false => am_fo t c a b
def am_fy : List (Instr × Value × Value × Value) → Instr → Value → Value → Option Value
  | [], _, _, _ => none
  | q :: t, i, a, b => match decide (q.1 = i) && decide (q.2.1 = a) && decide (q.2.2.1 = b) with
    | true => some q.2.2.2
    | false => am_fy t i a b
def am_ob1 (O : List (ClassFile.Cond × Value × Value × Bool)) (c : ClassFile.Cond) (off : Int) (pc : Nat) : List Value → Option (Nat × List Value)
  | a :: T => match am_fo O c a (.int 0) with
    | some t => am_go t pc off T
    | none => none
  | [] => none
def am_ob2 (O : List (ClassFile.Cond × Value × Value × Bool)) (c : ClassFile.Cond) (off : Int) (pc : Nat) : List Value → Option (Nat × List Value)
  | y :: x :: T => match am_fo O c x y with
    | some t => am_go t pc off T
    | none => none
  | _ => none
def am_osw (O : List (ClassFile.Cond × Value × Value × Bool)) (d lo hi : Int) (pc : Nat) : List Value → Option (Nat × List Value)
  | a :: T => match decide ((Int32.ofInt lo).toInt = lo) && decide ((Int32.ofInt hi).toInt = hi) with
    | true => match am_fo O .lt a (.int (Int32.ofInt lo)) with
      | some true => am_go true pc d T
      | _ => match am_fo O .gt a (.int (Int32.ofInt hi)) with
        | some true => am_go true pc d T
        | _ => none
    | false => none
  | [] => none
def am_obr (O : List (ClassFile.Cond × Value × Value × Bool)) (i : Instr) (pc : Nat) (S : List Value) : Option (Nat × List Value) := match i with
  | .ifCond c off => am_ob1 O c off pc S
  | .if_icmp c off => am_ob2 O c off pc S
  | .tableswitch d lo hi _ => am_osw O d lo hi pc S
  | _ => none
def am_sym1 (Y : List (Instr × Value × Value × Value)) (i : Instr) : List Value → Option (List Value)
  | a :: T => match am_fy Y i a .null with
    | some r => some (r :: T)
    | none => none
  | [] => none
def am_sym2 (Y : List (Instr × Value × Value × Value)) (i : Instr) : List Value → Option (List Value)
  | a :: b :: T => match decide (b = .null) with
    | true => none
    | false => match am_fy Y i a b with
      | some r => some (r :: T)
      | none => none
  | _ => none
def am_sym (Y : List (Instr × Value × Value × Value)) (i : Instr) (S : List Value) : Option (List Value) := match am_sym2 Y i S with
  | some S' => some S'
  | none => am_sym1 Y i S
def am_isT : Instr → Bool
  | .tableswitch .. => true
  | _ => false
/-- instructions that stay in the method and call nothing: where it goes on, cells and slots made -/
def am_sim (xs : aX) (r : aM) (i : Instr) (len pc : Nat) (L : aL) (S : List Value) (h : aH) : Option aN :=
  match am_br i pc S with
  | some q => match Nat.beq len (am_ilen i) || am_isT i with
    | true => some (q.1, L, q.2, h, 0, 0)
    | false => none
  | none => match am_obr xs.2.2 i pc S with
  | some q => match Nat.beq len (am_ilen i) || am_isT i with
    | true => some (q.1, L, q.2, h, 0, 0)
    | false => none
  | none => match Nat.beq len (am_ilen i) with
    | false => none
    | true => match am_pure i S with
      | some S' => some (pc + len, L, S', h, 0, 0)
      | none => match am_ld i L with
        | some v => some (pc + len, L, v :: S, h, 0, 0)
        | none => match am_sto i L S with
          | some q => match Nat.blt q.1 r.2.2.1 with
            | true => some (pc + len, am_put L q.1 q.2.1, q.2.2, h, 0, 0)
            | false => none
          | none => match i with
            | .getfield idx => (am_getf r.2.2.2.2.1 idx S h).map (fun S' => (pc + 3, L, S', h, 0, 0))
            | .putfield idx => (am_putf r.2.2.2.2.1 (decide (r.1.name = "<init>")) idx S h).map (fun q => (pc + 3, L, q.1, q.2, 0, 0))
            | .iaload => (am_ald xs.1 0 S h).map (fun S' => (pc + 1, L, S', h, 0, 0))
            | .baload => (am_ald xs.1 1 S h).map (fun S' => (pc + 1, L, S', h, 0, 0))
            | .laload => (am_ald xs.1 2 S h).map (fun S' => (pc + 1, L, S', h, 0, 0))
            | .aaload => (am_ald xs.1 3 S h).map (fun S' => (pc + 1, L, S', h, 0, 0))
            | .iastore => (am_ast 0 S h).map (fun q => (pc + 1, L, q.1, q.2, 0, 0))
            | .bastore => (am_ast 1 S h).map (fun q => (pc + 1, L, q.1, q.2, 0, 0))
            | .lastore => (am_ast 2 S h).map (fun q => (pc + 1, L, q.1, q.2, 0, 0))
            | .aastore => (am_ast 3 S h).map (fun q => (pc + 1, L, q.1, q.2, 0, 0))
            | .arraylength => (am_len xs.1 S h).map (fun S' => (pc + 1, L, S', h, 0, 0))
            | .new idx => (am_new r.2.2.2.2.1 idx S h).map (fun q => (pc + 3, L, q.1, q.2.1, 1, q.2.2))
            | .newarray .int => (am_newa 0 (.int 0) S h).map (fun q => (pc + 2, L, q.1, q.2.1, 1, q.2.2))
            | .newarray .boolean => (am_newa 1 (.int 0) S h).map (fun q => (pc + 2, L, q.1, q.2.1, 1, q.2.2))
            | .newarray .long => (am_newa 2 (.long 0) S h).map (fun q => (pc + 2, L, q.1, q.2.1, 1, q.2.2))
            | .anewarray idx => match am_look2 am_nw r.2.2.2.2.1 idx with
              | some 4 => (am_newa 3 .null S h).map (fun q => (pc + 3, L, q.1, q.2.1, 1, q.2.2))
              | _ => none
            | .ldc idx => match am_look2 am_c32 r.2.2.2.2.1 idx with
              | some v => some (pc + 2, L, .int v :: S, h, 0, 0)
              | none => none
            | .ldc2_w idx => match am_look2 am_c64 r.2.2.2.2.1 idx with
              | some v => some (pc + 3, L, .long v :: S, h, 0, 0)
              | none => none
            | i => (am_sym xs.2.1 i S).map (fun S' => (pc + len, L, S', h, 0, 0))
