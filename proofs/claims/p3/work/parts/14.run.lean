/-! THE ABSTRACT MACHINE: calls, returns, throws; and its runs -/
def am_sum (S : List Value) : Nat := (S.map fun v => v.category).sum
def am_ri (t : Option FieldType) : List Value → Option Value
  | [v] => match t with
    | some .int => match am_isI v with
      | true => some v
      | false => none
    | some .boolean => match decide (v = .int 0) || decide (v = .int 1) with
      | true => some v
      | false => none
    | _ => none
  | _ => none
def am_ra (t : Option FieldType) : List Value → Option Value
  | [.ref k] => match t with
    | some (.object _) => some (.ref k)
    | _ => none
  | _ => none
def am_rv (t : Option FieldType) : List Value → Bool
  | [] => match t with
    | none => true
    | _ => false
  | _ => false
/-- 'throw new E()' at pc: which E -/
def am_thr (r : aM) (ik pc : Nat) : Option Nat := match am_look2 am_xw r.2.2.2.2.1 ik with
  | some q => match decide (am_look r.2.2.2.2.2.2.2 (pc + 3) = some (.dup, 1)) && decide (am_look r.2.2.2.2.2.2.2 (pc + 4) = some (.invokespecial q.1, 3)) && decide (am_look r.2.2.2.2.2.2.2 (pc + 7) = some (.athrow, 1)) && r.2.2.2.2.2.1.isEmpty with
    | true => some q.2
    | false => none
  | none => none
def am_hand (o pc x : Nat) : List (Nat × Nat × Nat × Nat) → Option (Option Nat)
  | [] => some none
  | a :: t => match Nat.ble a.1 pc && Nat.blt pc a.2.1 with
    | false => am_hand o pc x t
    | true => match Nat.beq a.2.2.2 0 with
      | true => none
      | false => match am_look2 am_hc o a.2.2.2 with
        | none => none
        | some y => match Nat.beq y x with
          | true => some (some a.2.2.1)
          | false => match Nat.blt x 4 && Nat.blt y 4 with
            | false => none
            | true => match am_hand o pc x t with
              | some (some g) => some (some g)
              | _ => none
def am_rc1 (a : aM) (h : aH) : List Value → Bool
  | .ref q :: _ => match am_get h q with
    | some (false, ci, _) => Nat.beq ci a.2.2.2.2.1
    | _ => false
  | _ => false
def am_rc2 : List Value → Bool
  | .ref _ :: _ => true
  | _ => false
def am_recv (kind : Nat) (a : aM) (h : aH) (As : List Value) : Bool := match kind with
  | 0 => true
  | 1 => am_rc1 a h As
  | _ => am_rc2 As
def am_nar (kind : Nat) (a : aM) : Nat := match kind with
  | 0 => a.2.2.2.2.2.2.1
  | _ => a.2.2.2.2.2.2.1 + 1
/-- behind a call -/
def am_beh2 (r : aM) (pc : Nat) (L : aL) (rest : List Value) : aR → Option (aN ⊕ aR)
  | (.inl v, h', k, j) => some (.inl (pc + 3, L, v.toList ++ rest, h', k, j))
  | (.inr x, h', k, j) => match am_hand r.2.2.2.2.1 pc x r.2.2.2.2.2.1 with
    | none => none
    | some none => some (.inr (.inr x, h', k, j))
    | some (some hp) => match Nat.blt (h'.length - 1) 1000000 with
      | true => some (.inl (hp, L, [.ref (h'.length - 1)], h', k, j))
      | false => none
def am_invk (call : aM → List Value → aH → Option aR) (r : aM) (kind idx pc : Nat) (L : aL) (S : List Value) (h : aH) : Option (aN ⊕ aR) := match am_look2 am_lk r.2.2.2.2.1 idx with
  | none => none
  | some q => match Nat.beq q.2 kind with
    | false => none
    | true => match am_prog[q.1]? with
      | none => none
      | some a => match Nat.beq ((S.take (am_nar kind a)).reverse).length (am_nar kind a) && Nat.ble (am_sum (S.drop (am_nar kind a))) 8 && Nat.ble (am_sum ((S.take (am_nar kind a)).reverse)) a.2.2.1 && am_recv kind a h ((S.take (am_nar kind a)).reverse) with
        | false => none
        | true => match call a ((S.take (am_nar kind a)).reverse) h with
          | none => none
          | some q => am_beh2 r pc L (S.drop (am_nar kind a)) q
/-- Object's constructor; String.length of a constant -/
def am_oi : List (Nat × Nat × Nat) := am_oiT
def am_obj (o idx : Nat) : List Value → Option (List Value)
  | .ref _ :: S => match am_look2 am_oi o idx with
    | some _ => match Nat.ble (am_sum S) 8 with
      | true => some S
      | false => none
    | none => none
  | _ => none
def am_slen (o idx : Nat) : List Value → Option (List Value)
  | .ref k :: S => match am_look2 am_sli o idx with
    | some _ => match Nat.ble 1000000 k && Nat.blt k (1000000 + am_sn) && Nat.ble (am_sum S) 8 with
      | true => some (.int (Int32.ofNat (am_sl (k - 1000000))) :: S)
      | false => none
    | none => none
  | _ => none
/-- String.charAt of a constant -/
def am_schr (o idx : Nat) : List Value → Option (List Value)
  | .int j :: .ref k :: S => match am_look2 am_sci o idx with
    | some _ => match Nat.ble 1000000 k && Nat.blt k (1000000 + am_sn) && Nat.ble (am_sum S) 8 && !(decide (j < 0)) && Nat.blt j.toNatClampNeg (am_sl (k - 1000000)) with
      | true => some (.int ((am_sB.getD (k - 1000000) []).getD j.toNatClampNeg 0) :: S)
      | false => none
    | none => none
  | _ => none
def am_cpy (l0 l1 : List Value) (sp dp n : Nat) : List Value := l1.take dp ++ ((l0.drop sp).take n ++ l1.drop (dp + n))
/-- System.arraycopy of one array of ints to another -/
def am_acp (o idx : Nat) (S : List Value) (h : aH) : Option (List Value × aH) := match S with
  | .int n :: .int dp :: .ref d :: .int sp :: .ref s0 :: S => match am_look2 am_acT o idx with
    | some _ => match am_get h s0 with
      | some (true, t0, l0) => match am_get h d with
        | some (true, t1, l1) => match Nat.beq t0 0 && Nat.beq t1 0 && !(Nat.beq s0 d) && Nat.ble (am_sum S) 8 && !(decide (n < 0)) && !(decide (sp < 0)) && !(decide (dp < 0)) && Nat.ble (sp.toNatClampNeg + n.toNatClampNeg) l0.length && Nat.ble (dp.toNatClampNeg + n.toNatClampNeg) l1.length && ((l0.drop sp.toNatClampNeg).take n.toNatClampNeg).all am_isI with
          | true => some (S, h.set d (some (true, 0, am_cpy l0 l1 sp.toNatClampNeg dp.toNatClampNeg n.toNatClampNeg)))
          | false => none
        | _ => none
      | _ => none
    | none => none
  | _ => none
def am_ldcs (o idx : Nat) : Option Value := match am_look2 am_st o idx with
  | some i => some (.ref (1000000 + i))
  | none => none
def am_step (xs : aX) (call : aM → List Value → aH → Option aR) (r : aM) (i : Instr) (len pc : Nat) (L : aL) (S : List Value) (h : aH) : Option (aN ⊕ aR) := match am_sim xs r i len pc L S h with
  | some n => some (.inl n)
  | none => match Nat.beq len (am_ilen i) with
    | false => none
    | true => match i with
      | .ireturn => (am_ri r.2.2.2.1 S).map (fun v => .inr (.inl (some v), h, 0, 0))
      | .areturn => (am_ra r.2.2.2.1 S).map (fun v => .inr (.inl (some v), h, 0, 0))
      | .return_ => match am_rv r.2.2.2.1 S with
        | true => some (.inr (.inl none, h, 0, 0))
        | false => none
      | .new ik => match am_thr r ik pc with
        | some x => match Nat.ble (am_sum S) 8 with
          | true => some (.inr (.inr x, h ++ [none], 1, 6))
          | false => none
        | none => none
      | .ldc idx => (am_ldcs r.2.2.2.2.1 idx).map (fun v => .inl (pc + 2, L, v :: S, h, 0, 0))
      | .invokestatic idx => match am_acp r.2.2.2.2.1 idx S h with
        | some q => some (.inl (pc + 3, L, q.1, q.2, 0, 0))
        | none => am_invk call r 0 idx pc L S h
      | .invokevirtual idx => match am_slen r.2.2.2.2.1 idx S with
        | some S' => some (.inl (pc + 3, L, S', h, 0, 0))
        | none => match am_schr r.2.2.2.2.1 idx S with
          | some S' => some (.inl (pc + 3, L, S', h, 0, 0))
          | none => am_invk call r 1 idx pc L S h
      | .invokespecial idx => match am_obj r.2.2.2.2.1 idx S with
        | some S' => some (.inl (pc + 3, L, S', h, 0, 0))
        | none => am_invk call r 2 idx pc L S h
      | _ => none
def am_cal (run : Nat → aM → Nat → aL → List Value → aH → Option aR) (d : Nat) : aM → List Value → aH → Option aR := match d with
  | 0 => fun _ _ _ => none
  | d' + 1 => fun a As h => run d' a 0 (lv_args 0 As) [] h
def am_then (run : Nat → aM → Nat → aL → List Value → aH → Option aR) (d : Nat) (r : aM) : aN ⊕ aR → Option aR
  | .inr t => some t
  | .inl t => match run d r t.1 t.2.1 t.2.2.1 t.2.2.2.1 with
    | none => none
    | some u => some (u.1, u.2.1, t.2.2.2.2.1 + u.2.2.1, t.2.2.2.2.2 + u.2.2.2)
def am_body (xs : aX) (run : Nat → aM → Nat → aL → List Value → aH → Option aR) (d : Nat) (r : aM) (pc : Nat) (L : aL) (S : List Value) (h : aH) : Option aR := match am_look r.2.2.2.2.2.2.2 pc with
  | none => none
  | some q => match am_step xs (am_cal run d) r q.1 q.2 pc L S h with
    | none => none
    | some t => am_then run d r t
/-- a run: n bounds its steps, d the depth of its calls -/
noncomputable def am_run (xs : aX) (n : Nat) : Nat → aM → Nat → aL → List Value → aH → Option aR :=
  Nat.rec (fun _ _ _ _ _ _ => none) (fun _ ih => am_body xs ih) n
theorem am_run_succ (xs : aX) (n d : Nat) (r : aM) (pc : Nat) (L : aL) (S : List Value) (h : aH) : am_run xs (n + 1) d r pc L S h = am_body xs (am_run xs n) d r pc L S h := rfl
