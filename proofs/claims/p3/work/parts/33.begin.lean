/-! THE LAW'S BEGINNING: two objects are made, whatever the script -/
def am_noX : Instr → Bool
  | .iaload => false
  | .baload => false
  | .laload => false
  | .aaload => false
  | .arraylength => false
  | _ => true
def am_bodyN (run : Nat → aM → Nat → aL → List Value → aH → Option aR) (d : Nat) (r : aM) (pc : Nat) (L : aL) (S : List Value) (h : aH) : Option aR := match am_look r.2.2.2.2.2.2.2 pc with
  | none => none
  | some q => match am_noX q.1 with
    | false => none
    | true => match am_step ([], [], []) (am_cal run d) r q.1 q.2 pc L S h with
      | none => none
      | some t => am_then run d r t
noncomputable def am_runN (n : Nat) : Nat → aM → Nat → aL → List Value → aH → Option aR :=
  Nat.rec (fun _ _ _ _ _ _ => none) (fun _ ih => am_bodyN ih) n
theorem am_simX {X : List Value} {r : aM} {i : Instr} {len pc : Nat} {L : aL} {S : List Value} {h : aH} (hi : am_noX i = true) : am_sim (X, [], []) r i len pc L S h = am_sim ([], [], []) r i len pc L S h := by
  cases i <;> first | rfl | (exact absurd hi (by decide)) | (rename_i t; cases t <;> rfl)
theorem am_stepX {X : List Value} {call : aM → List Value → aH → Option aR} {r : aM} {i : Instr} {len pc : Nat} {L : aL} {S : List Value} {h : aH} (hi : am_noX i = true) : am_step (X, [], []) call r i len pc L S h = am_step ([], [], []) call r i len pc L S h := by
  unfold am_step
  rw [am_simX hi]
theorem am_runN_run {X : List Value} : ∀ (n d : Nat) (r : aM) (pc : Nat) (L : aL) (S : List Value) (h : aH) (u : aR), am_runN n d r pc L S h = some u → am_run (X, [], []) n d r pc L S h = some u := by
  intro n
  induction n with
  | zero => intro d r pc L S h u hf; cases hf
  | succ n ih =>
    intro d r pc L S h u hf
    replace hf : am_bodyN (am_runN n) d r pc L S h = some u := hf
    rw [am_run_succ]
    unfold am_bodyN at hf
    unfold am_body
    cases h1 : am_look r.2.2.2.2.2.2.2 pc with
    | none => simp only [h1] at hf; cases hf
    | some q =>
      simp only [h1] at hf ⊢
      cases h0 : am_noX q.1 with
      | false => simp only [h0] at hf; cases hf
      | true =>
        simp only [h0] at hf
        cases h2 : am_step ([], [], []) (am_cal (am_runN n) d) r q.1 q.2 pc L S h with
        | none => simp only [h2] at hf; cases hf
        | some t =>
          simp only [h2] at hf
          have hu : am_step (X, [], []) (am_cal (am_run (X, [], []) n) d) r q.1 q.2 pc L S h = some t := by
            rw [am_stepX h0]
            refine am_step_up (fun a As h u hc => ?_) h2
            cases d with
            | zero => cases hc
            | succ d0 => exact ih d0 a 0 _ [] h u hc
          simp only [hu]
          cases t with
          | inr t => exact hf
          | inl t =>
            unfold am_then at hf ⊢
            simp only at hf ⊢
            cases h3 : am_runN n d r t.1 t.2.1 t.2.2.1 t.2.2.2.1 with
            | none => simp only [h3] at hf; cases hf
            | some w =>
              simp only [h3] at hf
              simp only [ih _ _ _ _ _ _ _ h3]
              exact hf
noncomputable def am_pg (d : Nat) (r : aM) (n : Nat) : Nat → aL → List Value → aH → Nat → Nat → Option (Nat × aL × List Value × aH × Nat × Nat) :=
  Nat.rec (fun pc L S h k j => some (pc, L, S, h, k, j)) (fun _ ih pc L S h k j => match am_look r.2.2.2.2.2.2.2 pc with
    | none => none
    | some q => match am_noX q.1 with
      | false => none
      | true => match am_step ([], [], []) (am_cal (am_runN 4000) d) r q.1 q.2 pc L S h with
        | some (.inl t) => ih t.1 t.2.1 t.2.2.1 t.2.2.2.1 (k + t.2.2.2.2.1) (j + t.2.2.2.2.2)
        | _ => none) n
theorem am_pg_run {X : List Value} {d : Nat} {r : aM} : ∀ (n pc : Nat) (L : aL) (S : List Value) (h : aH) (k j pc' : Nat) (L' : aL) (S' : List Value) (h' : aH) (k' j' : Nat), am_pg d r n pc L S h k j = some (pc', L', S', h', k', j') → ∀ (m : Nat) (u : aR), 4000 ≤ m → am_run (X, [], []) m d r pc' L' S' h' = some u →
    ∃ u', am_run (X, [], []) (m + n) d r pc L S h = some u' ∧ u'.1 = u.1 ∧ u'.2.1 = u.2.1 ∧ u'.2.2.1 + k = u.2.2.1 + k' ∧ u'.2.2.2 + j = u.2.2.2 + j' := by
  intro n
  induction n with
  | zero =>
    intro pc L S h k j pc' L' S' h' k' j' hf m u hm hu
    have hf : some (pc, L, S, h, k, j) = some (pc', L', S', h', k', j') := hf
    cases hf
    exact ⟨u, hu, rfl, rfl, rfl, rfl⟩
  | succ n ih =>
    intro pc L S h k j pc' L' S' h' k' j' hf m u hm hu
    replace hf : (match am_look r.2.2.2.2.2.2.2 pc with
      | none => none
      | some q => match am_noX q.1 with
        | false => none
        | true => match am_step ([], [], []) (am_cal (am_runN 4000) d) r q.1 q.2 pc L S h with
          | some (.inl t) => am_pg d r n t.1 t.2.1 t.2.2.1 t.2.2.2.1 (k + t.2.2.2.2.1) (j + t.2.2.2.2.2)
          | _ => none) = some (pc', L', S', h', k', j') := hf
    rw [show m + (n + 1) = (m + n) + 1 from rfl, am_run_succ]
    unfold am_body
    cases h1 : am_look r.2.2.2.2.2.2.2 pc with
    | none => simp only [h1] at hf; cases hf
    | some q =>
      simp only [h1] at hf ⊢
      cases h0 : am_noX q.1 with
      | false => simp only [h0] at hf; cases hf
      | true =>
        simp only [h0] at hf
        cases h2 : am_step ([], [], []) (am_cal (am_runN 4000) d) r q.1 q.2 pc L S h with
        | none => simp only [h2] at hf; cases hf
        | some t =>
          cases t with
          | inr t => simp only [h2] at hf; cases hf
          | inl t =>
            simp only [h2] at hf
            have hs : am_step (X, [], []) (am_cal (am_run (X, [], []) (m + n)) d) r q.1 q.2 pc L S h = some (.inl t) := by
              rw [am_stepX h0]
              refine am_step_up (fun a As h u hc => ?_) h2
              cases d with
              | zero => cases hc
              | succ d0 => exact am_run_up _ _ _ _ _ _ _ _ (am_runN_run 4000 d0 a 0 (lv_args 0 As) [] h u hc) _ _ (by omega) (Nat.le_refl _)
            simp only [hs]
            obtain ⟨u1, e1, e2, e3, e4, e5⟩ := ih _ _ _ _ _ _ _ _ _ _ _ _ hf m u hm hu
            unfold am_then
            simp only [e1]
            exact ⟨_, rfl, e2, e3, by show t.2.2.2.2.1 + u1.2.2.1 + k = _; omega, by show t.2.2.2.2.2 + u1.2.2.2 + j = _; omega⟩
def am_fZ : aF := fun _ => 0
def am_aZ : aA := fun k => bif Nat.blt k 117 then List.replicate (am_al k) 0 else bif Nat.beq k 118 then List.replicate 3 0 else List.replicate (am_ar k) 0
noncomputable def am_chkP : Bool := match am_pg 30 am_m183 13 0 [(0, .ref 2000000)] [] [] 0 0 with
  | some (pc, L, S, h, k, j) => Nat.beq pc 23 && decide (am_look L 0 = some (.ref 2000000)) && decide (am_look L 1 = some (.ref 0)) && decide (am_look L 2 = some (.ref 117)) && decide (am_look L 3 = some (.ref 163)) && decide (am_look L 4 = some (.int 0)) && decide (S = []) && decide (h = am_enc am_fZ am_aZ (.long 0) 0) && Nat.ble k 1000 && Nat.ble j 7000000
  | none => false
set_option maxRecDepth 1000000 in
theorem am_chkP_ok : am_chkP = true := by decide +kernel
