/-! A LOGIC over the abstract machine: more fuel does no harm; what a run needs of its locals; a rule for each instruction -/
section AmUp
variable {xs : aX} {call call' : aM → List Value → aH → Option aR} {r : aM} {pc : Nat} {L : aL} {S : List Value} {h : aH}
theorem am_invk_up (hc : ∀ a As h u, call a As h = some u → call' a As h = some u) {kind idx : Nat} {t : aN ⊕ aR} (hf : am_invk call r kind idx pc L S h = some t) : am_invk call' r kind idx pc L S h = some t := by
  unfold am_invk at hf ⊢
  cases h1 : am_look2 am_lk r.2.2.2.2.1 idx with
  | none => simp only [h1] at hf; cases hf
  | some q =>
    simp only [h1] at hf ⊢
    cases h2 : Nat.beq q.2 kind with
    | false => simp only [h2] at hf; cases hf
    | true =>
      simp only [h2] at hf ⊢
      cases h3 : am_prog[q.1]? with
      | none => simp only [h3] at hf; cases hf
      | some a =>
        simp only [h3] at hf ⊢
        generalize (Nat.beq ((S.take (am_nar kind a)).reverse).length (am_nar kind a) && Nat.ble (am_sum (S.drop (am_nar kind a))) 8 && Nat.ble (am_sum ((S.take (am_nar kind a)).reverse)) a.2.2.1 && am_recv kind a h ((S.take (am_nar kind a)).reverse)) = bb at hf ⊢
        cases bb with
        | false => cases hf
        | true =>
          simp only at hf ⊢
          cases h5 : call a ((S.take (am_nar kind a)).reverse) h with
          | none => simp only [h5] at hf; cases hf
          | some u =>
            simp only [h5] at hf
            simp only [hc _ _ _ _ h5]
            exact hf
theorem am_step_up (hc : ∀ a As h u, call a As h = some u → call' a As h = some u) {i : Instr} {len : Nat} {t : aN ⊕ aR} (hf : am_step xs call r i len pc L S h = some t) : am_step xs call' r i len pc L S h = some t := by
  unfold am_step at hf ⊢
  cases h1 : am_sim xs r i len pc L S h with
  | some n => simp only [h1] at hf ⊢; exact hf
  | none =>
    simp only [h1] at hf ⊢
    cases h2 : Nat.beq len (am_ilen i) with
    | false => simp only [h2] at hf; cases hf
    | true =>
      simp only [h2] at hf ⊢
      split at hf
      · exact hf
      · exact hf
      · exact hf
      · exact hf
      · exact hf
      · rename_i idx
        cases h3 : am_acp r.2.2.2.2.1 idx S h with
        | some q => simp only [h3] at hf ⊢; exact hf
        | none => simp only [h3] at hf ⊢; exact am_invk_up hc hf
      · rename_i idx
        cases h3 : am_slen r.2.2.2.2.1 idx S with
        | some q => simp only [h3] at hf ⊢; exact hf
        | none =>
          simp only [h3] at hf ⊢
          cases h4 : am_schr r.2.2.2.2.1 idx S with
          | some q => simp only [h4] at hf ⊢; exact hf
          | none => simp only [h4] at hf ⊢; exact am_invk_up hc hf
      · rename_i idx
        cases h3 : am_obj r.2.2.2.2.1 idx S with
        | some q => simp only [h3] at hf ⊢; exact hf
        | none => simp only [h3] at hf ⊢; exact am_invk_up hc hf
      · cases hf
theorem am_run_up : ∀ (n d : Nat) (r : aM) (pc : Nat) (L : aL) (S : List Value) (h : aH) (u : aR), am_run xs n d r pc L S h = some u → ∀ n' d', n ≤ n' → d ≤ d' → am_run xs n' d' r pc L S h = some u := by
  intro n
  induction n with
  | zero => intro d r pc L S h u hf; cases hf
  | succ n ih =>
    intro d r pc L S h u hf n' d' hn hd
    obtain ⟨m, rfl⟩ : ∃ m, n' = m + 1 := ⟨n' - 1, by omega⟩
    rw [am_run_succ] at hf ⊢
    unfold am_body at hf ⊢
    cases h1 : am_look r.2.2.2.2.2.2.2 pc with
    | none => simp only [h1] at hf; cases hf
    | some q =>
      simp only [h1] at hf ⊢
      cases h2 : am_step xs (am_cal (am_run xs n) d) r q.1 q.2 pc L S h with
      | none => simp only [h2] at hf; cases hf
      | some t =>
        simp only [h2] at hf
        have hu : am_step xs (am_cal (am_run xs m) d') r q.1 q.2 pc L S h = some t := by
          refine am_step_up (fun a As h u hc => ?_) h2
          cases d with
          | zero => cases hc
          | succ d0 =>
            obtain ⟨d1, rfl⟩ : ∃ d1, d' = d1 + 1 := ⟨d' - 1, by omega⟩
            exact ih d0 a 0 _ [] h u hc m d1 (by omega) (by omega)
        simp only [hu]
        cases t with
        | inr t => exact hf
        | inl t =>
          unfold am_then at hf ⊢
          simp only at hf ⊢
          cases h3 : am_run xs n d r t.1 t.2.1 t.2.2.1 t.2.2.2.1 with
          | none => simp only [h3] at hf; cases hf
          | some w =>
            simp only [h3] at hf
            simp only [ih _ _ _ _ _ _ _ h3 m d' (by omega) hd]
            exact hf
end AmUp
/-- the locals that are told are there -/
def am_sub (L L' : aL) : Prop := ∀ q ∈ L, am_look L' q.1 = some q.2
def am_Qo (Q : Option Value → aH → Prop) (E : Nat → aH → Prop) : (Option Value ⊕ Nat) → aH → Prop
  | .inl v, h => Q v h
  | .inr x, h => E x h
/-- from here the run ends: it returns and Q, or throws and E; what it makes are exceptions -/
def am_T (X : List Value) (d : Nat) (r : aM) (pc : Nat) (L : aL) (S : List Value) (h : aH) (Q : Option Value → aH → Prop) (E : Nat → aH → Prop) : Prop :=
  ∀ L' : aL, am_sub L L' → ∃ n u, am_run (X, [], []) n d r pc L' S h = some u ∧ u.2.1.length = h.length + u.2.2.1 ∧ u.2.2.2 = 6 * u.2.2.1 ∧ am_Qo Q E u.1 u.2.1
section AmT
variable {X : List Value} {d : Nat} {r : aM} {pc pc1 : Nat} {L L1 : aL} {S S1 : List Value} {h h1 : aH} {Q : Option Value → aH → Prop} {E : Nat → aH → Prop}
theorem am_T.mono {Q' : Option Value → aH → Prop} {E' : Nat → aH → Prop} (ht : am_T X d r pc L S h Q E) (hQ : ∀ v h, Q v h → Q' v h) (hE : ∀ x h, E x h → E' x h) : am_T X d r pc L S h Q' E' := by
  intro L' hL
  obtain ⟨n, u, a1, a2, a3, a4⟩ := ht L' hL
  refine ⟨n, u, a1, a2, a3, ?_⟩
  obtain ⟨o, u⟩ := u
  cases o with
  | inl v => exact hQ _ _ a4
  | inr x => exact hE _ _ a4
theorem am_T.deep {d' : Nat} (ht : am_T X d r pc L S h Q E) (hd : d ≤ d') : am_T X d' r pc L S h Q E := by
  intro L' hL
  obtain ⟨n, u, a1, a2⟩ := ht L' hL
  exact ⟨n, u, am_run_up _ _ _ _ _ _ _ _ a1 _ _ (Nat.le_refl _) hd, a2⟩
theorem am_T.drop (ht : am_T X d r pc L1 S h Q E) (hs : ∀ q ∈ L1, q ∈ L) : am_T X d r pc L S h Q E := fun L' hL => ht L' (fun q hq => hL q (hs q hq))
/-- a step that calls nothing and makes nothing -/
theorem am_T1 {i : Instr} {len : Nat} (hq : am_look r.2.2.2.2.2.2.2 pc = some (i, len)) (hs : ∀ call L', am_sub L L' → ∃ L1', am_step (X, [], []) call r i len pc L' S h = some (.inl (pc1, L1', S1, h1, 0, 0)) ∧ am_sub L1 L1') (hlen : h1.length = h.length) (ht : am_T X d r pc1 L1 S1 h1 Q E) : am_T X d r pc L S h Q E := by
  intro L' hL
  obtain ⟨L1', -, hL1⟩ := hs (fun _ _ _ => none) L' hL
  clear hL1 L1'
  -- the locals behind the step do not hang on the call
  have hs' := fun call => hs call L' hL
  obtain ⟨L1', e1, hL1⟩ := hs' (fun _ _ _ => none)
  obtain ⟨n, u, a1, a2, a3, a4⟩ := ht L1' hL1
  refine ⟨n + 1, (u.1, u.2.1, 0 + u.2.2.1, 0 + u.2.2.2), ?_, by rw [a2, hlen]; show _ = h.length + (0 + u.2.2.1); omega, by show 0 + u.2.2.2 = 6 * (0 + u.2.2.1); omega, a4⟩
  rw [am_run_succ]
  unfold am_body
  simp only [hq]
  rw [am_step_up (call' := am_cal (am_run (X, [], []) n) d) (fun _ _ _ _ hc => by cases hc) e1]
  simp only [am_then, a1]
theorem am_T2 {i : Instr} {len : Nat} (hq : am_look r.2.2.2.2.2.2.2 pc = some (i, len)) (hs : ∀ L', am_sim (X, [], []) r i len pc L' S h = some (pc1, L', S1, h1, 0, 0)) (hlen : h1.length = h.length) (ht : am_T X d r pc1 L S1 h1 Q E) : am_T X d r pc L S h Q E :=
  am_T1 hq (fun call L' hL => ⟨L', by unfold am_step; rw [hs L'], hL⟩) hlen ht
/-- an end -/
theorem am_T0 {i : Instr} {len : Nat} {o : Option Value ⊕ Nat} {k : Nat} (hq : am_look r.2.2.2.2.2.2.2 pc = some (i, len)) (hs : ∀ L', am_step (X, [], []) (fun _ _ _ => none) r i len pc L' S h = some (.inr (o, h1, k, 6 * k))) (hlen : h1.length = h.length + k) (hQ : am_Qo Q E o h1) : am_T X d r pc L S h Q E := by
  intro L' hL
  refine ⟨1, (o, h1, k, 6 * k), ?_, hlen, rfl, hQ⟩
  rw [am_run_succ]
  unfold am_body
  simp only [hq]
  rw [am_step_up (call' := am_cal (am_run (X, [], []) 0) d) (fun _ _ _ _ hc => by cases hc) (hs L')]
  rfl
end AmT
