/-! THE LOGIC'S RULES: calls, Strings, constants, longs -/
theorem am_args_lo : ∀ (vs : List Value) (i : Nat), ∀ q ∈ lv_args i vs, i ≤ q.1
  | [], _ => fun q h => by cases h
  | v :: vs, i => fun q h => by
    rcases List.mem_cons.mp h with h1 | h1
    · rw [h1]; exact Nat.le_refl _
    · have := am_args_lo vs _ q h1
      split at this <;> omega
theorem am_sym_nil (i : Instr) (S : List Value) : am_sym [] i S = none := by
  unfold am_sym
  rcases S with _ | ⟨a, _ | ⟨b, T⟩⟩
  · rfl
  · rfl
  · simp only [am_sym2, am_sym1, am_fy]
    cases decide (b = Value.null) <;> rfl
theorem am_args_sub : ∀ (vs : List Value) (i : Nat), am_sub (lv_args i vs) (lv_args i vs)
  | [], _ => fun q h => by cases h
  | v :: vs, i => fun q h => by
    rcases List.mem_cons.mp h with h1 | h1
    · rw [h1]
      show am_look ((i, v) :: _) i = some v
      simp [am_look]
    · have h2 := am_args_lo vs _ q h1
      have h3 := am_args_sub vs _ q h1
      have h4 : i < q.1 := by split at h2 <;> omega
      show am_look ((i, v) :: _) q.1 = some q.2
      have h5 : Nat.beq i q.1 = false := by
        cases e : Nat.beq i q.1 with
        | false => rfl
        | true =>
          have := Nat.eq_of_beq_eq_true e
          exfalso; omega
      simp only [am_look, h5]
      exact h3
/-- behind a throw out of a call: a handler, or out -/
def am_Th (X : List Value) (d : Nat) (r : aM) (pc : Nat) (L : aL) (Q : Option Value → aH → Prop) (E : Nat → aH → Prop) (x : Nat) (h' : aH) : Prop := match am_hand r.2.2.2.2.1 pc x r.2.2.2.2.2.1 with
  | none => False
  | some none => E x h'
  | some (some hp) => h'.length - 1 < 1000000 ∧ am_T X d r hp L [.ref (h'.length - 1)] h' Q E
section AmRules3
variable {X : List Value} {d : Nat} {r : aM} {pc pc1 g : Nat} {L L1 : aL} {S S1 : List Value} {h h1 : aH} {Q : Option Value → aH → Prop} {E : Nat → aH → Prop} {v w : Value} {k : Nat} {x y z : Int} {idx : Nat}
theorem am_rinvk {i : Instr} {kind : Nat} {m : Nat} {a : aM} {As : List Value} (hq : am_look r.2.2.2.2.2.2.2 pc = some (i, 3)) (hi : ∀ call L', am_step (X, [], []) call r i 3 pc L' S h = am_invk call r kind idx pc L' S h)
    (hlk : am_look2 am_lk r.2.2.2.2.1 idx = some (m, kind)) (hm : am_prog[m]? = some a) (hA : (S.take (am_nar kind a)).reverse = As) (hS : S.drop (am_nar kind a) = S1)
    (hc : (Nat.beq As.length (am_nar kind a) && Nat.ble (am_sum S1) 8 && Nat.ble (am_sum As) a.2.2.1) = true) (hrc : am_recv kind a h As = true)
    (ht : am_T X d a 0 (lv_args 0 As) [] h (fun v h' => am_T X (d + 1) r (pc + 3) L (v.toList ++ S1) h' Q E) (am_Th X (d + 1) r pc L Q E)) : am_T X (d + 1) r pc L S h Q E := by
  intro L' hL
  obtain ⟨n1, u1, a1, a2, a3, a4⟩ := ht (lv_args 0 As) (am_args_sub As 0)
  have step : ∀ n, n1 ≤ n → am_step (X, [], []) (am_cal (am_run (X, [], []) n) (d + 1)) r i 3 pc L' S h = am_beh2 r pc L' S1 u1 := by
    intro n hn
    rw [hi]
    unfold am_invk
    have hb : Nat.beq kind kind = true := Nat.beq_refl kind
    simp only [hlk, hm, hA, hS, hc, hrc, hb, Bool.and_self]
    rw [show am_cal (am_run (X, [], []) n) (d + 1) a As h = some u1 from am_run_up _ _ _ _ _ _ _ _ a1 n d hn (Nat.le_refl _)]
  obtain ⟨o, h', kk, jj⟩ := u1
  have go : ∀ (pc9 : Nat) (S9 : List Value), am_beh2 r pc L' S1 (o, h', kk, jj) = some (.inl (pc9, L', S9, h', kk, jj)) → am_T X (d + 1) r pc9 L S9 h' Q E → ∃ n u, am_run (X, [], []) n (d + 1) r pc L' S h = some u ∧ u.2.1.length = h.length + u.2.2.1 ∧ u.2.2.2 = 6 * u.2.2.1 ∧ am_Qo Q E u.1 u.2.1 := by
    intro pc9 S9 e9 t9
    obtain ⟨n2, u2, b1, b2, b3, b4⟩ := t9 L' hL
    refine ⟨max n1 n2 + 1, (u2.1, u2.2.1, kk + u2.2.2.1, jj + u2.2.2.2), ?_, ?_, ?_, b4⟩
    · rw [am_run_succ]
      unfold am_body
      simp only [hq]
      rw [step _ (Nat.le_max_left _ _), e9]
      simp only [am_then, am_run_up _ _ _ _ _ _ _ _ b1 (max n1 n2) (d + 1) (Nat.le_max_right _ _) (Nat.le_refl _)]
    · have a2' : h'.length = h.length + kk := a2
      show u2.2.1.length = h.length + (kk + u2.2.2.1)
      omega
    · have a3' : jj = 6 * kk := a3
      show jj + u2.2.2.2 = 6 * (kk + u2.2.2.1)
      omega
  cases o with
  | inl v => exact go (pc + 3) (v.toList ++ S1) rfl a4
  | inr x =>
    have a4' : am_Th X (d + 1) r pc L Q E x h' := a4
    unfold am_Th at a4'
    cases hh : am_hand r.2.2.2.2.1 pc x r.2.2.2.2.2.1 with
    | none => simp only [hh] at a4'
    | some q =>
      cases q with
      | none =>
        simp only [hh] at a4'
        refine ⟨n1 + 1, (.inr x, h', kk, jj), ?_, a2, a3, a4'⟩
        rw [am_run_succ]
        unfold am_body
        simp only [hq]
        rw [step _ (Nat.le_refl _)]
        simp only [am_beh2, hh, am_then]
      | some hp =>
        simp only [hh] at a4'
        refine go hp [.ref (h'.length - 1)] ?_ a4'.2
        simp only [am_beh2, hh]
        rw [show Nat.blt (h'.length - 1) 1000000 = true from Nat.ble_eq_true_of_le a4'.1]
theorem am_rstatic {m : Nat} {a : aM} {As : List Value} (hq : am_look r.2.2.2.2.2.2.2 pc = some (.invokestatic idx, 3)) (hn : am_acp r.2.2.2.2.1 idx S h = none)
    (hlk : am_look2 am_lk r.2.2.2.2.1 idx = some (m, 0)) (hm : am_prog[m]? = some a) (hA : (S.take (am_nar 0 a)).reverse = As) (hS : S.drop (am_nar 0 a) = S1)
    (hc : (Nat.beq As.length (am_nar 0 a) && Nat.ble (am_sum S1) 8 && Nat.ble (am_sum As) a.2.2.1) = true)
    (ht : am_T X d a 0 (lv_args 0 As) [] h (fun v h' => am_T X (d + 1) r (pc + 3) L (v.toList ++ S1) h' Q E) (am_Th X (d + 1) r pc L Q E)) : am_T X (d + 1) r pc L S h Q E :=
  am_rinvk hq (fun call L' => by simp [am_step, am_sim, am_br, am_obr, am_pure, am_ld, am_sto, am_sym_nil, hn, am_ilen]) hlk hm hA hS hc rfl ht
theorem am_rvirtual {m : Nat} {a : aM} {As : List Value} (hq : am_look r.2.2.2.2.2.2.2 pc = some (.invokevirtual idx, 3)) (hn : am_slen r.2.2.2.2.1 idx S = none) (hn2 : am_schr r.2.2.2.2.1 idx S = none)
    (hlk : am_look2 am_lk r.2.2.2.2.1 idx = some (m, 1)) (hm : am_prog[m]? = some a) (hA : (S.take (am_nar 1 a)).reverse = As) (hS : S.drop (am_nar 1 a) = S1)
    (hc : (Nat.beq As.length (am_nar 1 a) && Nat.ble (am_sum S1) 8 && Nat.ble (am_sum As) a.2.2.1) = true) (hrc : am_rc1 a h As = true)
    (ht : am_T X d a 0 (lv_args 0 As) [] h (fun v h' => am_T X (d + 1) r (pc + 3) L (v.toList ++ S1) h' Q E) (am_Th X (d + 1) r pc L Q E)) : am_T X (d + 1) r pc L S h Q E :=
  am_rinvk hq (fun call L' => by simp [am_step, am_sim, am_br, am_obr, am_pure, am_ld, am_sto, am_sym_nil, hn, hn2, am_ilen]) hlk hm hA hS hc hrc ht
theorem am_rspecial {m : Nat} {a : aM} {As : List Value} (hq : am_look r.2.2.2.2.2.2.2 pc = some (.invokespecial idx, 3)) (hn : am_obj r.2.2.2.2.1 idx S = none)
    (hlk : am_look2 am_lk r.2.2.2.2.1 idx = some (m, 2)) (hm : am_prog[m]? = some a) (hA : (S.take (am_nar 2 a)).reverse = As) (hS : S.drop (am_nar 2 a) = S1)
    (hc : (Nat.beq As.length (am_nar 2 a) && Nat.ble (am_sum S1) 8 && Nat.ble (am_sum As) a.2.2.1) = true) (hrc : am_rc2 As = true)
    (ht : am_T X d a 0 (lv_args 0 As) [] h (fun v h' => am_T X (d + 1) r (pc + 3) L (v.toList ++ S1) h' Q E) (am_Th X (d + 1) r pc L Q E)) : am_T X (d + 1) r pc L S h Q E :=
  am_rinvk hq (fun call L' => by simp [am_step, am_sim, am_br, am_obr, am_pure, am_ld, am_sto, am_sym_nil, hn, am_ilen]) hlk hm hA hS hc hrc ht
theorem am_rldc {c : Int32} (hq : am_look r.2.2.2.2.2.2.2 pc = some (.ldc idx, 2)) (hc : am_look2 am_c32 r.2.2.2.2.1 idx = some c) (hx : c = Int32.ofInt x) (ht : am_T X d r (pc + 2) L (am_iv x :: S) h Q E) : am_T X d r pc L S h Q E :=
  am_T2 hq (fun _ => by simp [am_sim, am_br, am_obr, am_pure, am_ld, am_sto, hc, hx, am_ilen]) rfl ht
theorem am_rldcs {i : Nat} (hq : am_look r.2.2.2.2.2.2.2 pc = some (.ldc idx, 2)) (hc : am_look2 am_c32 r.2.2.2.2.1 idx = none) (hs : am_look2 am_st r.2.2.2.2.1 idx = some i) (ht : am_T X d r (pc + 2) L (.ref (1000000 + i) :: S) h Q E) : am_T X d r pc L S h Q E :=
  am_T1 hq (fun call L' hL => ⟨L', by simp [am_step, am_sim, am_br, am_obr, am_pure, am_ld, am_sto, hc, am_ldcs, hs, am_ilen], hL⟩) rfl ht
theorem am_rldc2 {c : Int64} (hq : am_look r.2.2.2.2.2.2.2 pc = some (.ldc2_w idx, 3)) (hc : am_look2 am_c64 r.2.2.2.2.1 idx = some c) (ht : am_T X d r (pc + 3) L (.long c :: S) h Q E) : am_T X d r pc L S h Q E :=
  am_T2 hq (fun _ => by simp [am_sim, am_br, am_obr, am_pure, am_ld, am_sto, hc, am_ilen]) rfl ht
theorem am_rslen (hq : am_look r.2.2.2.2.2.2.2 pc = some (.invokevirtual idx, 3)) (hf : am_slen r.2.2.2.2.1 idx S = some S1) (ht : am_T X d r (pc + 3) L S1 h Q E) : am_T X d r pc L S h Q E :=
  am_T1 hq (fun call L' hL => ⟨L', by simp [am_step, am_sim, am_br, am_obr, am_pure, am_ld, am_sto, am_sym_nil, hf, am_ilen], hL⟩) rfl ht
theorem am_rschr (hq : am_look r.2.2.2.2.2.2.2 pc = some (.invokevirtual idx, 3)) (hn : am_slen r.2.2.2.2.1 idx S = none) (hf : am_schr r.2.2.2.2.1 idx S = some S1) (ht : am_T X d r (pc + 3) L S1 h Q E) : am_T X d r pc L S h Q E :=
  am_T1 hq (fun call L' hL => ⟨L', by simp [am_step, am_sim, am_br, am_obr, am_pure, am_ld, am_sto, am_sym_nil, hn, hf, am_ilen], hL⟩) rfl ht
theorem am_racp (hq : am_look r.2.2.2.2.2.2.2 pc = some (.invokestatic idx, 3)) (hf : am_acp r.2.2.2.2.1 idx S h = some (S1, h1)) (hlen : h1.length = h.length) (ht : am_T X d r (pc + 3) L S1 h1 Q E) : am_T X d r pc L S h Q E :=
  am_T1 hq (fun call L' hL => ⟨L', by simp [am_step, am_sim, am_br, am_obr, am_pure, am_ld, am_sto, am_sym_nil, hf, am_ilen], hL⟩) hlen ht
end AmRules3
