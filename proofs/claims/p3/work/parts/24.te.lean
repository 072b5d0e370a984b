/-! RUNS OVER THE HEAP OF THE LAW'S LOOP -/
abbrev aF := Nat → Int
abbrev aA := Nat → List Int
/-- from here the run ends: it returns with Q of what it returns and of the ints and arrays then, or throws with E -/
abbrev am_TE (X : List Value) (d : Nat) (r : aM) (pc : Nat) (L : aL) (S : List Value) (f : aF) (a : aA) (w : Value) (e : Nat) (Q : Option Value → aF → aA → Prop) (E : Nat → aF → aA → Prop) : Prop :=
  am_T X d r pc L S (am_enc f a w e) (fun v h' => ∃ f' a', h' = am_enc f' a' w e ∧ Q v f' a') (fun x h' => ∃ f' a', h' = am_enc f' a' w (e + 1) ∧ E x f' a')
def am_QI (P : Int → aF → aA → Prop) : Option Value → aF → aA → Prop := fun v f a => ∃ b : Int, v = some (am_iv b) ∧ P b f a
def am_QV (P : aF → aA → Prop) : Option Value → aF → aA → Prop := fun v f a => v = none ∧ P f a
def am_QR (P : Nat → aF → aA → Prop) : Option Value → aF → aA → Prop := fun v f a => ∃ b : Nat, v = some (.ref b) ∧ P b f a
section AmTE
variable {X : List Value} {d : Nat} {r : aM} {pc : Nat} {L : aL} {S S1 : List Value} {f : aF} {a : aA} {w : Value} {e : Nat} {Q : Option Value → aF → aA → Prop} {E : Nat → aF → aA → Prop} {v : Value} {k c : Nat} {x y : Int} {idx : Nat}
theorem am_TE.mono {Q' : Option Value → aF → aA → Prop} {E' : Nat → aF → aA → Prop} (ht : am_TE X d r pc L S f a w e Q E) (hQ : ∀ v f a, Q v f a → Q' v f a) (hE : ∀ x f a, E x f a → E' x f a) : am_TE X d r pc L S f a w e Q' E' :=
  am_T.mono ht (fun v h ⟨f', a', h1, h2⟩ => ⟨f', a', h1, hQ _ _ _ h2⟩) (fun x h ⟨f', a', h1, h2⟩ => ⟨f', a', h1, hE _ _ _ h2⟩)
theorem am_TE.int {P P' : Int → aF → aA → Prop} {E' : Nat → aF → aA → Prop} (ht : am_TE X d r pc L S f a w e (am_QI P) E) (hQ : ∀ b f a, P b f a → P' b f a) (hE : ∀ x f a, E x f a → E' x f a) : am_TE X d r pc L S f a w e (am_QI P') E' :=
  ht.mono (fun v f a ⟨b, h1, h2⟩ => ⟨b, h1, hQ _ _ _ h2⟩) hE
theorem am_TE.void {P P' : aF → aA → Prop} {E' : Nat → aF → aA → Prop} (ht : am_TE X d r pc L S f a w e (am_QV P) E) (hQ : ∀ f a, P f a → P' f a) (hE : ∀ x f a, E x f a → E' x f a) : am_TE X d r pc L S f a w e (am_QV P') E' :=
  ht.mono (fun v f a ⟨h1, h2⟩ => ⟨h1, hQ _ _ h2⟩) hE
theorem am_TE.refr {P P' : Nat → aF → aA → Prop} {E' : Nat → aF → aA → Prop} (ht : am_TE X d r pc L S f a w e (am_QR P) E) (hQ : ∀ b f a, P b f a → P' b f a) (hE : ∀ x f a, E x f a → E' x f a) : am_TE X d r pc L S f a w e (am_QR P') E' :=
  ht.mono (fun v f a ⟨b, h1, h2⟩ => ⟨b, h1, hQ _ _ _ h2⟩) hE
theorem am_eret (hq : am_look r.2.2.2.2.2.2.2 pc = some (.return_, 1)) (hr : am_rv r.2.2.2.1 [] = true) {P : aF → aA → Prop} (hQ : P f a) : am_TE X d r pc L [] f a w e (am_QV P) E := am_rret hq hr ⟨f, a, rfl, rfl, hQ⟩
theorem am_eiret (hq : am_look r.2.2.2.2.2.2.2 pc = some (.ireturn, 1)) (hr : r.2.2.2.1 = some .int) {P : Int → aF → aA → Prop} (hQ : P x f a) : am_TE X d r pc L [am_iv x] f a w e (am_QI P) E := am_riret hq (by rw [hr]; rfl) ⟨f, a, rfl, x, rfl, hQ⟩
theorem am_ebret (hq : am_look r.2.2.2.2.2.2.2 pc = some (.ireturn, 1)) (hr : r.2.2.2.1 = some .boolean) (hx : x = 0 ∨ x = 1) {P : Int → aF → aA → Prop} (hQ : P x f a) : am_TE X d r pc L [am_iv x] f a w e (am_QI P) E := am_riret hq (by rw [hr]; rcases hx with rfl | rfl <;> rfl) ⟨f, a, rfl, x, rfl, hQ⟩
theorem am_earet {s : String} (hq : am_look r.2.2.2.2.2.2.2 pc = some (.areturn, 1)) (hr : r.2.2.2.1 = some (.object s)) {P : Nat → aF → aA → Prop} (hQ : P k f a) : am_TE X d r pc L [.ref k] f a w e (am_QR P) E := am_raret hq (by rw [hr]; rfl) ⟨f, a, rfl, k, rfl, hQ⟩
theorem am_ethrow {ik c : Nat} (hq : am_look r.2.2.2.2.2.2.2 pc = some (.new ik, 3)) (hn : am_look2 am_nw r.2.2.2.2.1 ik = none) (ht : am_thr r ik pc = some c) (hs : Nat.ble (am_sum S) 8 = true) (hE : E c f a) : am_TE X d r pc L S f a w e Q E := am_rthrow hq hn ht hs ⟨f, a, am_enc_none, hE⟩
/-- a method without handlers calls -/
theorem am_ecall {As : List Value} {m : aM} {Q1 : Option Value → aF → aA → Prop} (hh : r.2.2.2.2.2.1 = [])
    (k : am_T X d m 0 (lv_args 0 As) [] (am_enc f a w e) (fun v h' => am_T X (d + 1) r (pc + 3) L (v.toList ++ S1) h' (fun v h' => ∃ f' a', h' = am_enc f' a' w e ∧ Q v f' a') (fun x h' => ∃ f' a', h' = am_enc f' a' w (e + 1) ∧ E x f' a')) (am_Th X (d + 1) r pc L (fun v h' => ∃ f' a', h' = am_enc f' a' w e ∧ Q v f' a') (fun x h' => ∃ f' a', h' = am_enc f' a' w (e + 1) ∧ E x f' a')) → am_TE X (d + 1) r pc L S f a w e Q E)
    (ht : am_TE X d m 0 (lv_args 0 As) [] f a w e Q1 E) (hk : ∀ v f' a', Q1 v f' a' → am_TE X (d + 1) r (pc + 3) L (v.toList ++ S1) f' a' w e Q E) : am_TE X (d + 1) r pc L S f a w e Q E := by
  refine k (am_T.mono ht (fun v h ⟨f', a', h1, h2⟩ => ?_) (fun x h h9 => ?_))
  · rw [h1]; exact hk v f' a' h2
  · unfold am_Th
    rw [hh]
    exact h9
theorem am_estaticI {n : Nat} {m : aM} {As : List Value} (hq : am_look r.2.2.2.2.2.2.2 pc = some (.invokestatic idx, 3)) (hn : am_acp r.2.2.2.2.1 idx S (am_enc f a w e) = none) (hlk : am_look2 am_lk r.2.2.2.2.1 idx = some (n, 0)) (hm : am_prog[n]? = some m) (hA : (S.take (am_nar 0 m)).reverse = As) (hS : S.drop (am_nar 0 m) = S1) (hc : (Nat.beq As.length (am_nar 0 m) && Nat.ble (am_sum S1) 8 && Nat.ble (am_sum As) m.2.2.1) = true) (hh : r.2.2.2.2.2.1 = [])
    (ht : am_TE X d m 0 (lv_args 0 As) [] f a w e (am_QI (fun b f' a' => am_TE X (d + 1) r (pc + 3) L (am_iv b :: S1) f' a' w e Q E)) E) : am_TE X (d + 1) r pc L S f a w e Q E :=
  am_ecall hh (fun k => am_rstatic hq hn hlk hm hA hS hc k) ht (fun v f' a' h1 => by obtain ⟨b, rfl, h2⟩ := h1; exact h2)
theorem am_estaticV {n : Nat} {m : aM} {As : List Value} (hq : am_look r.2.2.2.2.2.2.2 pc = some (.invokestatic idx, 3)) (hn : am_acp r.2.2.2.2.1 idx S (am_enc f a w e) = none) (hlk : am_look2 am_lk r.2.2.2.2.1 idx = some (n, 0)) (hm : am_prog[n]? = some m) (hA : (S.take (am_nar 0 m)).reverse = As) (hS : S.drop (am_nar 0 m) = S1) (hc : (Nat.beq As.length (am_nar 0 m) && Nat.ble (am_sum S1) 8 && Nat.ble (am_sum As) m.2.2.1) = true) (hh : r.2.2.2.2.2.1 = [])
    (ht : am_TE X d m 0 (lv_args 0 As) [] f a w e (am_QV (fun f' a' => am_TE X (d + 1) r (pc + 3) L S1 f' a' w e Q E)) E) : am_TE X (d + 1) r pc L S f a w e Q E :=
  am_ecall hh (fun k => am_rstatic hq hn hlk hm hA hS hc k) ht (fun v f' a' h1 => by obtain ⟨rfl, h2⟩ := h1; exact h2)
theorem am_estaticR {n : Nat} {m : aM} {As : List Value} (hq : am_look r.2.2.2.2.2.2.2 pc = some (.invokestatic idx, 3)) (hn : am_acp r.2.2.2.2.1 idx S (am_enc f a w e) = none) (hlk : am_look2 am_lk r.2.2.2.2.1 idx = some (n, 0)) (hm : am_prog[n]? = some m) (hA : (S.take (am_nar 0 m)).reverse = As) (hS : S.drop (am_nar 0 m) = S1) (hc : (Nat.beq As.length (am_nar 0 m) && Nat.ble (am_sum S1) 8 && Nat.ble (am_sum As) m.2.2.1) = true) (hh : r.2.2.2.2.2.1 = [])
    (ht : am_TE X d m 0 (lv_args 0 As) [] f a w e (am_QR (fun b f' a' => am_TE X (d + 1) r (pc + 3) L (.ref b :: S1) f' a' w e Q E)) E) : am_TE X (d + 1) r pc L S f a w e Q E :=
  am_ecall hh (fun k => am_rstatic hq hn hlk hm hA hS hc k) ht (fun v f' a' h1 => by obtain ⟨b, rfl, h2⟩ := h1; exact h2)
theorem am_evirtualI {n : Nat} {m : aM} {As : List Value} (hq : am_look r.2.2.2.2.2.2.2 pc = some (.invokevirtual idx, 3)) (hn : am_slen r.2.2.2.2.1 idx S = none) (hn2 : am_schr r.2.2.2.2.1 idx S = none) (hlk : am_look2 am_lk r.2.2.2.2.1 idx = some (n, 1)) (hm : am_prog[n]? = some m) (hA : (S.take (am_nar 1 m)).reverse = As) (hS : S.drop (am_nar 1 m) = S1) (hc : (Nat.beq As.length (am_nar 1 m) && Nat.ble (am_sum S1) 8 && Nat.ble (am_sum As) m.2.2.1) = true) (hrc : am_rc1 m (am_enc f a w e) As = true) (hh : r.2.2.2.2.2.1 = [])
    (ht : am_TE X d m 0 (lv_args 0 As) [] f a w e (am_QI (fun b f' a' => am_TE X (d + 1) r (pc + 3) L (am_iv b :: S1) f' a' w e Q E)) E) : am_TE X (d + 1) r pc L S f a w e Q E :=
  am_ecall hh (fun k => am_rvirtual hq hn hn2 hlk hm hA hS hc hrc k) ht (fun v f' a' h1 => by obtain ⟨b, rfl, h2⟩ := h1; exact h2)
theorem am_evirtualV {n : Nat} {m : aM} {As : List Value} (hq : am_look r.2.2.2.2.2.2.2 pc = some (.invokevirtual idx, 3)) (hn : am_slen r.2.2.2.2.1 idx S = none) (hn2 : am_schr r.2.2.2.2.1 idx S = none) (hlk : am_look2 am_lk r.2.2.2.2.1 idx = some (n, 1)) (hm : am_prog[n]? = some m) (hA : (S.take (am_nar 1 m)).reverse = As) (hS : S.drop (am_nar 1 m) = S1) (hc : (Nat.beq As.length (am_nar 1 m) && Nat.ble (am_sum S1) 8 && Nat.ble (am_sum As) m.2.2.1) = true) (hrc : am_rc1 m (am_enc f a w e) As = true) (hh : r.2.2.2.2.2.1 = [])
    (ht : am_TE X d m 0 (lv_args 0 As) [] f a w e (am_QV (fun f' a' => am_TE X (d + 1) r (pc + 3) L S1 f' a' w e Q E)) E) : am_TE X (d + 1) r pc L S f a w e Q E :=
  am_ecall hh (fun k => am_rvirtual hq hn hn2 hlk hm hA hS hc hrc k) ht (fun v f' a' h1 => by obtain ⟨rfl, h2⟩ := h1; exact h2)
theorem am_evirtualR {n : Nat} {m : aM} {As : List Value} (hq : am_look r.2.2.2.2.2.2.2 pc = some (.invokevirtual idx, 3)) (hn : am_slen r.2.2.2.2.1 idx S = none) (hn2 : am_schr r.2.2.2.2.1 idx S = none) (hlk : am_look2 am_lk r.2.2.2.2.1 idx = some (n, 1)) (hm : am_prog[n]? = some m) (hA : (S.take (am_nar 1 m)).reverse = As) (hS : S.drop (am_nar 1 m) = S1) (hc : (Nat.beq As.length (am_nar 1 m) && Nat.ble (am_sum S1) 8 && Nat.ble (am_sum As) m.2.2.1) = true) (hrc : am_rc1 m (am_enc f a w e) As = true) (hh : r.2.2.2.2.2.1 = [])
    (ht : am_TE X d m 0 (lv_args 0 As) [] f a w e (am_QR (fun b f' a' => am_TE X (d + 1) r (pc + 3) L (.ref b :: S1) f' a' w e Q E)) E) : am_TE X (d + 1) r pc L S f a w e Q E :=
  am_ecall hh (fun k => am_rvirtual hq hn hn2 hlk hm hA hS hc hrc k) ht (fun v f' a' h1 => by obtain ⟨b, rfl, h2⟩ := h1; exact h2)
end AmTE
