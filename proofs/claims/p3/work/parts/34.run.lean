/-! THE LAW'S RUN, WHOLE -/
theorem am_cl {b : Bool} {x y : Int} (h1 : x ≤ 0) (h2 : y ≤ 0) : (bif b then x else y) ≤ 0 := by cases b <;> assumption
theorem am_ch {b : Bool} {x y : Int} (h1 : 0 ≤ x) (h2 : 0 ≤ y) : 0 ≤ (bif b then x else y) := by cases b <;> assumption
theorem am_fl0 (k : Nat) : am_fl k ≤ 0 := by unfold am_fl; repeat' (first | decide | apply am_cl)
theorem am_fh0 (k : Nat) : 0 ≤ am_fh k := by unfold am_fh; repeat' (first | decide | apply am_ch)
theorem am_bl0 (k : Nat) : am_bl k ≤ 0 := by unfold am_bl; repeat' (first | decide | apply am_cl)
theorem am_bh0 (k : Nat) : 0 ≤ am_bh k := by unfold am_bh; repeat' (first | decide | apply am_ch)
theorem am_rl0 (k : Nat) : am_rl k ≤ 0 := by unfold am_rl; repeat' (first | decide | apply am_cl)
theorem am_rh0 (k : Nat) : 0 ≤ am_rh k := by unfold am_rh; repeat' (first | decide | apply am_ch)
theorem am_sl0 (k : Nat) : am_sl_ k ≤ 0 := by unfold am_sl_; repeat' (first | decide | apply am_cl)
theorem am_sh0 (k : Nat) : 0 ≤ am_sh_ k := by unfold am_sh_; repeat' (first | decide | apply am_ch)
theorem am_atZ (n : Nat) (i : Int) : am_at (List.replicate n 0) i = 0 := by
  unfold am_at
  rw [List.getD_eq_getElem?_getD, List.getElem?_replicate]
  split <;> rfl
theorem am_aZc {k : Nat} (hk : k < 117) : am_aZ k = List.replicate (am_al k) 0 := by
  unfold am_aZ
  rw [show Nat.blt k 117 = true from Nat.ble_eq_true_of_le hk]
  rfl
theorem am_aZr {k : Nat} (hk : 119 ≤ k) : am_aZ k = List.replicate (am_ar k) 0 := by
  unfold am_aZ
  rw [show Nat.blt k 117 = false from Bool.eq_false_iff.mpr (fun h => by have := Nat.le_of_ble_eq_true h; omega), show Nat.beq k 118 = false from Bool.eq_false_iff.mpr (fun h => by have := Nat.eq_of_beq_eq_true h; omega)]
  rfl
theorem am_R3Z {n q : Int} {s l : Nat} (hq : 0 ≤ q) : am_R3 n q (List.replicate s 0) (List.replicate l 0) := fun i _ _ => by rw [am_atZ, am_atZ]; omega
theorem am_LI0 : am_LI am_fZ am_aZ := by
  refine ⟨⟨⟨⟨fun k _ _ => ⟨am_fl0 k, am_fh0 k⟩, fun k k1 k2 => ?_, fun _ _ => rfl, fun _ _ => rfl, am_RU_f _⟩, ?_, ?_, ?_, ?_, ?_, ?_⟩, ⟨by decide, by decide⟩, ⟨by decide, by decide⟩⟩, ⟨⟨⟨fun k _ _ _ => ⟨am_rl0 k, am_rh0 k⟩, fun k k1 k2 => ?_, fun _ _ => rfl, fun _ _ => rfl⟩, ?_, ?_⟩, ⟨by decide, by decide⟩, by decide⟩, rfl⟩
  · rw [am_aZc k2]
    exact ⟨List.length_replicate, fun x hx => by rw [List.eq_of_mem_replicate hx]; exact ⟨am_bl0 k, am_bh0 k⟩⟩
  · intro i _ _
    rw [am_aZc (by decide), am_aZc (by decide), am_atZ, am_atZ]
    exact Int.le_refl 0
  · exact am_R3_0 _ _ _
  · exact am_R3_0 _ _ _
  · exact am_R5_0 _ _
  · exact am_R6_0 _
  · rw [am_aZc (by decide), am_aZc (by decide)]
    exact am_R3Z (by decide)
  · rw [am_aZr k1]
    exact ⟨List.length_replicate, fun x hx => by rw [List.eq_of_mem_replicate hx]; exact ⟨am_sl0 k, am_sh0 k⟩⟩
  · rw [am_aZr (by decide), am_aZr (by decide)]
    exact am_R3Z (by decide)
  · exact am_R3_0 _ _ _
theorem am_lawrun {X : List Value} {sv : Int → Int} (hL : X.length ≤ 2048) (hX : ∀ x : Int, 0 ≤ x → x < X.length → X[x.toNat]? = some (am_iv (sv x)) ∧ (-2147483648 ≤ sv x ∧ sv x ≤ 2147483647)) :
    ∃ n h' k j, am_run (X, [], []) n 30 am_m183 0 [(0, .ref 2000000)] [] [] = some (.inl (some (.int 1)), h', k, j) ∧ k ≤ 601024 ∧ j ≤ 7293034 := by
  have hp := am_chkP_ok
  unfold am_chkP at hp
  split at hp
  · rename_i pc L S h k j hg
    simp only [Bool.and_eq_true, decide_eq_true_eq] at hp
    obtain ⟨⟨⟨⟨⟨⟨⟨⟨⟨p0, p1⟩, p2⟩, p3⟩, p4⟩, p5⟩, p6⟩, p7⟩, p8⟩, p9⟩ := hp
    have e0 := Nat.eq_of_beq_eq_true p0
    subst e0 p6 p7
    obtain ⟨n, u, u1, u2, u3, u4⟩ := am_loop (X := X) (sv := sv) (d := 29) (by omega) hL hX (_ + 1) (i := 0) (w := 0) (e := 0) (Nat.lt_succ_self _) am_LI0 (by omega) (by omega) (by omega) L (by
      intro q hq
      simp only [List.mem_cons, List.not_mem_nil, or_false] at hq
      rcases hq with rfl | rfl | rfl | rfl | rfl
      · exact p1
      · exact p2
      · exact p3
      · exact p4
      · exact p5)
    obtain ⟨u', v1, v2, v3, v4, v5⟩ := am_pg_run (X := X) _ _ _ _ _ _ _ _ _ _ _ _ _ hg (n + 4000) u (by omega) (am_run_up _ _ _ _ _ _ _ _ u1 _ _ (by omega) (Nat.le_refl _))
    obtain ⟨o, h', k', j'⟩ := u'
    obtain ⟨o1, h1, k1, j1⟩ := u
    replace v2 : o = o1 := v2
    replace v3 : h' = h1 := v3
    replace v4 : k' + 0 = k1 + k := v4
    replace v5 : j' + 0 = j1 + j := v5
    replace u2 : h1.length = (am_enc am_fZ am_aZ (.long 0) 0).length + k1 := u2
    replace u3 : j1 = 6 * k1 := u3
    rw [am_enc_len] at u2
    have p8 := Nat.le_of_ble_eq_true p8
    have p9 := Nat.le_of_ble_eq_true p9
    subst v2 v3
    cases o with
    | inr x => exact (show False from u4).elim
    | inl v =>
      obtain ⟨rfl, u5⟩ := (show v = some (am_iv 1) ∧ h'.length ≤ 2164 from u4)
      exact ⟨_, h', k', j', v1, by omega, by omega⟩
  · cases hp
