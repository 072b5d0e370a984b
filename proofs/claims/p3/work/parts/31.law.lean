/-! THE LAW'S HELPERS AND ITS LOOP -/
section AmLaw
variable {X : List Value} {d : Nat} {r : aM} {pc : Nat} {L : aL} {S S1 : List Value} {h h1 : aH} {f f1 : aF} {a a1 : aA} {w : Int64} {e : Nat} {Q : Option Value → aH → Prop} {E : Nat → aH → Prop} {v : Value} {k : Nat} {x y y1 y2 : Int} {idx : Nat} {z z1 : Int64} {sv : Int → Int}
theorem am_rxlen (hq : am_look r.2.2.2.2.2.2.2 pc = some (.arraylength, 1)) (ht : am_T X d r (pc + 1) L (am_iv (X.length : Int) :: S) h Q E) : am_T X d r pc L (.ref 2000000 :: S) h Q E := by
  have hf : am_len X (.ref 2000000 :: S) h = some (am_iv (X.length : Int) :: S) := by rw [am_iv, Int32.ofInt_eq_ofNat]; rfl
  exact am_T2 hq (fun _ => by simp [am_sim, am_br, am_obr, am_pure, am_ld, am_sto, hf, am_ilen]) rfl ht
theorem am_rxald (hq : am_look r.2.2.2.2.2.2.2 pc = some (.iaload, 1)) (h0 : 0 ≤ x) (h1 : x < 2147483648) (hx : X[x.toNat]? = some (am_iv y)) (ht : am_T X d r (pc + 1) L (am_iv y :: S) h Q E) : am_T X d r pc L (am_iv x :: .ref 2000000 :: S) h Q E := by
  obtain ⟨e1, e2⟩ := am_ixN h0 h1
  have hf : am_ald X 0 (am_iv x :: .ref 2000000 :: S) h = some (am_iv y :: S) := by
    have hg : am_get h 2000000 = none := rfl
    simp only [am_ald, hg, am_ix, e1, e2, hx]
    rfl
  exact am_T2 hq (fun _ => by simp [am_sim, am_br, am_obr, am_pure, am_ld, am_sto, hf, am_ilen]) rfl ht
set_option maxRecDepth 100000 in
theorem am_seo : (am_enc f a (.long w) e).set 163 (some (true, 2, [.long z])) = am_enc f a (.long z) e := rfl
theorem am_rlast (hq : am_look r.2.2.2.2.2.2.2 pc = some (.lastore, 1)) (ht : am_T X d r (pc + 1) L S (am_enc f a (.long z) e) Q E) : am_T X d r pc L (.long z :: am_iv 0 :: .ref 163 :: S) (am_enc f a (.long w) e) Q E := by
  have hf : am_ast 2 (.long z :: am_iv 0 :: .ref 163 :: S) (am_enc f a (.long w) e) = some (S, am_enc f a (.long z) e) := by
    simp only [am_ast, am_ge163]
    exact congrArg (fun q => some (S, q)) am_seo
  exact am_T2 hq (fun _ => by simp [am_sim, am_br, am_obr, am_pure, am_ld, am_sto, hf, am_ilen]) (by rw [am_enc_len, am_enc_len]) ht
theorem am_rlald (hq : am_look r.2.2.2.2.2.2.2 pc = some (.laload, 1)) (ht : am_T X d r (pc + 1) L (.long w :: S) (am_enc f a (.long w) e) Q E) : am_T X d r pc L (am_iv 0 :: .ref 163 :: S) (am_enc f a (.long w) e) Q E := by
  have hf : am_ald X 2 (am_iv 0 :: .ref 163 :: S) (am_enc f a (.long w) e) = some (.long w :: S) := by
    simp only [am_ald, am_ge163]
    rfl
  exact am_T2 hq (fun _ => by simp [am_sim, am_br, am_obr, am_pure, am_ld, am_sto, hf, am_ilen]) rfl ht
theorem am_rlcmp0 (hq : am_look r.2.2.2.2.2.2.2 pc = some (.lcmp, 1)) (ht : am_T X d r (pc + 1) L (am_iv 0 :: S) h Q E) : am_T X d r pc L (.long z :: .long z :: S) h Q E :=
  am_rpure hq (fun _ => by
    have hf : am_pure .lcmp (.long z :: .long z :: S) = some (am_iv 0 :: S) := by
      show some (Value.int (lg_cmp z z) :: S) = some (am_iv 0 :: S)
      rw [show lg_cmp z z = 0 by unfold lg_cmp; simp]
      rfl
    simp [am_sim, am_br, am_obr, hf, am_ilen]) ht
/-- the law calls a method of an object -/
theorem am_lvirt {n : Nat} {m : aM} {As : List Value} {w : Value} {P : Int → aF → aA → Prop} (hq : am_look r.2.2.2.2.2.2.2 pc = some (.invokevirtual idx, 3)) (hn : am_slen r.2.2.2.2.1 idx S = none) (hn2 : am_schr r.2.2.2.2.1 idx S = none) (hlk : am_look2 am_lk r.2.2.2.2.1 idx = some (n, 1)) (hm : am_prog[n]? = some m) (hA : (S.take (am_nar 1 m)).reverse = As) (hS : S.drop (am_nar 1 m) = S1) (hc : (Nat.beq As.length (am_nar 1 m) && Nat.ble (am_sum S1) 8 && Nat.ble (am_sum As) m.2.2.1) = true) (hrc : am_rc1 m (am_enc f a w e) As = true)
    (ht : am_TE X d m 0 (lv_args 0 As) [] f a w e (am_QI P) (fun _ _ _ => False)) (hk : ∀ b f' a', P b f' a' → am_T X (d + 1) r (pc + 3) L (am_iv b :: S1) (am_enc f' a' w e) Q E) : am_T X (d + 1) r pc L S (am_enc f a w e) Q E :=
  am_rvirtual hq hn hn2 hlk hm hA hS hc hrc (am_T.mono ht (fun v h' ⟨f', a', h1, b, h2, h3⟩ => by subst h1; subst h2; exact hk b f' a' h3) (fun x h' ⟨_, _, _, h3⟩ => h3.elim))
/-- the law calls a helper: out and an exception may be new -/
def am_HQ (e : Nat) (P : Int → aF → aA → Int64 → Prop) : Option Value → aH → Prop := fun v h' => ∃ (b : Int) (f1 : aF) (a1 : aA) (w1 : Int64) (e1 : Nat), v = some (am_iv b) ∧ h' = am_enc f1 a1 (.long w1) e1 ∧ e1 ≤ e + 1 ∧ P b f1 a1 w1
theorem am_lstat {n : Nat} {m : aM} {As : List Value} {P : Int → aF → aA → Int64 → Prop} (hq : am_look r.2.2.2.2.2.2.2 pc = some (.invokestatic idx, 3)) (hn : am_acp r.2.2.2.2.1 idx S h = none) (hlk : am_look2 am_lk r.2.2.2.2.1 idx = some (n, 0)) (hm : am_prog[n]? = some m) (hA : (S.take (am_nar 0 m)).reverse = As) (hS : S.drop (am_nar 0 m) = S1) (hc : (Nat.beq As.length (am_nar 0 m) && Nat.ble (am_sum S1) 8 && Nat.ble (am_sum As) m.2.2.1) = true)
    (ht : am_T X d m 0 (lv_args 0 As) [] h (am_HQ e P) (fun _ _ => False)) (hk : ∀ b f' a' w' e', e' ≤ e + 1 → P b f' a' w' → am_T X (d + 1) r (pc + 3) L (am_iv b :: S1) (am_enc f' a' (.long w') e') Q E) : am_T X (d + 1) r pc L S h Q E :=
  am_rstatic hq hn hlk hm hA hS hc (am_T.mono ht (fun v h' ⟨b, f', a', w', e', h1, h2, h3, h4⟩ => by subst h1; subst h2; exact hk b f' a' w' e' h3 h4) (fun x h' h3 => h3.elim))
/-- a helper's try: the method of the object that it calls returns, or throws and is caught -/
theorem am_htry {n : Nat} {m : aM} {As : List Value} {P : Int → aF → aA → Prop} {EX : Nat → aF → aA → Prop} {w : Value} (hq : am_look r.2.2.2.2.2.2.2 pc = some (.invokevirtual idx, 3)) (hn : am_slen r.2.2.2.2.1 idx S = none) (hn2 : am_schr r.2.2.2.2.1 idx S = none) (hlk : am_look2 am_lk r.2.2.2.2.1 idx = some (n, 1)) (hm : am_prog[n]? = some m) (hA : (S.take (am_nar 1 m)).reverse = As) (hS : S.drop (am_nar 1 m) = S1) (hc : (Nat.beq As.length (am_nar 1 m) && Nat.ble (am_sum S1) 8 && Nat.ble (am_sum As) m.2.2.1) = true) (hrc : am_rc1 m (am_enc f a w e) As = true)
    (ht : am_TE X d m 0 (lv_args 0 As) [] f a w e (am_QI P) EX) (hk : ∀ b f' a', P b f' a' → am_T X (d + 1) r (pc + 3) L (am_iv b :: S1) (am_enc f' a' w e) Q E)
    (hx : ∀ x f' a', EX x f' a' → am_Th X (d + 1) r pc L Q E x (am_enc f' a' w (e + 1))) : am_T X (d + 1) r pc L S (am_enc f a w e) Q E :=
  am_rvirtual hq hn hn2 hlk hm hA hS hc hrc (am_T.mono ht (fun v h' ⟨f', a', h1, b, h2, h3⟩ => by subst h1; subst h2; exact hk b f' a' h3) (fun x h' ⟨f', a', h1, h3⟩ => by subst h1; exact hx x f' a' h3))
/-- caught: astore, iconst, ireturn -/
theorem am_hcat {hp lo hi n : Nat} {c : Int} (hh : am_hand r.2.2.2.2.1 pc k r.2.2.2.2.2.1 = some (some hp)) (hlen : h.length - 1 < 1000000) (ht : am_T X d r hp L [.ref (h.length - 1)] h Q E) : am_Th X d r pc L Q E k h := by
  unfold am_Th
  rw [hh]
  exact ⟨hlen, ht⟩
/-- the two, between two calls -/
def am_LI (f : aF) (a : aA) : Prop := am_CP f a ∧ am_PP f a ∧ f 1 = f 11707
theorem am_PP_cf (hP : am_PP f a) (hc : am_cf f a f1 a1) : am_PP f1 a1 := by
  obtain ⟨⟨hJ, h4, h6⟩, hm, hl⟩ := hP
  refine ⟨⟨⟨fun k k1 k2 k3 => ?_, fun k k1 k2 => ?_, fun _ _ => rfl, fun _ _ => rfl⟩, ?_, ?_⟩, ?_, ?_⟩
  · rw [hc.1 k (by omega)]; exact hJ.1 k k1 k2 k3
  · rw [hc.2 k (by omega)]; exact hJ.2.1 k k1 k2
  · rw [hc.2 149 (by decide), hc.2 150 (by decide)]; exact h4
  · rw [hc.1 11757 (by decide), hc.1 11763 (by decide), hc.2 159 (by decide), hc.2 160 (by decide)]; exact h6
  · rw [hc.1 11707 (by decide)]; exact hm
  · rw [hc.2 118 (by decide)]; exact hl
theorem am_CP_rf (hP : am_CP f a) (hc : am_rf f a f1 a1) : am_CP f1 a1 := by
  obtain ⟨⟨hJ, r1, r3, r4, r5, r6, r8⟩, hm, hs⟩ := hP
  refine ⟨⟨⟨fun k k1 k2 => ?_, fun k k1 k2 => ?_, fun _ _ => rfl, fun _ _ => rfl, am_RU_f _⟩, ?_, ?_, ?_, ?_, ?_, ?_⟩, ?_, ?_⟩
  · rw [hc.1 k (by omega)]; exact hJ.1 k k1 k2
  · rw [hc.2 k (by omega)]; exact hJ.2.1 k k1 k2
  · rw [hc.2 5 (by decide), hc.2 6 (by decide)]; exact r1
  · rw [hc.1 1709 (by decide), hc.1 1710 (by decide), hc.2 24 (by decide), hc.2 25 (by decide)]; exact r3
  · rw [hc.1 10606 (by decide), hc.1 10607 (by decide), hc.2 109 (by decide), hc.2 110 (by decide)]; exact r4
  · rw [hc.1 10606 (by decide), hc.2 107 (by decide), hc.2 108 (by decide)]; exact r5
  · rw [hc.1 11406 (by decide), hc.2 115 (by decide)]; exact r6
  · rw [hc.2 24 (by decide), hc.2 25 (by decide)]; exact r8
  · rw [hc.1 1 (by decide)]; exact hm
  · rw [hc.1 2 (by decide), hc.1 10606 (by decide)]; exact hs
/-- bytes, caught -/
theorem am_h180 (hd : 2 ≤ d) (he : e ≤ 2000) (hC : am_CP f a) (hy : -2147483648 ≤ y2 ∧ y2 ≤ 2147483647) : am_T X d am_m179 0 (lv_args 0 [.ref 0, .long z, am_iv y2, .ref 163]) [] (am_enc f a (.long w) e)
    (am_HQ e (fun b f1 a1 w1 => am_CP f1 a1 ∧ am_cf f a f1 a1 ∧ ((b = 0 ∧ w1 = (Int32.ofInt (f 1 + y2)).toInt64 ∧ (1 ≤ y2 ∧ y2 ≤ 8) ∧ f 1 + y2 ≤ 360 ∧ f1 1 = f 1 + y2) ∨ (b = 1 ∧ (y2 < 1 ∨ 8 < y2) ∧ f1 1 = f 1) ∨ (b = 2 ∧ (1 ≤ y2 ∧ y2 ≤ 8) ∧ 360 < f 1 + y2 ∧ f1 1 = f 1)))) (fun _ _ => False) := by
  obtain ⟨d, rfl⟩ : ∃ d0, d = d0 + 1 := ⟨d - 1, by omega⟩
  refine am_raload rfl rfl rfl ?_
  refine am_riconst rfl ?_
  refine am_raload_n rfl rfl rfl ?_
  refine am_rlload_n rfl rfl rfl ?_
  refine am_riload_n rfl rfl rfl ?_
  refine am_htry (m := am_m98) (As := [.ref 0, .long z, am_iv y2]) (S1 := [am_iv 0, .ref 163]) rfl rfl rfl rfl rfl rfl rfl rfl rfl (am_ct98 (by omega) hC hy) (fun b f1 a1 hq => ?_) (fun x f1 a1 hx => ?_)
  · refine am_ri2l rfl ?_
    refine am_rlast rfl ?_
    refine am_rgoto rfl rfl ?_
    refine am_riconst rfl ?_
    exact am_riret rfl rfl ⟨0, f1, a1, _, e, rfl, rfl, by omega, hq.2.2.1, hq.2.2.2.2, Or.inl ⟨rfl, by rw [hq.1], ⟨hq.2.1.1, hq.2.1.2.1⟩, hq.2.1.2.2, hq.2.2.2.1⟩⟩
  · obtain ⟨hx, rfl, rfl⟩ := hx
    rcases hx with ⟨rfl, hx⟩ | ⟨rfl, h1, h2, h3⟩
    · refine am_hcat (hp := 14) (lo := 0) (hi := 0) (n := 0) (c := 0) rfl (by rw [am_enc_len]; omega) ?_
      refine am_rastore (L1 := [(0, .ref 0), (1, .long z), (3, am_iv y2), (4, .ref 163), (5, .ref ((am_enc f a (.long w) (e + 1)).length - 1))]) rfl rfl rfl rfl rfl ?_
      refine am_riconst rfl ?_
      exact am_riret rfl rfl ⟨1, f, a, _, e + 1, rfl, rfl, by omega, hC, am_cf.refl f a, Or.inr (Or.inl ⟨rfl, hx, rfl⟩)⟩
    · refine am_hcat (hp := 18) (lo := 0) (hi := 0) (n := 0) (c := 0) rfl (by rw [am_enc_len]; omega) ?_
      refine am_rastore (L1 := [(0, .ref 0), (1, .long z), (3, am_iv y2), (4, .ref 163), (5, .ref ((am_enc f a (.long w) (e + 1)).length - 1))]) rfl rfl rfl rfl rfl ?_
      refine am_riconst rfl ?_
      exact am_riret rfl rfl ⟨2, f, a, _, e + 1, rfl, rfl, by omega, hC, am_cf.refl f a, Or.inr (Or.inr ⟨rfl, ⟨h1, h2⟩, h3, rfl⟩)⟩
/-- judge, caught -/
theorem am_h181 (hd : 28 ≤ d) (he : e ≤ 2000) (hC : am_CP f a) (hy : -2147483648 ≤ y1 ∧ y1 ≤ 2147483647) : am_T X d am_m180 0 (lv_args 0 [.ref 0, am_iv y1, .ref 163]) [] (am_enc f a (.long w) e)
    (am_HQ e (fun b f1 a1 w1 => am_CP f1 a1 ∧ f1 1 = f 1 ∧ am_cf f a f1 a1)) (fun _ _ => False) := by
  obtain ⟨d, rfl⟩ : ∃ d0, d = d0 + 1 := ⟨d - 1, by omega⟩
  refine am_raload_n rfl rfl rfl ?_
  refine am_riconst rfl ?_
  refine am_raload_n rfl rfl rfl ?_
  refine am_riload_n rfl rfl rfl ?_
  refine am_htry (m := am_m100) (As := [.ref 0, am_iv y1]) (S1 := [am_iv 0, .ref 163]) rfl rfl rfl rfl rfl rfl rfl rfl rfl (am_ct100 (by omega) hC hy) (fun b f1 a1 hq => ?_) (fun x f1 a1 hx => ?_)
  · refine am_ri2l rfl ?_
    refine am_rlast rfl ?_
    refine am_rgoto rfl rfl ?_
    refine am_riconst rfl ?_
    exact am_riret rfl rfl ⟨0, f1, a1, _, e, rfl, rfl, by omega, hq.2⟩
  · obtain ⟨hx, hq⟩ := hx
    rcases (show x = 0 ∨ x = 1 ∨ x = 2 by omega) with rfl | rfl | rfl
    · refine am_hcat (hp := 12) (lo := 0) (hi := 0) (n := 0) (c := 0) rfl (by rw [am_enc_len]; omega) ?_
      refine am_rastore_n (L1 := [(0, .ref 0), (1, am_iv y1), (2, .ref 163), (3, .ref ((am_enc f1 a1 (.long w) (e + 1)).length - 1))]) rfl rfl rfl rfl rfl ?_
      refine am_riconst rfl ?_
      exact am_riret rfl rfl ⟨1, f1, a1, _, e + 1, rfl, rfl, by omega, hq⟩
    · refine am_hcat (hp := 15) (lo := 0) (hi := 0) (n := 0) (c := 0) rfl (by rw [am_enc_len]; omega) ?_
      refine am_rastore_n (L1 := [(0, .ref 0), (1, am_iv y1), (2, .ref 163), (3, .ref ((am_enc f1 a1 (.long w) (e + 1)).length - 1))]) rfl rfl rfl rfl rfl ?_
      refine am_riconst rfl ?_
      exact am_riret rfl rfl ⟨2, f1, a1, _, e + 1, rfl, rfl, by omega, hq⟩
    · refine am_hcat (hp := 18) (lo := 0) (hi := 0) (n := 0) (c := 0) rfl (by rw [am_enc_len]; omega) ?_
      refine am_rastore_n (L1 := [(0, .ref 0), (1, am_iv y1), (2, .ref 163), (3, .ref ((am_enc f1 a1 (.long w) (e + 1)).length - 1))]) rfl rfl rfl rfl rfl ?_
      refine am_riconst rfl ?_
      exact am_riret rfl rfl ⟨3, f1, a1, _, e + 1, rfl, rfl, by omega, hq⟩
/-- event, caught -/
theorem am_h182 (hd : 2 ≤ d) (he : e ≤ 2000) (hC : am_CP f a) (hy : -2147483648 ≤ y1 ∧ y1 ≤ 2147483647) (hz : -2147483648 ≤ y2 ∧ y2 ≤ 2147483647) : am_T X d am_m181 0 (lv_args 0 [.ref 0, am_iv y1, am_iv y2, .ref 163]) [] (am_enc f a (.long w) e)
    (am_HQ e (fun b f1 a1 w1 => f = f1 ∧ a = a1)) (fun _ _ => False) := by
  obtain ⟨d, rfl⟩ : ∃ d0, d = d0 + 1 := ⟨d - 1, by omega⟩
  refine am_raload_n rfl rfl rfl ?_
  refine am_riconst rfl ?_
  refine am_raload_n rfl rfl rfl ?_
  refine am_riload_n rfl rfl rfl ?_
  refine am_riload_n rfl rfl rfl ?_
  refine am_htry (m := am_m102) (As := [.ref 0, am_iv y1, am_iv y2]) (S1 := [am_iv 0, .ref 163]) rfl rfl rfl rfl rfl rfl rfl rfl rfl (am_ct102 (by omega) hC hy hz) (fun b f1 a1 hq => ?_) (fun x f1 a1 hx => ?_)
  · refine am_ri2l rfl ?_
    refine am_rlast rfl ?_
    refine am_rgoto rfl rfl ?_
    refine am_riconst rfl ?_
    exact am_riret rfl rfl ⟨0, f1, a1, _, e, rfl, rfl, by omega, hq⟩
  · obtain ⟨rfl, hq⟩ := hx
    · refine am_hcat (hp := 13) (lo := 0) (hi := 0) (n := 0) (c := 0) rfl (by rw [am_enc_len]; omega) ?_
      refine am_rastore (L1 := [(0, .ref 0), (1, am_iv y1), (2, am_iv y2), (3, .ref 163), (4, .ref ((am_enc f1 a1 (.long w) (e + 1)).length - 1))]) rfl rfl rfl rfl rfl ?_
      refine am_riconst rfl ?_
      exact am_riret rfl rfl ⟨1, f1, a1, _, e + 1, rfl, rfl, by omega, hq⟩
/-- character, caught -/
theorem am_h183 (hd : 2 ≤ d) (he : e ≤ 2000) (hC : am_CP f a) (hy : -2147483648 ≤ y1 ∧ y1 ≤ 2147483647) (hz : -2147483648 ≤ y2 ∧ y2 ≤ 2147483647) : am_T X d am_m182 0 (lv_args 0 [.ref 0, am_iv y1, am_iv y2, .ref 163]) [] (am_enc f a (.long w) e)
    (am_HQ e (fun b f1 a1 w1 => f = f1 ∧ a = a1)) (fun _ _ => False) := by
  obtain ⟨d, rfl⟩ : ∃ d0, d = d0 + 1 := ⟨d - 1, by omega⟩
  refine am_raload_n rfl rfl rfl ?_
  refine am_riconst rfl ?_
  refine am_raload_n rfl rfl rfl ?_
  refine am_riload_n rfl rfl rfl ?_
  refine am_riload_n rfl rfl rfl ?_
  refine am_htry (m := am_m103) (As := [.ref 0, am_iv y1, am_iv y2]) (S1 := [am_iv 0, .ref 163]) rfl rfl rfl rfl rfl rfl rfl rfl rfl (am_ct103 (by omega) hC hy hz) (fun b f1 a1 hq => ?_) (fun x f1 a1 hx => ?_)
  · refine am_ri2l rfl ?_
    refine am_rlast rfl ?_
    refine am_rgoto rfl rfl ?_
    refine am_riconst rfl ?_
    exact am_riret rfl rfl ⟨0, f1, a1, _, e, rfl, rfl, by omega, hq⟩
  · obtain ⟨rfl, hq⟩ := hx
    · refine am_hcat (hp := 13) (lo := 0) (hi := 0) (n := 0) (c := 0) rfl (by rw [am_enc_len]; omega) ?_
      refine am_rastore (L1 := [(0, .ref 0), (1, am_iv y1), (2, am_iv y2), (3, .ref 163), (4, .ref ((am_enc f1 a1 (.long w) (e + 1)).length - 1))]) rfl rfl rfl rfl rfl ?_
      refine am_riconst rfl ?_
      exact am_riret rfl rfl ⟨1, f1, a1, _, e + 1, rfl, rfl, by omega, hq⟩
end AmLaw
