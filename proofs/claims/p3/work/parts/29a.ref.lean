set_option maxRecDepth 100000 in
set_option maxHeartbeats 4000000 in
theorem am_ct114 {X : List Value} {w : Value} {e : Nat} {E : Nat → aF → aA → Prop} {d : Nat} {y1 : Int} {y2 : Int} {f : aF} {a : aA} (hd : 1 ≤ d) (hp0 : (-2147483648 ≤ y1 ∧ y1 ≤ 2147483647)) (hp1 : (-2147483648 ≤ y2 ∧ y2 ≤ 2147483647)) :
    am_TE X d am_m113 0 (lv_args 0 [am_iv y1, am_iv y2]) [] f a w e (am_QI (fun b f1 a1 => f = f1 ∧ a = a1 ∧ (b = 0 ∨ b = 1) ∧ (b = 1 → 0 ≤ y1 ∧ y1 < y2))) E := by
  obtain ⟨d, rfl⟩ : ∃ d0, d = d0 + 1 := ⟨d - 1, by omega⟩
  refine am_riload_n rfl rfl rfl ?_
  refine am_rif_lt rfl rfl (by unfold am_rg; omega) (fun hc1 => ?_) (fun hc1 => ?_)
  · refine am_riconst rfl ?_
    exact am_ebret rfl rfl (by omega) ⟨rfl, rfl, (show ((0 : Int) = 0 ∨ (0 : Int) = 1) by omega), (show (((0 : Int)) = 1 → 0 ≤ y1 ∧ y1 < y2) by omega)⟩
  · refine am_riload_n rfl rfl rfl ?_
    refine am_riload_n rfl rfl rfl ?_
    refine am_ric_ge rfl rfl (by unfold am_rg; omega) (by unfold am_rg; omega) (fun hc2 => ?_) (fun hc2 => ?_)
    · refine am_riconst rfl ?_
      exact am_ebret rfl rfl (by omega) ⟨rfl, rfl, (show ((0 : Int) = 0 ∨ (0 : Int) = 1) by omega), (show (((0 : Int)) = 1 → 0 ≤ y1 ∧ y1 < y2) by omega)⟩
    · refine am_riconst rfl ?_
      refine am_rgoto rfl rfl ?_
      exact am_ebret rfl rfl (by omega) ⟨rfl, rfl, (show ((1 : Int) = 0 ∨ (1 : Int) = 1) by omega), (show (((1 : Int)) = 1 → 0 ≤ y1 ∧ y1 < y2) by omega)⟩
set_option maxRecDepth 100000 in
set_option maxHeartbeats 4000000 in
theorem am_ct118 {X : List Value} {w : Value} {e : Nat} {E : Nat → aF → aA → Prop} {d : Nat} {y1 : Int} {f : aF} {a : aA} (hd : 1 ≤ d) (hp0 : (-2147483648 ≤ y1 ∧ y1 ≤ 2147483647)) :
    am_TE X d am_m117 0 (lv_args 0 [am_iv y1]) [] f a w e (am_QI (fun b f1 a1 => f = f1 ∧ a = a1 ∧ (b = 0 ∨ b = 1) ∧ (b = 1 → 0 ≤ y1))) E := by
  obtain ⟨d, rfl⟩ : ∃ d0, d = d0 + 1 := ⟨d - 1, by omega⟩
  refine am_riload_n rfl rfl rfl ?_
  refine am_rbipush rfl (by decide) ?_
  refine am_ric_eq rfl rfl (by unfold am_rg; omega) (by unfold am_rg; omega) (fun hc1 => ?_) (fun hc1 => ?_)
  · refine am_riconst rfl ?_
    refine am_rgoto rfl rfl ?_
    exact am_ebret rfl rfl (by omega) ⟨rfl, rfl, (show ((1 : Int) = 0 ∨ (1 : Int) = 1) by omega), (show (((1 : Int)) = 1 → 0 ≤ y1) by omega)⟩
  · refine am_riload_n rfl rfl rfl ?_
    refine am_rbipush rfl (by decide) ?_
    refine am_ric_eq rfl rfl (by unfold am_rg; omega) (by unfold am_rg; omega) (fun hc2 => ?_) (fun hc2 => ?_)
    · refine am_riconst rfl ?_
      refine am_rgoto rfl rfl ?_
      exact am_ebret rfl rfl (by omega) ⟨rfl, rfl, (show ((1 : Int) = 0 ∨ (1 : Int) = 1) by omega), (show (((1 : Int)) = 1 → 0 ≤ y1) by omega)⟩
    · refine am_riload_n rfl rfl rfl ?_
      refine am_rbipush rfl (by decide) ?_
      refine am_ric_eq rfl rfl (by unfold am_rg; omega) (by unfold am_rg; omega) (fun hc3 => ?_) (fun hc3 => ?_)
      · refine am_riconst rfl ?_
        refine am_rgoto rfl rfl ?_
        exact am_ebret rfl rfl (by omega) ⟨rfl, rfl, (show ((1 : Int) = 0 ∨ (1 : Int) = 1) by omega), (show (((1 : Int)) = 1 → 0 ≤ y1) by omega)⟩
      · refine am_riload_n rfl rfl rfl ?_
        refine am_rbipush rfl (by decide) ?_
        refine am_ric_lt rfl rfl (by unfold am_rg; omega) (by unfold am_rg; omega) (fun hc4 => ?_) (fun hc4 => ?_)
        · refine am_riload_n rfl rfl rfl ?_
          refine am_rldc (x := 57344) rfl rfl (by decide) ?_
          refine am_ric_lt rfl rfl (by unfold am_rg; omega) (by unfold am_rg; omega) (fun hc5 => ?_) (fun hc5 => ?_)
          · refine am_riconst rfl ?_
            exact am_ebret rfl rfl (by omega) ⟨rfl, rfl, (show ((0 : Int) = 0 ∨ (0 : Int) = 1) by omega), (show (((0 : Int)) = 1 → 0 ≤ y1) by omega)⟩
          · refine am_riload_n rfl rfl rfl ?_
            refine am_rldc (x := 65533) rfl rfl (by decide) ?_
            refine am_ric_gt rfl rfl (by unfold am_rg; omega) (by unfold am_rg; omega) (fun hc6 => ?_) (fun hc6 => ?_)
            · refine am_riconst rfl ?_
              exact am_ebret rfl rfl (by omega) ⟨rfl, rfl, (show ((0 : Int) = 0 ∨ (0 : Int) = 1) by omega), (show (((0 : Int)) = 1 → 0 ≤ y1) by omega)⟩
            · refine am_riconst rfl ?_
              refine am_rgoto rfl rfl ?_
              exact am_ebret rfl rfl (by omega) ⟨rfl, rfl, (show ((1 : Int) = 0 ∨ (1 : Int) = 1) by omega), (show (((1 : Int)) = 1 → 0 ≤ y1) by omega)⟩
        · refine am_riload_n rfl rfl rfl ?_
          refine am_rldc (x := 55295) rfl rfl (by decide) ?_
          refine am_ric_le rfl rfl (by unfold am_rg; omega) (by unfold am_rg; omega) (fun hc7 => ?_) (fun hc7 => ?_)
          · refine am_riconst rfl ?_
            refine am_rgoto rfl rfl ?_
            exact am_ebret rfl rfl (by omega) ⟨rfl, rfl, (show ((1 : Int) = 0 ∨ (1 : Int) = 1) by omega), (show (((1 : Int)) = 1 → 0 ≤ y1) by omega)⟩
          · refine am_riload_n rfl rfl rfl ?_
            refine am_rldc (x := 57344) rfl rfl (by decide) ?_
            refine am_ric_lt rfl rfl (by unfold am_rg; omega) (by unfold am_rg; omega) (fun hc8 => ?_) (fun hc8 => ?_)
            · refine am_riconst rfl ?_
              exact am_ebret rfl rfl (by omega) ⟨rfl, rfl, (show ((0 : Int) = 0 ∨ (0 : Int) = 1) by omega), (show (((0 : Int)) = 1 → 0 ≤ y1) by omega)⟩
            · refine am_riload_n rfl rfl rfl ?_
              refine am_rldc (x := 65533) rfl rfl (by decide) ?_
              refine am_ric_gt rfl rfl (by unfold am_rg; omega) (by unfold am_rg; omega) (fun hc9 => ?_) (fun hc9 => ?_)
              · refine am_riconst rfl ?_
                exact am_ebret rfl rfl (by omega) ⟨rfl, rfl, (show ((0 : Int) = 0 ∨ (0 : Int) = 1) by omega), (show (((0 : Int)) = 1 → 0 ≤ y1) by omega)⟩
              · refine am_riconst rfl ?_
                refine am_rgoto rfl rfl ?_
                exact am_ebret rfl rfl (by omega) ⟨rfl, rfl, (show ((1 : Int) = 0 ∨ (1 : Int) = 1) by omega), (show (((1 : Int)) = 1 → 0 ≤ y1) by omega)⟩
set_option maxRecDepth 100000 in
set_option maxHeartbeats 4000000 in
theorem am_ct119 {X : List Value} {w : Value} {e : Nat} {E : Nat → aF → aA → Prop} {d : Nat} {y1 : Int} {f : aF} {a : aA} (hd : 1 ≤ d) (hp0 : (-2147483648 ≤ y1 ∧ y1 ≤ 2147483647)) :
    am_TE X d am_m118 0 (lv_args 0 [am_iv y1]) [] f a w e (am_QI (fun b f1 a1 => f = f1 ∧ a = a1 ∧ (b = 0 ∨ b = 1) ∧ (b = 1 → 0 ≤ y1))) E := by
  obtain ⟨d, rfl⟩ : ∃ d0, d = d0 + 1 := ⟨d - 1, by omega⟩
  refine am_riload_n rfl rfl rfl ?_
  refine am_rbipush rfl (by decide) ?_
  refine am_ric_eq rfl rfl (by unfold am_rg; omega) (by unfold am_rg; omega) (fun hc1 => ?_) (fun hc1 => ?_)
  · refine am_riconst rfl ?_
    refine am_rgoto rfl rfl ?_
    exact am_ebret rfl rfl (by omega) ⟨rfl, rfl, (show ((1 : Int) = 0 ∨ (1 : Int) = 1) by omega), (show (((1 : Int)) = 1 → 0 ≤ y1) by omega)⟩
  · refine am_riload_n rfl rfl rfl ?_
    refine am_rbipush rfl (by decide) ?_
    refine am_ric_eq rfl rfl (by unfold am_rg; omega) (by unfold am_rg; omega) (fun hc2 => ?_) (fun hc2 => ?_)
    · refine am_riconst rfl ?_
      refine am_rgoto rfl rfl ?_
      exact am_ebret rfl rfl (by omega) ⟨rfl, rfl, (show ((1 : Int) = 0 ∨ (1 : Int) = 1) by omega), (show (((1 : Int)) = 1 → 0 ≤ y1) by omega)⟩
    · refine am_riload_n rfl rfl rfl ?_
      refine am_rbipush rfl (by decide) ?_
      refine am_ric_eq rfl rfl (by unfold am_rg; omega) (by unfold am_rg; omega) (fun hc3 => ?_) (fun hc3 => ?_)
      · refine am_riconst rfl ?_
        refine am_rgoto rfl rfl ?_
        exact am_ebret rfl rfl (by omega) ⟨rfl, rfl, (show ((1 : Int) = 0 ∨ (1 : Int) = 1) by omega), (show (((1 : Int)) = 1 → 0 ≤ y1) by omega)⟩
      · refine am_riload_n rfl rfl rfl ?_
        refine am_rbipush rfl (by decide) ?_
        refine am_ric_ne rfl rfl (by unfold am_rg; omega) (by unfold am_rg; omega) (fun hc4 => ?_) (fun hc4 => ?_)
        · refine am_riconst rfl ?_
          exact am_ebret rfl rfl (by omega) ⟨rfl, rfl, (show ((0 : Int) = 0 ∨ (0 : Int) = 1) by omega), (show (((0 : Int)) = 1 → 0 ≤ y1) by omega)⟩
        · refine am_riconst rfl ?_
          refine am_rgoto rfl rfl ?_
          exact am_ebret rfl rfl (by omega) ⟨rfl, rfl, (show ((1 : Int) = 0 ∨ (1 : Int) = 1) by omega), (show (((1 : Int)) = 1 → 0 ≤ y1) by omega)⟩
set_option maxRecDepth 100000 in
set_option maxHeartbeats 4000000 in
theorem am_ct130 {X : List Value} {w : Value} {e : Nat} {E : Nat → aF → aA → Prop} {d : Nat} {y1 : Int} {f : aF} {a : aA} (hd : 1 ≤ d) (hp0 : (-2147483648 ≤ y1 ∧ y1 ≤ 2147483647)) :
    am_TE X d am_m129 0 (lv_args 0 [am_iv y1]) [] f a w e (am_QI (fun b f1 a1 => f = f1 ∧ a = a1 ∧ (b = 0 ∨ b = 1) ∧ (b = 1 ↔ (97 ≤ y1 ∧ y1 ≤ 122) ∨ (48 ≤ y1 ∧ y1 ≤ 57)))) E := by
  obtain ⟨d, rfl⟩ : ∃ d0, d = d0 + 1 := ⟨d - 1, by omega⟩
  refine am_riload_n rfl rfl rfl ?_
  refine am_rbipush rfl (by decide) ?_
  refine am_ric_lt rfl rfl (by unfold am_rg; omega) (by unfold am_rg; omega) (fun hc1 => ?_) (fun hc1 => ?_)
  · refine am_riload_n rfl rfl rfl ?_
    refine am_rbipush rfl (by decide) ?_
    refine am_ric_lt rfl rfl (by unfold am_rg; omega) (by unfold am_rg; omega) (fun hc2 => ?_) (fun hc2 => ?_)
    · refine am_riconst rfl ?_
      exact am_ebret rfl rfl (by omega) ⟨rfl, rfl, (show ((0 : Int) = 0 ∨ (0 : Int) = 1) by omega), (show (((0 : Int)) = 1 ↔ (97 ≤ y1 ∧ y1 ≤ 122) ∨ (48 ≤ y1 ∧ y1 ≤ 57)) by omega)⟩
    · refine am_riload_n rfl rfl rfl ?_
      refine am_rbipush rfl (by decide) ?_
      refine am_ric_gt rfl rfl (by unfold am_rg; omega) (by unfold am_rg; omega) (fun hc3 => ?_) (fun hc3 => ?_)
      · refine am_riconst rfl ?_
        exact am_ebret rfl rfl (by omega) ⟨rfl, rfl, (show ((0 : Int) = 0 ∨ (0 : Int) = 1) by omega), (show (((0 : Int)) = 1 ↔ (97 ≤ y1 ∧ y1 ≤ 122) ∨ (48 ≤ y1 ∧ y1 ≤ 57)) by omega)⟩
      · refine am_riconst rfl ?_
        refine am_rgoto rfl rfl ?_
        exact am_ebret rfl rfl (by omega) ⟨rfl, rfl, (show ((1 : Int) = 0 ∨ (1 : Int) = 1) by omega), (show (((1 : Int)) = 1 ↔ (97 ≤ y1 ∧ y1 ≤ 122) ∨ (48 ≤ y1 ∧ y1 ≤ 57)) by omega)⟩
  · refine am_riload_n rfl rfl rfl ?_
    refine am_rbipush rfl (by decide) ?_
    refine am_ric_le rfl rfl (by unfold am_rg; omega) (by unfold am_rg; omega) (fun hc4 => ?_) (fun hc4 => ?_)
    · refine am_riconst rfl ?_
      refine am_rgoto rfl rfl ?_
      exact am_ebret rfl rfl (by omega) ⟨rfl, rfl, (show ((1 : Int) = 0 ∨ (1 : Int) = 1) by omega), (show (((1 : Int)) = 1 ↔ (97 ≤ y1 ∧ y1 ≤ 122) ∨ (48 ≤ y1 ∧ y1 ≤ 57)) by omega)⟩
    · refine am_riload_n rfl rfl rfl ?_
      refine am_rbipush rfl (by decide) ?_
      refine am_ric_lt rfl rfl (by unfold am_rg; omega) (by unfold am_rg; omega) (fun hc5 => ?_) (fun hc5 => ?_)
      · refine am_riconst rfl ?_
        exact am_ebret rfl rfl (by omega) ⟨rfl, rfl, (show ((0 : Int) = 0 ∨ (0 : Int) = 1) by omega), (show (((0 : Int)) = 1 ↔ (97 ≤ y1 ∧ y1 ≤ 122) ∨ (48 ≤ y1 ∧ y1 ≤ 57)) by omega)⟩
      · refine am_riload_n rfl rfl rfl ?_
        refine am_rbipush rfl (by decide) ?_
        refine am_ric_gt rfl rfl (by unfold am_rg; omega) (by unfold am_rg; omega) (fun hc6 => ?_) (fun hc6 => ?_)
        · refine am_riconst rfl ?_
          exact am_ebret rfl rfl (by omega) ⟨rfl, rfl, (show ((0 : Int) = 0 ∨ (0 : Int) = 1) by omega), (show (((0 : Int)) = 1 ↔ (97 ≤ y1 ∧ y1 ≤ 122) ∨ (48 ≤ y1 ∧ y1 ≤ 57)) by omega)⟩
        · refine am_riconst rfl ?_
          refine am_rgoto rfl rfl ?_
          exact am_ebret rfl rfl (by omega) ⟨rfl, rfl, (show ((1 : Int) = 0 ∨ (1 : Int) = 1) by omega), (show (((1 : Int)) = 1 ↔ (97 ≤ y1 ∧ y1 ≤ 122) ∨ (48 ≤ y1 ∧ y1 ≤ 57)) by omega)⟩
set_option maxRecDepth 100000 in
set_option maxHeartbeats 4000000 in
theorem am_ct117 {X : List Value} {w : Value} {e : Nat} {E : Nat → aF → aA → Prop} {d : Nat} {y1 : Int} {f : aF} {a : aA} (hd : 1 ≤ d) (hp0 : (-2147483648 ≤ y1 ∧ y1 ≤ 2147483647)) (hp1 : 1 ≤ y1) (hp2 : y1 ≤ 3) (hp3 : 0 ≤ f 11701) (hp4 : f 11701 ≤ 3) :
    am_TE X d am_m116 0 (lv_args 0 [.ref 117, am_iv y1]) [] f a w e (am_QV (fun f1 a1 => ∃ v : Int, am_ud f 11701 v = f1 ∧ a = a1 ∧ 0 < v ∧ v ≤ 3 ∧ f 11701 ≤ v)) E := by
  obtain ⟨d, rfl⟩ : ∃ d0, d = d0 + 1 := ⟨d - 1, by omega⟩
  refine am_raload_n rfl rfl rfl ?_
  refine am_raload_n rfl rfl rfl ?_
  refine am_rgetf (S1 := [am_iv (f 11701), .ref 117]) rfl rfl ?_
  refine am_rif_ne rfl rfl (by unfold am_rg; omega) (fun hc1 => ?_) (fun hc1 => ?_)
  · refine am_raload_n rfl rfl rfl ?_
    refine am_rgetf (S1 := [am_iv (f 11701), .ref 117]) rfl rfl ?_
    refine am_rputf (S1 := []) (h1 := am_enc (am_ud f 11701 (f 11701)) a w e) rfl (am_pfB rfl am_ge117 rfl (am_sf11701 _)) (by rw [am_enc_len, am_enc_len]) ?_
    exact am_eret rfl rfl ⟨_, rfl, rfl, by omega, by omega, by omega⟩
  · refine am_riload_n rfl rfl rfl ?_
    refine am_rgoto rfl rfl ?_
    refine am_rputf (S1 := []) (h1 := am_enc (am_ud f 11701 y1) a w e) rfl (am_pfB rfl am_ge117 rfl (am_sf11701 _)) (by rw [am_enc_len, am_enc_len]) ?_
    exact am_eret rfl rfl ⟨_, rfl, rfl, by omega, by omega, by omega⟩
set_option maxRecDepth 100000 in
set_option maxHeartbeats 4000000 in
theorem am_ct122 {X : List Value} {w : Value} {e : Nat} {g : aF} {h : aA} {E : Nat → aF → aA → Prop} {d : Nat} {f : aF} {a : aA} (hd : 1 ≤ d) (hI : am_RV g h f a) :
    am_TE X d am_m121 0 (lv_args 0 [.ref 117]) [] f a w e (am_QI (fun b f1 a1 => f = f1 ∧ a = a1 ∧ (-2147483648 ≤ b ∧ b ≤ 2147483647) ∧ -1 ≤ b ∧ am_PK b f a ∧ b = am_pk f a)) E := by
  obtain ⟨d, rfl⟩ : ∃ d0, d = d0 + 1 := ⟨d - 1, by omega⟩
  have q1 := am_RV_ph hI
  refine am_raload_n rfl rfl rfl ?_
  have q2 := am_Rg11701 hI.1.1
  refine am_rgetf (S1 := [am_iv (f 11701)]) rfl rfl ?_
  refine am_rif_ne rfl rfl (by unfold am_rg; omega) (fun hc3 => ?_) (fun hc3 => ?_)
  · refine am_riconst rfl ?_
    refine am_rgoto rfl rfl ?_
    exact am_eiret rfl rfl ⟨rfl, rfl, (show (-2147483648 ≤ ((-1) : Int) ∧ ((-1) : Int) ≤ 2147483647) by omega), (show -1 ≤ (((-1) : Int)) by omega), ⟨fun _ => by omega, fun _ => by omega⟩, (by unfold am_pk; first | rw [if_pos (by omega)] | rw [if_neg (by omega)])⟩
  · refine am_raload_n rfl rfl rfl ?_
    refine am_rgetf (S1 := [.ref 124]) rfl rfl ?_
    refine am_raload_n rfl rfl rfl ?_
    have q4 := am_Rg11713 hI.1.1
    refine am_rgetf (S1 := [am_iv (f 11713), .ref 124]) rfl rfl ?_
    have q5 : (a 124).length = 20 := am_Rl124 (am_RL 124 rfl hI.1.1)
    have i6 : am_ib (a 124) (f 11713) := by unfold am_ib; omega
    have q7 := am_Rb124 (am_RL 124 rfl hI.1.1) i6
    refine am_riaload (l := a 124) rfl am_ge124 i6 ?_
    refine am_raload_n rfl rfl rfl ?_
    refine am_rgetf (S1 := [.ref 125, am_iv (am_at (a 124) (f 11713))]) rfl rfl ?_
    refine am_raload_n rfl rfl rfl ?_
    refine am_rgetf (S1 := [am_iv (f 11713), .ref 125, am_iv (am_at (a 124) (f 11713))]) rfl rfl ?_
    have q8 : (a 125).length = 20 := am_Rl125 (am_RL 125 rfl hI.1.1)
    have i9 : am_ib (a 125) (f 11713) := by unfold am_ib; omega
    have q10 := am_Rb125 (am_RL 125 rfl hI.1.1) i9
    have r2 := hI.2.2.1 (f 11713) (by omega) (by omega)
    refine am_riaload (l := a 125) rfl am_ge125 i9 ?_
    refine am_ric_ne rfl rfl (by unfold am_rg; omega) (by unfold am_rg; omega) (fun hc11 => ?_) (fun hc11 => ?_)
    · refine am_raload_n rfl rfl rfl ?_
      refine am_rgetf (S1 := [.ref 120]) rfl rfl ?_
      refine am_raload_n rfl rfl rfl ?_
      refine am_rgetf (S1 := [.ref 124, .ref 120]) rfl rfl ?_
      refine am_raload_n rfl rfl rfl ?_
      refine am_rgetf (S1 := [am_iv (f 11713), .ref 124, .ref 120]) rfl rfl ?_
      have i12 : am_ib (a 124) (f 11713) := by unfold am_ib; omega
      refine am_riaload (l := a 124) rfl am_ge124 i12 ?_
      have q13 : (a 120).length = 1200 := am_Rl120 (am_RL 120 rfl hI.1.1)
      have i14 : am_ib (a 120) (am_at (a 124) (f 11713)) := by unfold am_ib; omega
      have q15 := am_Rb120 (am_RL 120 rfl hI.1.1) i14
      have r7 := hI.2.2.2.2.1 (by omega) (am_at (a 124) (f 11713)) (by omega) (by omega)
      refine am_riaload (l := a 120) rfl am_ge120 i14 ?_
      exact am_eiret rfl rfl ⟨rfl, rfl, (show (-2147483648 ≤ am_at (a 120) (am_at (a 124) (f 11713)) ∧ am_at (a 120) (am_at (a 124) (f 11713)) ≤ 2147483647) by omega), (show -1 ≤ (am_at (a 120) (am_at (a 124) (f 11713))) by omega), ⟨fun _ => by omega, fun _ => by omega⟩, (by unfold am_pk; first | rw [if_pos (by omega)] | rw [if_neg (by omega)])⟩
    · refine am_riconst rfl ?_
      refine am_rgoto rfl rfl ?_
      exact am_eiret rfl rfl ⟨rfl, rfl, (show (-2147483648 ≤ ((-1) : Int) ∧ ((-1) : Int) ≤ 2147483647) by omega), (show -1 ≤ (((-1) : Int)) by omega), ⟨fun _ => by omega, fun _ => by omega⟩, (by unfold am_pk; first | rw [if_pos (by omega)] | rw [if_neg (by omega)])⟩
set_option maxRecDepth 100000 in
set_option maxHeartbeats 4000000 in
theorem am_ct123 {X : List Value} {w : Value} {e : Nat} {g : aF} {h : aA} {E : Nat → aF → aA → Prop} {d : Nat} {f : aF} {a : aA} (hd : 1 ≤ d) (hI : am_RV g h f a) (hp0 : am_at (a 124) (f 11713) < am_at (a 125) (f 11713)) :
    am_TE X d am_m122 0 (lv_args 0 [.ref 117]) [] f a w e (am_QV (fun f1 a1 => am_RV g h f1 a1 ∧ am_mo f a f1 a1 ∧ f1 11701 = (f 11701) ∧ f1 11713 = (f 11713) ∧ am_ph f1 a1 = (am_ph f a) + 1 ∧ ((f 11713) = 0 → am_at (a1 124) 0 = (am_at (a 124) 0) + 1))) E := by
  obtain ⟨d, rfl⟩ : ∃ d0, d = d0 + 1 := ⟨d - 1, by omega⟩
  have q1 := am_RV_ph hI
  have q2 := am_RV_p0 hI
  have q3 := am_Rg11713 hI.1.1
  have r2 := hI.2.2.1 (f 11713) (by omega) (by omega)
  have k9 := am_Rg11709 hI.1.1
  refine am_raload_n rfl rfl rfl ?_
  refine am_rgetf (S1 := [.ref 124]) rfl rfl ?_
  refine am_raload_n rfl rfl rfl ?_
  refine am_rgetf (S1 := [am_iv (f 11713), .ref 124]) rfl rfl ?_
  refine am_rdup2 rfl rfl rfl ?_
  have q4 : (a 124).length = 20 := am_Rl124 (am_RL 124 rfl hI.1.1)
  have i5 : am_ib (a 124) (f 11713) := by unfold am_ib; omega
  have q6 := am_Rb124 (am_RL 124 rfl hI.1.1) i5
  refine am_riaload (l := a 124) rfl am_ge124 i5 ?_
  refine am_riconst rfl ?_
  refine am_riadd rfl ?_
  have i7 : am_ib (a 124) (f 11713) := by unfold am_ib; omega
  have hl8 : am_LR 124 ((a 124).set (f 11713).toNat ((am_at (a 124) (f 11713)) + 1)) := am_RS124 (am_RL 124 rfl hI.1.1) (by omega) (by omega)
  refine am_riastore (l := a 124) (h1 := am_enc f (am_ud a 124 ((a 124).set (f 11713).toNat ((am_at (a 124) (f 11713)) + 1))) w e) rfl am_ge124 i7 (am_sa124 _) ?_
  have k13 := am_Rg11713 hI.1.1
  have hl : (a 124).length = 20 := am_Rl124 (am_RL 124 rfl hI.1.1)
  exact am_eret rfl rfl ⟨am_RV_skip hI hp0, ⟨am_mn_skip hI, am_fr_a (am_fr.refl f a) rfl⟩, rfl, rfl, am_ph_skip hl k13.1 k13.2, fun hz => (am_at0_skip hl k13.1 k13.2).trans (by rw [if_pos hz])⟩
set_option maxRecDepth 100000 in
set_option maxHeartbeats 4000000 in
theorem am_ct124 {X : List Value} {w : Value} {e : Nat} {g : aF} {h : aA} {E : Nat → aF → aA → Prop} {d : Nat} {y1 : Int} {f : aF} {a : aA} (hd : 2 ≤ d) (hI : am_RV g h f a) (hp0 : (-2147483648 ≤ y1 ∧ y1 ≤ 2147483647)) (hp1 : 0 ≤ y1) :
    am_TE X d am_m123 0 (lv_args 0 [.ref 117, am_iv y1]) [] f a w e (am_QV (fun f1 a1 => am_RV g h f1 a1 ∧ am_mo f a f1 a1 ∧ f1 11713 = (f 11713) ∧ (am_ph f a) + 1 ≤ am_ph f1 a1 + 1 * (f1 11701) ∧ (am_at (a 124) 0) + 1 ≤ am_at (a1 124) 0 + 1 * (f1 11701) + 1 * (f 11713))) E := by
  obtain ⟨d, rfl⟩ : ∃ d0, d = d0 + 1 := ⟨d - 1, by omega⟩
  have q1 := am_RV_ph hI
  have q2 := am_RV_p0 hI
  refine am_raload_n rfl rfl rfl ?_
  refine am_evirtualI (m := am_m121) (As := [.ref 117]) (S1 := []) rfl rfl rfl rfl rfl rfl rfl rfl rfl rfl (am_TE.int (am_ct122  (by omega) hI) (fun b3 f3 a3 hq4 => ?_) (fun _ _ _ h => h))
  obtain ⟨rfl, rfl, hq4⟩ := hq4
  refine am_riload_n rfl rfl rfl ?_
  refine am_ric_ne rfl rfl (by unfold am_rg; omega) (by unfold am_rg; omega) (fun hc5 => ?_) (fun hc5 => ?_)
  · refine am_raload_n rfl rfl rfl ?_
    refine am_riconst rfl ?_
    have q6 := am_Rg11701 hI.1.1
    refine am_evirtualV (m := am_m116) (As := [.ref 117, am_iv 1]) (S1 := []) rfl rfl rfl rfl rfl rfl rfl rfl rfl rfl (am_TE.void (am_ct117 (y1 := 1) (by omega) (by omega) (show 1 ≤ 1 by omega) (show 1 ≤ 3 by omega) (show 0 ≤ (f 11701) by omega) (show (f 11701) ≤ 3 by omega)) (fun f7 a7 hq8 => ?_) (fun _ _ _ h => h))
    obtain ⟨v9, rfl, rfl, hq8⟩ := hq8
    replace hq8 : 0 < v9 ∧ v9 ≤ 3 ∧ f 11701 ≤ v9 := hq8
    have J10 := am_Rf11701 (v := v9) hI (by omega) (by omega)
    have m11 : am_mo f a (am_ud f 11701 v9) a := am_mo.halt (am_mo.refl f a) (by omega)
    have q12 := am_Rg11713 hI.1.1
    exact am_eret rfl rfl ⟨J10, m11, (show f 11713 = (f 11713) by omega), (show (am_ph f a) + 1 ≤ am_ph f a + 1 * (v9) by omega), (show (am_at (a 124) 0) + 1 ≤ am_at (a 124) 0 + 1 * (v9) + 1 * (f 11713) by omega)⟩
  · refine am_raload_n rfl rfl rfl ?_
    have ok13 : f 11701 = 0 ∧ am_at (a 124) (f 11713) < am_at (a 125) (f 11713) := am_PK.ok hq4.2.2.1 (by omega)
    have q14 := am_Rg11713 hI.1.1
    refine am_evirtualV (m := am_m122) (As := [.ref 117]) (S1 := []) rfl rfl rfl rfl rfl rfl rfl rfl rfl rfl (am_TE.void (am_ct123  (by omega) hI (show am_at (a 124) ((f 11713)) < am_at (a 125) ((f 11713)) by omega)) (fun f15 a15 hq16 => ?_) (fun _ _ _ h => h))
    obtain ⟨hI17, hk18, hq16⟩ := hq16
    replace hq16 : f15 11701 = ((f 11701)) ∧ f15 11713 = ((f 11713)) ∧ am_ph f15 a15 = (am_ph f a ) + 1 ∧ (((f 11713)) = 0 → am_at (a15 124) 0 = (am_at (a 124) 0) + 1) := hq16
    have mm19 : f 11701 ≤ f15 11701 ∧ am_ph f a ≤ am_ph f15 a15 ∧ am_at (a 124) 0 ≤ am_at (a15 124) 0 ∧ am_at (a15 125) 0 = am_at (a 125) 0 := hk18.1
    have hm20 := am_mo.trans (am_mo.refl f a) hk18
    refine am_rgoto rfl rfl ?_
    have q21 := am_Rg11701 hI17.1.1
    have q22 := am_Rg11713 hI17.1.1
    exact am_eret rfl rfl ⟨hI17, hm20, (show f15 11713 = (f 11713) by omega), (show (am_ph f a) + 1 ≤ am_ph f15 a15 + 1 * (f15 11701) by omega), (show (am_at (a 124) 0) + 1 ≤ am_at (a15 124) 0 + 1 * (f15 11701) + 1 * (f 11713) by omega)⟩
set_option maxRecDepth 100000 in
set_option maxHeartbeats 4000000 in
theorem am_ct125_3 {X : List Value} {w : Value} {e : Nat} {g : aF} {h : aA} {E : Nat → aF → aA → Prop} {d : Nat} {z11713 : Int} {zph : Int} {zp0 : Int} {fz : aF} {az : aA} (hd : 3 ≤ d + 1) (n : Nat) :
    ∀ {f : aF} {a : aA} {x1 : Int64} {x3 : Int}, (x3 + 1).toNat < n → am_RV g h f a → am_mo fz az f a → (-2147483648 ≤ x3 ∧ x3 ≤ 2147483647) → -1 ≤ x3 → x3 ≤ 7 → 0 < (x1 >>> ((Int32.ofInt (8 * 0)).toInt64 &&& 63) &&& 255).toInt32.toInt → (x3 = 0 → 0 < (x1 >>> ((Int32.ofInt (8 * x3)).toInt64 &&& 63) &&& 255).toInt32.toInt) → (x3 < 0 → zph + 1 ≤ am_ph f a + f 11701) → (x3 < 0 → zp0 + 1 ≤ am_at (a 124) 0 + f 11701 + z11713) → f 11713 = z11713 → zph ≤ am_ph f a → zp0 ≤ am_at (a 124) 0 → zph ≥ 0 → zp0 ≥ 0 → am_TE X (d + 1) am_m124 3 [(0, .ref 117), (1, .long (x1)), (3, am_iv x3)] [] f a w e (am_QV (fun f1 a1 => am_RV g h f1 a1 ∧ am_mo fz az f1 a1 ∧ f1 11713 = z11713 ∧ zph + 1 ≤ am_ph f1 a1 + 1 * (f1 11701) ∧ zp0 + 1 ≤ am_at (a1 124) 0 + 1 * (f1 11701) + 1 * z11713)) E := by
  induction n with
  | zero => intros; omega
  | succ n ih =>
    intro f a x1 x3 hn hI hp0 hp1 hp2 hp3 hp4 hp5 hp6 hp7 hp8 hp9 hp10 hp11 hp12
    have q1 := am_RV_ph hI
    have q2 := am_RV_p0 hI
    have q3 := am_Rg11701 hI.1.1
    have q4 := am_Rg11713 hI.1.1
    refine am_riload_n rfl rfl rfl ?_
    refine am_rif_lt rfl rfl (by unfold am_rg; omega) (fun hc5 => ?_) (fun hc5 => ?_)
    · exact am_eret rfl rfl ⟨hI, hp0, (show f 11713 = z11713 by omega), (show zph + 1 ≤ am_ph f a + 1 * (f 11701) by omega), (show zp0 + 1 ≤ am_at (a 124) 0 + 1 * (f 11701) + 1 * z11713 by omega)⟩
    · refine am_rlload_n rfl rfl rfl ?_
      refine am_rbipush rfl (by decide) ?_
      refine am_riload_n rfl rfl rfl ?_
      refine am_rimul rfl ?_
      refine am_rlshr rfl ?_
      refine am_rldc2 rfl rfl ?_
      refine am_rland rfl ?_
      have q6 := am_toI ((x1 >>> ((Int32.ofInt (8 * x3)).toInt64 &&& 63)) &&& 255).toInt32
      refine am_rl2i rfl ?_
      refine am_ristore (L1 := [(0, .ref 117), (1, .long (x1)), (3, am_iv x3), (4, am_iv (((x1 >>> ((Int32.ofInt (8 * x3)).toInt64 &&& 63)) &&& 255).toInt32.toInt))]) rfl rfl rfl rfl rfl ?_
      refine am_riload rfl rfl rfl ?_
      refine am_rif_le rfl rfl (by unfold am_rg; omega) (fun hc7 => ?_) (fun hc7 => ?_)
      · refine am_riinc (L1 := [(0, .ref 117), (1, .long (x1)), (3, am_iv (x3 + (-1))), (4, am_iv (((x1 >>> ((Int32.ofInt (8 * x3)).toInt64 &&& 63)) &&& 255).toInt32.toInt))]) rfl rfl rfl rfl rfl ?_
        refine am_rgoto rfl rfl ?_
        exact am_T.drop (L1 := [(0, .ref 117), (1, .long (x1)), (3, am_iv (x3 + (-1)))]) (ih (by omega) hI hp0 (by omega) (by omega) (by omega) (by assumption) (by first | omega | (intro h9; rw [h9]; assumption)) (by omega) (by omega) (by omega) (by omega) (by omega) (by omega) (by omega)) (by simp)
      · refine am_raload_n rfl rfl rfl ?_
        refine am_riload rfl rfl rfl ?_
        refine am_evirtualV (m := am_m123) (As := [.ref 117, am_iv (((x1 >>> ((Int32.ofInt (8 * x3)).toInt64 &&& 63)) &&& 255).toInt32.toInt)]) (S1 := []) rfl rfl rfl rfl rfl rfl rfl rfl rfl rfl (am_TE.void (am_ct124 (y1 := (((x1 >>> ((Int32.ofInt (8 * x3)).toInt64 &&& 63)) &&& 255).toInt32.toInt)) (by omega) hI (by omega) (show 0 ≤ (((x1 >>> ((Int32.ofInt (8 * x3)).toInt64 &&& 63)) &&& 255).toInt32.toInt) by omega)) (fun f8 a8 hq9 => ?_) (fun _ _ _ h => h))
        obtain ⟨hI10, hk11, hq9⟩ := hq9
        replace hq9 : f8 11713 = ((f 11713)) ∧ (am_ph f a ) + 1 ≤ am_ph f8 a8 + 1 * (f8 11701) ∧ (am_at (a 124) 0) + 1 ≤ am_at (a8 124) 0 + 1 * (f8 11701) + 1 * ((f 11713)) := hq9
        have mm12 : f 11701 ≤ f8 11701 ∧ am_ph f a ≤ am_ph f8 a8 ∧ am_at (a 124) 0 ≤ am_at (a8 124) 0 ∧ am_at (a8 125) 0 = am_at (a 125) 0 := hk11.1
        have hm13 := am_mo.trans hp0 hk11
        refine am_riinc (L1 := [(0, .ref 117), (1, .long (x1)), (3, am_iv (x3 + (-1))), (4, am_iv (((x1 >>> ((Int32.ofInt (8 * x3)).toInt64 &&& 63)) &&& 255).toInt32.toInt))]) rfl rfl rfl rfl rfl ?_
        refine am_rgoto rfl rfl ?_
        have q14 := am_Rg11701 hI10.1.1
        have q15 := am_Rg11713 hI10.1.1
        exact am_T.drop (L1 := [(0, .ref 117), (1, .long (x1)), (3, am_iv (x3 + (-1)))]) (ih (by omega) hI10 hm13 (by omega) (by omega) (by omega) (by assumption) (by first | omega | (intro h9; rw [h9]; assumption)) (by omega) (by omega) (by omega) (by omega) (by omega) (by omega) (by omega)) (by simp)
set_option maxRecDepth 100000 in
set_option maxHeartbeats 4000000 in
theorem am_ct125 {X : List Value} {w : Value} {e : Nat} {g : aF} {h : aA} {E : Nat → aF → aA → Prop} {d : Nat} {y1 : Int64} {f : aF} {a : aA} (hd : 3 ≤ d) (hI : am_RV g h f a) (hp0 : 0 < (y1 >>> ((Int32.ofInt (8 * 0)).toInt64 &&& 63) &&& 255).toInt32.toInt) :
    am_TE X d am_m124 0 (lv_args 0 [.ref 117, .long (y1)]) [] f a w e (am_QV (fun f1 a1 => am_RV g h f1 a1 ∧ am_mo f a f1 a1 ∧ f1 11713 = (f 11713) ∧ (am_ph f a) + 1 ≤ am_ph f1 a1 + 1 * (f1 11701) ∧ (am_at (a 124) 0) + 1 ≤ am_at (a1 124) 0 + 1 * (f1 11701) + 1 * (f 11713))) E := by
  obtain ⟨d, rfl⟩ : ∃ d0, d = d0 + 1 := ⟨d - 1, by omega⟩
  have q1 := am_RV_ph hI
  have q2 := am_RV_p0 hI
  refine am_rbipush rfl (by decide) ?_
  refine am_ristore_n (L1 := [(0, .ref 117), (1, .long (y1)), (3, am_iv 7)]) rfl rfl rfl rfl rfl ?_
  have q3 := am_Rg11701 hI.1.1
  have q4 := am_Rg11713 hI.1.1
  exact am_ct125_3 hd (_ + 1) (Nat.lt_succ_self _) hI (am_mo.refl f a) (by omega) (by omega) (by omega) (by assumption) (by first | omega | (intro h9; rw [h9]; assumption)) (by omega) (by omega) (by omega) (by omega) (by omega) (by omega) (by omega)
set_option maxRecDepth 100000 in
set_option maxHeartbeats 4000000 in
theorem am_ct126_2 {X : List Value} {w : Value} {e : Nat} {g : aF} {h : aA} {E : Nat → aF → aA → Prop} {d : Nat} {z11701 : Int} {z11713 : Int} {zph : Int} {zp0 : Int} {fz : aF} {az : aA} (hd : 2 ≤ d + 1) (n : Nat) :
    ∀ {f : aF} {a : aA} {x1 : Int}, (8 * (3500 - am_ph f a) + 3 - f 11701).toNat < n → am_RV g h f a → am_mo fz az f a → (-2147483648 ≤ x1 ∧ x1 ≤ 2147483647) → (x1 = 0 ∨ x1 = 1) → f 11701 ≤ 3 - 3 * x1 → zph + x1 ≤ am_ph f a → zp0 + x1 ≤ am_at (a 124) 0 + z11713 → f 11701 = z11701 → f 11713 = z11713 → zph ≤ am_ph f a → zp0 ≤ am_at (a 124) 0 → zph ≥ 0 → zp0 ≥ 0 → am_TE X (d + 1) am_m125 2 [(0, .ref 117), (1, am_iv x1)] [] f a w e (am_QI (fun b f1 a1 => am_RV g h f1 a1 ∧ am_mo fz az f1 a1 ∧ (b = 0 ∨ b = 1) ∧ f1 11701 = z11701 ∧ f1 11713 = z11713 ∧ f1 11701 ≤ 3 - 3 * b ∧ zph + b ≤ am_ph f1 a1 ∧ zp0 + b ≤ am_at (a1 124) 0 + z11713)) E := by
  induction n with
  | zero => intros; omega
  | succ n ih =>
    intro f a x1 hn hI hp0 hp1 hp2 hp3 hp4 hp5 hp6 hp7 hp8 hp9 hp10 hp11
    have q1 := am_RV_ph hI
    have q2 := am_RV_p0 hI
    have q3 := am_Rg11701 hI.1.1
    have q4 := am_Rg11713 hI.1.1
    refine am_raload_n rfl rfl rfl ?_
    refine am_evirtualI (m := am_m121) (As := [.ref 117]) (S1 := []) rfl rfl rfl rfl rfl rfl rfl rfl rfl rfl (am_TE.int (am_ct122  (by omega) hI) (fun b5 f5 a5 hq6 => ?_) (fun _ _ _ h => h))
    obtain ⟨rfl, rfl, hq6⟩ := hq6
    refine am_estaticI (m := am_m118) (As := [am_iv b5]) (S1 := []) rfl rfl rfl rfl rfl rfl rfl rfl (am_TE.int (am_ct119 (y1 := b5) (by omega) (by omega)) (fun b7 f7 a7 hq8 => ?_) (fun _ _ _ h => h))
    obtain ⟨rfl, rfl, hq8⟩ := hq8
    refine am_rif_eq rfl rfl (by unfold am_rg; omega) (fun hc9 => ?_) (fun hc9 => ?_)
    · refine am_riload_n rfl rfl rfl ?_
      exact am_ebret rfl rfl (by omega) ⟨hI, hp0, (show (x1 = 0 ∨ x1 = 1) by omega), (show f 11701 = z11701 by omega), (show f 11713 = z11713 by omega), (show f 11701 ≤ 3 - 3 * x1 by omega), (show zph + x1 ≤ am_ph f a by omega), (show zp0 + x1 ≤ am_at (a 124) 0 + z11713 by omega)⟩
    · refine am_raload_n rfl rfl rfl ?_
      have ok10 : f 11701 = 0 ∧ am_at (a 124) (f 11713) < am_at (a 125) (f 11713) := am_PK.ok hq6.2.2.1 (by omega)
      refine am_evirtualV (m := am_m122) (As := [.ref 117]) (S1 := []) rfl rfl rfl rfl rfl rfl rfl rfl rfl rfl (am_TE.void (am_ct123  (by omega) hI (show am_at (a 124) ((f 11713)) < am_at (a 125) ((f 11713)) by omega)) (fun f11 a11 hq12 => ?_) (fun _ _ _ h => h))
      obtain ⟨hI13, hk14, hq12⟩ := hq12
      replace hq12 : f11 11701 = ((f 11701)) ∧ f11 11713 = ((f 11713)) ∧ am_ph f11 a11 = (am_ph f a ) + 1 ∧ (((f 11713)) = 0 → am_at (a11 124) 0 = (am_at (a 124) 0) + 1) := hq12
      have mm15 : f 11701 ≤ f11 11701 ∧ am_ph f a ≤ am_ph f11 a11 ∧ am_at (a 124) 0 ≤ am_at (a11 124) 0 ∧ am_at (a11 125) 0 = am_at (a 125) 0 := hk14.1
      have hm16 := am_mo.trans hp0 hk14
      refine am_riconst rfl ?_
      refine am_ristore_n (L1 := [(0, .ref 117), (1, am_iv 1)]) rfl rfl rfl rfl rfl ?_
      refine am_rgoto rfl rfl ?_
      have q17 := am_Rg11701 hI13.1.1
      have q18 := am_Rg11713 hI13.1.1
      exact ih (by omega) hI13 hm16 (by omega) (by omega) (by omega) (by omega) (by omega) (by omega) (by omega) (by omega) (by omega) (by omega) (by omega)
set_option maxRecDepth 100000 in
set_option maxHeartbeats 4000000 in
theorem am_ct126 {X : List Value} {w : Value} {e : Nat} {g : aF} {h : aA} {E : Nat → aF → aA → Prop} {d : Nat} {f : aF} {a : aA} (hd : 2 ≤ d) (hI : am_RV g h f a) :
    am_TE X d am_m125 0 (lv_args 0 [.ref 117]) [] f a w e (am_QI (fun b f1 a1 => am_RV g h f1 a1 ∧ am_mo f a f1 a1 ∧ (b = 0 ∨ b = 1) ∧ f1 11701 = (f 11701) ∧ f1 11713 = (f 11713) ∧ f1 11701 ≤ 3 - 3 * b ∧ (am_ph f a) + b ≤ am_ph f1 a1 ∧ (am_at (a 124) 0) + b ≤ am_at (a1 124) 0 + (f 11713))) E := by
  obtain ⟨d, rfl⟩ : ∃ d0, d = d0 + 1 := ⟨d - 1, by omega⟩
  have q1 := am_RV_ph hI
  have q2 := am_RV_p0 hI
  refine am_riconst rfl ?_
  refine am_ristore_n (L1 := [(0, .ref 117), (1, am_iv 0)]) rfl rfl rfl rfl rfl ?_
  have q3 := am_Rg11701 hI.1.1
  have q4 := am_Rg11713 hI.1.1
  exact am_ct126_2 hd (_ + 1) (Nat.lt_succ_self _) hI (am_mo.refl f a) (by omega) (by omega) (by omega) (by omega) (by omega) (by omega) (by omega) (by omega) (by omega) (by omega) (by omega)
set_option maxRecDepth 100000 in
set_option maxHeartbeats 4000000 in
theorem am_ct127 {X : List Value} {w : Value} {e : Nat} {g : aF} {h : aA} {E : Nat → aF → aA → Prop} {d : Nat} {f : aF} {a : aA} (hd : 3 ≤ d) (hI : am_RV g h f a) :
    am_TE X d am_m126 0 (lv_args 0 [.ref 117]) [] f a w e (am_QV (fun f1 a1 => am_RV g h f1 a1 ∧ am_mo f a f1 a1 ∧ f1 11713 = (f 11713) ∧ (am_ph f a) + 1 ≤ am_ph f1 a1 + 1 * (f1 11701) ∧ (am_at (a 124) 0) + 1 ≤ am_at (a1 124) 0 + 1 * (f1 11701) + 1 * (f 11713))) E := by
  obtain ⟨d, rfl⟩ : ∃ d0, d = d0 + 1 := ⟨d - 1, by omega⟩
  have q1 := am_RV_ph hI
  have q2 := am_RV_p0 hI
  refine am_raload_n rfl rfl rfl ?_
  refine am_evirtualI (m := am_m125) (As := [.ref 117]) (S1 := []) rfl rfl rfl rfl rfl rfl rfl rfl rfl rfl (am_TE.int (am_ct126  (by omega) hI) (fun b3 f3 a3 hq4 => ?_) (fun _ _ _ h => h))
  obtain ⟨hI5, hk6, hq4⟩ := hq4
  replace hq4 : (b3 = 0 ∨ b3 = 1) ∧ f3 11701 = ((f 11701)) ∧ f3 11713 = ((f 11713)) ∧ f3 11701 ≤ 3 - 3 * b3 ∧ (am_ph f a ) + b3 ≤ am_ph f3 a3 ∧ (am_at (a 124) 0) + b3 ≤ am_at (a3 124) 0 + ((f 11713)) := hq4
  have mm7 : f 11701 ≤ f3 11701 ∧ am_ph f a ≤ am_ph f3 a3 ∧ am_at (a 124) 0 ≤ am_at (a3 124) 0 ∧ am_at (a3 125) 0 = am_at (a 125) 0 := hk6.1
  have hm8 := am_mo.trans (am_mo.refl f a) hk6
  refine am_rif_ne rfl rfl (by unfold am_rg; omega) (fun hc9 => ?_) (fun hc9 => ?_)
  · have q10 := am_Rg11701 hI5.1.1
    have q11 := am_Rg11713 hI5.1.1
    exact am_eret rfl rfl ⟨hI5, hm8, (show f3 11713 = (f 11713) by omega), (show (am_ph f a) + 1 ≤ am_ph f3 a3 + 1 * (f3 11701) by omega), (show (am_at (a 124) 0) + 1 ≤ am_at (a3 124) 0 + 1 * (f3 11701) + 1 * (f 11713) by omega)⟩
  · refine am_raload_n rfl rfl rfl ?_
    refine am_riconst rfl ?_
    have q12 := am_Rg11701 hI5.1.1
    refine am_evirtualV (m := am_m116) (As := [.ref 117, am_iv 1]) (S1 := []) rfl rfl rfl rfl rfl rfl rfl rfl rfl rfl (am_TE.void (am_ct117 (y1 := 1) (by omega) (by omega) (show 1 ≤ 1 by omega) (show 1 ≤ 3 by omega) (show 0 ≤ (f3 11701) by omega) (show (f3 11701) ≤ 3 by omega)) (fun f13 a13 hq14 => ?_) (fun _ _ _ h => h))
    obtain ⟨v15, rfl, rfl, hq14⟩ := hq14
    replace hq14 : 0 < v15 ∧ v15 ≤ 3 ∧ f3 11701 ≤ v15 := hq14
    have J16 := am_Rf11701 (v := v15) hI5 (by omega) (by omega)
    have m17 : am_mo f a (am_ud f3 11701 v15) a3 := am_mo.halt hm8 (by omega)
    have q18 := am_Rg11713 hI5.1.1
    exact am_eret rfl rfl ⟨J16, m17, (show f3 11713 = (f 11713) by omega), (show (am_ph f a) + 1 ≤ am_ph f3 a3 + 1 * (v15) by omega), (show (am_at (a 124) 0) + 1 ≤ am_at (a3 124) 0 + 1 * (v15) + 1 * (f 11713) by omega)⟩
set_option maxRecDepth 100000 in
set_option maxHeartbeats 4000000 in
theorem am_ct128 {X : List Value} {w : Value} {e : Nat} {g : aF} {h : aA} {E : Nat → aF → aA → Prop} {d : Nat} {f : aF} {a : aA} (hd : 2 ≤ d) (hI : am_RV g h f a) :
    am_TE X d am_m127 0 (lv_args 0 [.ref 117]) [] f a w e (am_QI (fun b f1 a1 => am_RV g h f1 a1 ∧ am_mo f a f1 a1 ∧ (-2147483648 ≤ b ∧ b ≤ 2147483647) ∧ f1 11713 = (f 11713) ∧ (am_ph f a) + 1 ≤ am_ph f1 a1 + 1 * (f1 11701) ∧ (am_at (a 124) 0) + 1 ≤ am_at (a1 124) 0 + 1 * (f1 11701) + 1 * (f 11713) ∧ (0 ≤ b ∧ b ≤ 25))) E := by
  obtain ⟨d, rfl⟩ : ∃ d0, d = d0 + 1 := ⟨d - 1, by omega⟩
  have q1 := am_RV_ph hI
  have q2 := am_RV_p0 hI
  refine am_raload_n rfl rfl rfl ?_
  refine am_evirtualI (m := am_m121) (As := [.ref 117]) (S1 := []) rfl rfl rfl rfl rfl rfl rfl rfl rfl rfl (am_TE.int (am_ct122  (by omega) hI) (fun b3 f3 a3 hq4 => ?_) (fun _ _ _ h => h))
  obtain ⟨rfl, rfl, hq4⟩ := hq4
  refine am_ristore_n (L1 := [(0, .ref 117), (1, am_iv b3)]) rfl rfl rfl rfl rfl ?_
  refine am_riload_n rfl rfl rfl ?_
  refine am_rbipush rfl (by decide) ?_
  refine am_ric_lt rfl rfl (by unfold am_rg; omega) (by unfold am_rg; omega) (fun hc5 => ?_) (fun hc5 => ?_)
  · refine am_raload_n rfl rfl rfl ?_
    refine am_riconst rfl ?_
    have q6 := am_Rg11701 hI.1.1
    refine am_evirtualV (m := am_m116) (As := [.ref 117, am_iv 1]) (S1 := []) rfl rfl rfl rfl rfl rfl rfl rfl rfl rfl (am_TE.void (am_ct117 (y1 := 1) (by omega) (by omega) (show 1 ≤ 1 by omega) (show 1 ≤ 3 by omega) (show 0 ≤ (f 11701) by omega) (show (f 11701) ≤ 3 by omega)) (fun f7 a7 hq8 => ?_) (fun _ _ _ h => h))
    obtain ⟨v9, rfl, rfl, hq8⟩ := hq8
    replace hq8 : 0 < v9 ∧ v9 ≤ 3 ∧ f 11701 ≤ v9 := hq8
    refine am_rgoto rfl rfl ?_
    refine am_raload_n rfl rfl rfl ?_
    refine am_rgetf (S1 := [am_iv v9]) rfl rfl ?_
    refine am_rif_eq rfl rfl (by unfold am_rg; omega) (fun hc10 => ?_) (fun hc10 => ?_)
    · exfalso; omega
    refine am_riconst rfl ?_
    refine am_rgoto rfl rfl ?_
    have J11 := am_Rf11701 (v := v9) hI (by omega) (by omega)
    have m12 : am_mo f a (am_ud f 11701 v9) a := am_mo.halt (am_mo.refl f a) (by omega)
    have q13 := am_Rg11713 hI.1.1
    exact am_eiret rfl rfl ⟨J11, m12, (show (-2147483648 ≤ (0 : Int) ∧ (0 : Int) ≤ 2147483647) by omega), (show f 11713 = (f 11713) by omega), (show (am_ph f a) + 1 ≤ am_ph f a + 1 * (v9) by omega), (show (am_at (a 124) 0) + 1 ≤ am_at (a 124) 0 + 1 * (v9) + 1 * (f 11713) by omega), (show (0 ≤ ((0 : Int)) ∧ ((0 : Int)) ≤ 25) by omega)⟩
  · refine am_riload_n rfl rfl rfl ?_
    refine am_rbipush rfl (by decide) ?_
    refine am_ric_le rfl rfl (by unfold am_rg; omega) (by unfold am_rg; omega) (fun hc14 => ?_) (fun hc14 => ?_)
    · refine am_raload_n rfl rfl rfl ?_
      have ok15 : f 11701 = 0 ∧ am_at (a 124) (f 11713) < am_at (a 125) (f 11713) := am_PK.ok hq4.2.2.1 (by omega)
      have q16 := am_Rg11713 hI.1.1
      refine am_evirtualV (m := am_m122) (As := [.ref 117]) (S1 := []) rfl rfl rfl rfl rfl rfl rfl rfl rfl rfl (am_TE.void (am_ct123  (by omega) hI (show am_at (a 124) ((f 11713)) < am_at (a 125) ((f 11713)) by omega)) (fun f17 a17 hq18 => ?_) (fun _ _ _ h => h))
      obtain ⟨hI19, hk20, hq18⟩ := hq18
      replace hq18 : f17 11701 = ((f 11701)) ∧ f17 11713 = ((f 11713)) ∧ am_ph f17 a17 = (am_ph f a ) + 1 ∧ (((f 11713)) = 0 → am_at (a17 124) 0 = (am_at (a 124) 0) + 1) := hq18
      have mm21 : f 11701 ≤ f17 11701 ∧ am_ph f a ≤ am_ph f17 a17 ∧ am_at (a 124) 0 ≤ am_at (a17 124) 0 ∧ am_at (a17 125) 0 = am_at (a 125) 0 := hk20.1
      have hm22 := am_mo.trans (am_mo.refl f a) hk20
      refine am_raload_n rfl rfl rfl ?_
      have q23 := am_Rg11701 hI19.1.1
      refine am_rgetf (S1 := [am_iv (f17 11701)]) rfl rfl ?_
      refine am_rif_eq rfl rfl (by unfold am_rg; omega) (fun hc24 => ?_) (fun hc24 => ?_)
      · refine am_riload_n rfl rfl rfl ?_
        refine am_rbipush rfl (by decide) ?_
        refine am_risub rfl ?_
        have q25 := am_Rg11713 hI19.1.1
        exact am_eiret rfl rfl ⟨hI19, hm22, (show (-2147483648 ≤ b3 - 97 ∧ b3 - 97 ≤ 2147483647) by omega), (show f17 11713 = (f 11713) by omega), (show (am_ph f a) + 1 ≤ am_ph f17 a17 + 1 * (f17 11701) by omega), (show (am_at (a 124) 0) + 1 ≤ am_at (a17 124) 0 + 1 * (f17 11701) + 1 * (f 11713) by omega), (show (0 ≤ (b3 - 97) ∧ (b3 - 97) ≤ 25) by omega)⟩
      · refine am_riconst rfl ?_
        refine am_rgoto rfl rfl ?_
        have q26 := am_Rg11713 hI19.1.1
        exact am_eiret rfl rfl ⟨hI19, hm22, (show (-2147483648 ≤ (0 : Int) ∧ (0 : Int) ≤ 2147483647) by omega), (show f17 11713 = (f 11713) by omega), (show (am_ph f a) + 1 ≤ am_ph f17 a17 + 1 * (f17 11701) by omega), (show (am_at (a 124) 0) + 1 ≤ am_at (a17 124) 0 + 1 * (f17 11701) + 1 * (f 11713) by omega), (show (0 ≤ ((0 : Int)) ∧ ((0 : Int)) ≤ 25) by omega)⟩
    · refine am_raload_n rfl rfl rfl ?_
      refine am_riconst rfl ?_
      have q27 := am_Rg11701 hI.1.1
      refine am_evirtualV (m := am_m116) (As := [.ref 117, am_iv 1]) (S1 := []) rfl rfl rfl rfl rfl rfl rfl rfl rfl rfl (am_TE.void (am_ct117 (y1 := 1) (by omega) (by omega) (show 1 ≤ 1 by omega) (show 1 ≤ 3 by omega) (show 0 ≤ (f 11701) by omega) (show (f 11701) ≤ 3 by omega)) (fun f28 a28 hq29 => ?_) (fun _ _ _ h => h))
      obtain ⟨v30, rfl, rfl, hq29⟩ := hq29
      replace hq29 : 0 < v30 ∧ v30 ≤ 3 ∧ f 11701 ≤ v30 := hq29
      refine am_rgoto rfl rfl ?_
      refine am_raload_n rfl rfl rfl ?_
      refine am_rgetf (S1 := [am_iv v30]) rfl rfl ?_
      refine am_rif_eq rfl rfl (by unfold am_rg; omega) (fun hc31 => ?_) (fun hc31 => ?_)
      · exfalso; omega
      refine am_riconst rfl ?_
      refine am_rgoto rfl rfl ?_
      have J32 := am_Rf11701 (v := v30) hI (by omega) (by omega)
      have m33 : am_mo f a (am_ud f 11701 v30) a := am_mo.halt (am_mo.refl f a) (by omega)
      have q34 := am_Rg11713 hI.1.1
      exact am_eiret rfl rfl ⟨J32, m33, (show (-2147483648 ≤ (0 : Int) ∧ (0 : Int) ≤ 2147483647) by omega), (show f 11713 = (f 11713) by omega), (show (am_ph f a) + 1 ≤ am_ph f a + 1 * (v30) by omega), (show (am_at (a 124) 0) + 1 ≤ am_at (a 124) 0 + 1 * (v30) + 1 * (f 11713) by omega), (show (0 ≤ ((0 : Int)) ∧ ((0 : Int)) ≤ 25) by omega)⟩
