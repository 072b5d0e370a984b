set_option maxRecDepth 100000 in
set_option maxHeartbeats 4000000 in
theorem am_ct106 {X : List Value} {w : Value} {e : Nat} {E : Nat → aF → aA → Prop} {d : Nat} {y1 : Int} {f : aF} {a : aA} (hd : 1 ≤ d) (hp0 : (-2147483648 ≤ y1 ∧ y1 ≤ 2147483647)) :
    am_TE X d am_m106 0 (lv_args 0 [am_iv y1]) [] f a w e (am_QI (fun b f1 a1 => f = f1 ∧ a = a1 ∧ (b = 0 ∨ b = 1))) E := by
  obtain ⟨d, rfl⟩ : ∃ d0, d = d0 + 1 := ⟨d - 1, by omega⟩
  refine am_riload_n rfl rfl rfl ?_
  refine am_rbipush rfl (by decide) ?_
  refine am_ric_eq rfl rfl (by unfold am_rg; omega) (by unfold am_rg; omega) (fun hc1 => ?_) (fun hc1 => ?_)
  · refine am_riconst rfl ?_
    refine am_rgoto rfl rfl ?_
    exact am_ebret rfl rfl (by omega) ⟨rfl, rfl, (show ((1 : Int) = 0 ∨ (1 : Int) = 1) by omega)⟩
  · refine am_riload_n rfl rfl rfl ?_
    refine am_rbipush rfl (by decide) ?_
    refine am_ric_eq rfl rfl (by unfold am_rg; omega) (by unfold am_rg; omega) (fun hc2 => ?_) (fun hc2 => ?_)
    · refine am_riconst rfl ?_
      refine am_rgoto rfl rfl ?_
      exact am_ebret rfl rfl (by omega) ⟨rfl, rfl, (show ((1 : Int) = 0 ∨ (1 : Int) = 1) by omega)⟩
    · refine am_riload_n rfl rfl rfl ?_
      refine am_rbipush rfl (by decide) ?_
      refine am_ric_eq rfl rfl (by unfold am_rg; omega) (by unfold am_rg; omega) (fun hc3 => ?_) (fun hc3 => ?_)
      · refine am_riconst rfl ?_
        refine am_rgoto rfl rfl ?_
        exact am_ebret rfl rfl (by omega) ⟨rfl, rfl, (show ((1 : Int) = 0 ∨ (1 : Int) = 1) by omega)⟩
      · refine am_riload_n rfl rfl rfl ?_
        refine am_rbipush rfl (by decide) ?_
        refine am_ric_lt rfl rfl (by unfold am_rg; omega) (by unfold am_rg; omega) (fun hc4 => ?_) (fun hc4 => ?_)
        · refine am_riload_n rfl rfl rfl ?_
          refine am_rldc (x := 57344) rfl rfl (by decide) ?_
          refine am_ric_lt rfl rfl (by unfold am_rg; omega) (by unfold am_rg; omega) (fun hc5 => ?_) (fun hc5 => ?_)
          · refine am_riconst rfl ?_
            exact am_ebret rfl rfl (by omega) ⟨rfl, rfl, (show ((0 : Int) = 0 ∨ (0 : Int) = 1) by omega)⟩
          · refine am_riload_n rfl rfl rfl ?_
            refine am_rldc (x := 65533) rfl rfl (by decide) ?_
            refine am_ric_gt rfl rfl (by unfold am_rg; omega) (by unfold am_rg; omega) (fun hc6 => ?_) (fun hc6 => ?_)
            · refine am_riconst rfl ?_
              exact am_ebret rfl rfl (by omega) ⟨rfl, rfl, (show ((0 : Int) = 0 ∨ (0 : Int) = 1) by omega)⟩
            · refine am_riconst rfl ?_
              refine am_rgoto rfl rfl ?_
              exact am_ebret rfl rfl (by omega) ⟨rfl, rfl, (show ((1 : Int) = 0 ∨ (1 : Int) = 1) by omega)⟩
        · refine am_riload_n rfl rfl rfl ?_
          refine am_rldc (x := 55295) rfl rfl (by decide) ?_
          refine am_ric_le rfl rfl (by unfold am_rg; omega) (by unfold am_rg; omega) (fun hc7 => ?_) (fun hc7 => ?_)
          · refine am_riconst rfl ?_
            refine am_rgoto rfl rfl ?_
            exact am_ebret rfl rfl (by omega) ⟨rfl, rfl, (show ((1 : Int) = 0 ∨ (1 : Int) = 1) by omega)⟩
          · refine am_riload_n rfl rfl rfl ?_
            refine am_rldc (x := 57344) rfl rfl (by decide) ?_
            refine am_ric_lt rfl rfl (by unfold am_rg; omega) (by unfold am_rg; omega) (fun hc8 => ?_) (fun hc8 => ?_)
            · refine am_riconst rfl ?_
              exact am_ebret rfl rfl (by omega) ⟨rfl, rfl, (show ((0 : Int) = 0 ∨ (0 : Int) = 1) by omega)⟩
            · refine am_riload_n rfl rfl rfl ?_
              refine am_rldc (x := 65533) rfl rfl (by decide) ?_
              refine am_ric_gt rfl rfl (by unfold am_rg; omega) (by unfold am_rg; omega) (fun hc9 => ?_) (fun hc9 => ?_)
              · refine am_riconst rfl ?_
                exact am_ebret rfl rfl (by omega) ⟨rfl, rfl, (show ((0 : Int) = 0 ∨ (0 : Int) = 1) by omega)⟩
              · refine am_riconst rfl ?_
                refine am_rgoto rfl rfl ?_
                exact am_ebret rfl rfl (by omega) ⟨rfl, rfl, (show ((1 : Int) = 0 ∨ (1 : Int) = 1) by omega)⟩
set_option maxRecDepth 100000 in
set_option maxHeartbeats 4000000 in
theorem am_ct107 {X : List Value} {w : Value} {e : Nat} {E : Nat → aF → aA → Prop} {d : Nat} {y1 : Int} {f : aF} {a : aA} (hd : 1 ≤ d) (hp0 : (-2147483648 ≤ y1 ∧ y1 ≤ 2147483647)) :
    am_TE X d am_m107 0 (lv_args 0 [am_iv y1]) [] f a w e (am_QI (fun b f1 a1 => f = f1 ∧ a = a1 ∧ (b = 0 ∨ b = 1))) E := by
  obtain ⟨d, rfl⟩ : ∃ d0, d = d0 + 1 := ⟨d - 1, by omega⟩
  refine am_riload_n rfl rfl rfl ?_
  refine am_rbipush rfl (by decide) ?_
  refine am_ric_eq rfl rfl (by unfold am_rg; omega) (by unfold am_rg; omega) (fun hc1 => ?_) (fun hc1 => ?_)
  · refine am_riconst rfl ?_
    refine am_rgoto rfl rfl ?_
    exact am_ebret rfl rfl (by omega) ⟨rfl, rfl, (show ((1 : Int) = 0 ∨ (1 : Int) = 1) by omega)⟩
  · refine am_riload_n rfl rfl rfl ?_
    refine am_rbipush rfl (by decide) ?_
    refine am_ric_eq rfl rfl (by unfold am_rg; omega) (by unfold am_rg; omega) (fun hc2 => ?_) (fun hc2 => ?_)
    · refine am_riconst rfl ?_
      refine am_rgoto rfl rfl ?_
      exact am_ebret rfl rfl (by omega) ⟨rfl, rfl, (show ((1 : Int) = 0 ∨ (1 : Int) = 1) by omega)⟩
    · refine am_riload_n rfl rfl rfl ?_
      refine am_rbipush rfl (by decide) ?_
      refine am_ric_eq rfl rfl (by unfold am_rg; omega) (by unfold am_rg; omega) (fun hc3 => ?_) (fun hc3 => ?_)
      · refine am_riconst rfl ?_
        refine am_rgoto rfl rfl ?_
        exact am_ebret rfl rfl (by omega) ⟨rfl, rfl, (show ((1 : Int) = 0 ∨ (1 : Int) = 1) by omega)⟩
      · refine am_riload_n rfl rfl rfl ?_
        refine am_rbipush rfl (by decide) ?_
        refine am_ric_ne rfl rfl (by unfold am_rg; omega) (by unfold am_rg; omega) (fun hc4 => ?_) (fun hc4 => ?_)
        · refine am_riconst rfl ?_
          exact am_ebret rfl rfl (by omega) ⟨rfl, rfl, (show ((0 : Int) = 0 ∨ (0 : Int) = 1) by omega)⟩
        · refine am_riconst rfl ?_
          refine am_rgoto rfl rfl ?_
          exact am_ebret rfl rfl (by omega) ⟨rfl, rfl, (show ((1 : Int) = 0 ∨ (1 : Int) = 1) by omega)⟩
set_option maxRecDepth 100000 in
set_option maxHeartbeats 4000000 in
theorem am_ct108 {X : List Value} {w : Value} {e : Nat} {E : Nat → aF → aA → Prop} {d : Nat} {y1 : Int} {f : aF} {a : aA} (hd : 1 ≤ d) (hp0 : (-2147483648 ≤ y1 ∧ y1 ≤ 2147483647)) :
    am_TE X d am_m108 0 (lv_args 0 [am_iv y1]) [] f a w e (am_QI (fun b f1 a1 => f = f1 ∧ a = a1 ∧ (b = 0 ∨ b = 1) ∧ (b = 1 → 97 ≤ y1 ∧ y1 ≤ 122))) E := by
  obtain ⟨d, rfl⟩ : ∃ d0, d = d0 + 1 := ⟨d - 1, by omega⟩
  refine am_riload_n rfl rfl rfl ?_
  refine am_rbipush rfl (by decide) ?_
  refine am_ric_lt rfl rfl (by unfold am_rg; omega) (by unfold am_rg; omega) (fun hc1 => ?_) (fun hc1 => ?_)
  · refine am_riconst rfl ?_
    exact am_ebret rfl rfl (by omega) ⟨rfl, rfl, (show ((0 : Int) = 0 ∨ (0 : Int) = 1) by omega), (show (((0 : Int)) = 1 → 97 ≤ y1 ∧ y1 ≤ 122) by omega)⟩
  · refine am_riload_n rfl rfl rfl ?_
    refine am_rbipush rfl (by decide) ?_
    refine am_ric_gt rfl rfl (by unfold am_rg; omega) (by unfold am_rg; omega) (fun hc2 => ?_) (fun hc2 => ?_)
    · refine am_riconst rfl ?_
      exact am_ebret rfl rfl (by omega) ⟨rfl, rfl, (show ((0 : Int) = 0 ∨ (0 : Int) = 1) by omega), (show (((0 : Int)) = 1 → 97 ≤ y1 ∧ y1 ≤ 122) by omega)⟩
    · refine am_riconst rfl ?_
      refine am_rgoto rfl rfl ?_
      exact am_ebret rfl rfl (by omega) ⟨rfl, rfl, (show ((1 : Int) = 0 ∨ (1 : Int) = 1) by omega), (show (((1 : Int)) = 1 → 97 ≤ y1 ∧ y1 ≤ 122) by omega)⟩
set_option maxRecDepth 100000 in
set_option maxHeartbeats 4000000 in
theorem am_ct109 {X : List Value} {w : Value} {e : Nat} {E : Nat → aF → aA → Prop} {d : Nat} {y1 : Int} {f : aF} {a : aA} (hd : 1 ≤ d) (hp0 : (-2147483648 ≤ y1 ∧ y1 ≤ 2147483647)) :
    am_TE X d am_m109 0 (lv_args 0 [am_iv y1]) [] f a w e (am_QI (fun b f1 a1 => f = f1 ∧ a = a1 ∧ (b = 0 ∨ b = 1) ∧ (b = 1 → 48 ≤ y1 ∧ y1 ≤ 57))) E := by
  obtain ⟨d, rfl⟩ : ∃ d0, d = d0 + 1 := ⟨d - 1, by omega⟩
  refine am_riload_n rfl rfl rfl ?_
  refine am_rbipush rfl (by decide) ?_
  refine am_ric_lt rfl rfl (by unfold am_rg; omega) (by unfold am_rg; omega) (fun hc1 => ?_) (fun hc1 => ?_)
  · refine am_riconst rfl ?_
    exact am_ebret rfl rfl (by omega) ⟨rfl, rfl, (show ((0 : Int) = 0 ∨ (0 : Int) = 1) by omega), (show (((0 : Int)) = 1 → 48 ≤ y1 ∧ y1 ≤ 57) by omega)⟩
  · refine am_riload_n rfl rfl rfl ?_
    refine am_rbipush rfl (by decide) ?_
    refine am_ric_gt rfl rfl (by unfold am_rg; omega) (by unfold am_rg; omega) (fun hc2 => ?_) (fun hc2 => ?_)
    · refine am_riconst rfl ?_
      exact am_ebret rfl rfl (by omega) ⟨rfl, rfl, (show ((0 : Int) = 0 ∨ (0 : Int) = 1) by omega), (show (((0 : Int)) = 1 → 48 ≤ y1 ∧ y1 ≤ 57) by omega)⟩
    · refine am_riconst rfl ?_
      refine am_rgoto rfl rfl ?_
      exact am_ebret rfl rfl (by omega) ⟨rfl, rfl, (show ((1 : Int) = 0 ∨ (1 : Int) = 1) by omega), (show (((1 : Int)) = 1 → 48 ≤ y1 ∧ y1 ≤ 57) by omega)⟩
set_option maxRecDepth 100000 in
set_option maxHeartbeats 4000000 in
theorem am_ct110 {X : List Value} {w : Value} {e : Nat} {E : Nat → aF → aA → Prop} {d : Nat} {y1 : Int} {f : aF} {a : aA} (hd : 1 ≤ d) (hp0 : (-2147483648 ≤ y1 ∧ y1 ≤ 2147483647)) :
    am_TE X d am_m110 0 (lv_args 0 [am_iv y1]) [] f a w e (am_QI (fun b f1 a1 => f = f1 ∧ a = a1 ∧ (b = 0 ∨ b = 1))) E := by
  obtain ⟨d, rfl⟩ : ∃ d0, d = d0 + 1 := ⟨d - 1, by omega⟩
  refine am_riload_n rfl rfl rfl ?_
  refine am_rbipush rfl (by decide) ?_
  refine am_ric_lt rfl rfl (by unfold am_rg; omega) (by unfold am_rg; omega) (fun hc1 => ?_) (fun hc1 => ?_)
  · refine am_riload_n rfl rfl rfl ?_
    refine am_rbipush rfl (by decide) ?_
    refine am_ric_lt rfl rfl (by unfold am_rg; omega) (by unfold am_rg; omega) (fun hc2 => ?_) (fun hc2 => ?_)
    · refine am_riconst rfl ?_
      exact am_ebret rfl rfl (by omega) ⟨rfl, rfl, (show ((0 : Int) = 0 ∨ (0 : Int) = 1) by omega)⟩
    · refine am_riload_n rfl rfl rfl ?_
      refine am_rbipush rfl (by decide) ?_
      refine am_ric_gt rfl rfl (by unfold am_rg; omega) (by unfold am_rg; omega) (fun hc3 => ?_) (fun hc3 => ?_)
      · refine am_riconst rfl ?_
        exact am_ebret rfl rfl (by omega) ⟨rfl, rfl, (show ((0 : Int) = 0 ∨ (0 : Int) = 1) by omega)⟩
      · refine am_riconst rfl ?_
        refine am_rgoto rfl rfl ?_
        exact am_ebret rfl rfl (by omega) ⟨rfl, rfl, (show ((1 : Int) = 0 ∨ (1 : Int) = 1) by omega)⟩
  · refine am_riload_n rfl rfl rfl ?_
    refine am_rbipush rfl (by decide) ?_
    refine am_ric_le rfl rfl (by unfold am_rg; omega) (by unfold am_rg; omega) (fun hc4 => ?_) (fun hc4 => ?_)
    · refine am_riconst rfl ?_
      refine am_rgoto rfl rfl ?_
      exact am_ebret rfl rfl (by omega) ⟨rfl, rfl, (show ((1 : Int) = 0 ∨ (1 : Int) = 1) by omega)⟩
    · refine am_riload_n rfl rfl rfl ?_
      refine am_rbipush rfl (by decide) ?_
      refine am_ric_lt rfl rfl (by unfold am_rg; omega) (by unfold am_rg; omega) (fun hc5 => ?_) (fun hc5 => ?_)
      · refine am_riconst rfl ?_
        exact am_ebret rfl rfl (by omega) ⟨rfl, rfl, (show ((0 : Int) = 0 ∨ (0 : Int) = 1) by omega)⟩
      · refine am_riload_n rfl rfl rfl ?_
        refine am_rbipush rfl (by decide) ?_
        refine am_ric_gt rfl rfl (by unfold am_rg; omega) (by unfold am_rg; omega) (fun hc6 => ?_) (fun hc6 => ?_)
        · refine am_riconst rfl ?_
          exact am_ebret rfl rfl (by omega) ⟨rfl, rfl, (show ((0 : Int) = 0 ∨ (0 : Int) = 1) by omega)⟩
        · refine am_riconst rfl ?_
          refine am_rgoto rfl rfl ?_
          exact am_ebret rfl rfl (by omega) ⟨rfl, rfl, (show ((1 : Int) = 0 ∨ (1 : Int) = 1) by omega)⟩
set_option maxRecDepth 100000 in
set_option maxHeartbeats 4000000 in
theorem am_ct69 {X : List Value} {w : Value} {e : Nat} {E : Nat → aF → aA → Prop} {d : Nat} {y1 : Int} {f : aF} {a : aA} (hd : 1 ≤ d) (hp0 : (-2147483648 ≤ y1 ∧ y1 ≤ 2147483647)) :
    am_TE X d am_m69 0 (lv_args 0 [am_iv y1]) [] f a w e (am_QI (fun b f1 a1 => f = f1 ∧ a = a1 ∧ (-2147483648 ≤ b ∧ b ≤ 2147483647) ∧ (1 ≤ b ∧ b ≤ 3))) E := by
  obtain ⟨d, rfl⟩ : ∃ d0, d = d0 + 1 := ⟨d - 1, by omega⟩
  refine am_riload_n rfl rfl rfl ?_
  refine am_rsipush rfl (by decide) ?_
  refine am_ric_ge rfl rfl (by unfold am_rg; omega) (by unfold am_rg; omega) (fun hc1 => ?_) (fun hc1 => ?_)
  · refine am_riload_n rfl rfl rfl ?_
    refine am_rsipush rfl (by decide) ?_
    refine am_ric_ge rfl rfl (by unfold am_rg; omega) (by unfold am_rg; omega) (fun hc2 => ?_) (fun hc2 => ?_)
    · refine am_riconst rfl ?_
      exact am_eiret rfl rfl ⟨rfl, rfl, (show (-2147483648 ≤ (3 : Int) ∧ (3 : Int) ≤ 2147483647) by omega), (show (1 ≤ ((3 : Int)) ∧ ((3 : Int)) ≤ 3) by omega)⟩
    · refine am_riconst rfl ?_
      refine am_rgoto rfl rfl ?_
      exact am_eiret rfl rfl ⟨rfl, rfl, (show (-2147483648 ≤ (2 : Int) ∧ (2 : Int) ≤ 2147483647) by omega), (show (1 ≤ ((2 : Int)) ∧ ((2 : Int)) ≤ 3) by omega)⟩
  · refine am_riconst rfl ?_
    exact am_eiret rfl rfl ⟨rfl, rfl, (show (-2147483648 ≤ (1 : Int) ∧ (1 : Int) ≤ 2147483647) by omega), (show (1 ≤ ((1 : Int)) ∧ ((1 : Int)) ≤ 3) by omega)⟩
set_option maxRecDepth 100000 in
set_option maxHeartbeats 4000000 in
theorem am_ct70_66 {X : List Value} {w : Value} {e : Nat} {g : aF} {h : aA} {p : Bool} {d : Nat} (hd : 1 ≤ d + 1) (n : Nat) :
    ∀ {f : aF} {a : aA} {x1 : Int} {x2 : Int} {x5 : Int} {x6 : Int}, (x2 - x6).toNat < n → am_IV p g h f a → (-2147483648 ≤ x1 ∧ x1 ≤ 2147483647) → (-2147483648 ≤ x2 ∧ x2 ≤ 2147483647) → (-2147483648 ≤ x5 ∧ x5 ≤ 2147483647) → (-2147483648 ≤ x6 ∧ x6 ≤ 2147483647) → 1 ≤ x6 → x2 ≤ 3 → x1 + x2 ≤ 360 → 0 ≤ x1 → (x6 = 1 ∧ -30 ≤ x5 ∧ x5 ≤ 47) ∨ (x6 = 2 ∧ -2000 ≤ x5 ∧ x5 ≤ 4000) ∨ (x6 = 3 ∧ -200000 ≤ x5 ∧ x5 ≤ 300000) → am_TE X (d + 1) am_m70 66 [(0, .ref 1), (1, am_iv x1), (2, am_iv x2), (5, am_iv x5), (6, am_iv x6)] [] f a w e (am_QI (fun b f1 a1 => f = f1 ∧ a = a1 ∧ (-2147483648 ≤ b ∧ b ≤ 2147483647))) (am_EC g h) := by
  induction n with
  | zero => intros; omega
  | succ n ih =>
    intro f a x1 x2 x5 x6 hn hI hp0 hp1 hp2 hp3 hp4 hp5 hp6 hp7 hp8
    refine am_riload rfl rfl rfl ?_
    refine am_riload_n rfl rfl rfl ?_
    refine am_ric_ge rfl rfl (by unfold am_rg; omega) (by unfold am_rg; omega) (fun hc1 => ?_) (fun hc1 => ?_)
    · refine am_riload_n rfl rfl rfl ?_
      refine am_riconst rfl ?_
      refine am_ric_ne rfl rfl (by unfold am_rg; omega) (by unfold am_rg; omega) (fun hc2 => ?_) (fun hc2 => ?_)
      · refine am_riload rfl rfl rfl ?_
        exact am_eiret rfl rfl ⟨rfl, rfl, (show (-2147483648 ≤ x5 ∧ x5 ≤ 2147483647) by omega)⟩
      · refine am_riload rfl rfl rfl ?_
        refine am_rsipush rfl (by decide) ?_
        refine am_ric_ge rfl rfl (by unfold am_rg; omega) (by unfold am_rg; omega) (fun hc3 => ?_) (fun hc3 => ?_)
        · refine am_riload rfl rfl rfl ?_
          exact am_eiret rfl rfl ⟨rfl, rfl, (show (-2147483648 ≤ x5 ∧ x5 ≤ 2147483647) by omega)⟩
        · exact am_ethrow rfl rfl rfl rfl ⟨by decide, hI.weak⟩
    · refine am_raload_n rfl rfl rfl ?_
      refine am_riload_n rfl rfl rfl ?_
      refine am_riload rfl rfl rfl ?_
      refine am_riadd rfl ?_
      have q4 : (a 1).length = 360 := am_Ll1 (am_IL 1 rfl hI)
      have i5 : am_ib (a 1) (x1 + x6) := by unfold am_ib; omega
      have q6 := am_Lb1 (am_IL 1 rfl hI) i5
      refine am_riaload (l := a 1) rfl am_ge1 i5 ?_
      refine am_ristore (L1 := [(0, .ref 1), (1, am_iv x1), (2, am_iv x2), (5, am_iv x5), (6, am_iv x6), (7, am_iv (am_at (a 1) (x1 + x6)))]) rfl rfl rfl rfl rfl ?_
      refine am_riload rfl rfl rfl ?_
      refine am_rsipush rfl (by decide) ?_
      refine am_ric_lt rfl rfl (by unfold am_rg; omega) (by unfold am_rg; omega) (fun hc7 => ?_) (fun hc7 => ?_)
      · exact am_ethrow rfl rfl rfl rfl ⟨by decide, hI.weak⟩
      · refine am_riload rfl rfl rfl ?_
        refine am_rsipush rfl (by decide) ?_
        refine am_ric_le rfl rfl (by unfold am_rg; omega) (by unfold am_rg; omega) (fun hc8 => ?_) (fun hc8 => ?_)
        · refine am_rbipush rfl (by decide) ?_
          refine am_riload rfl rfl rfl ?_
          refine am_rimul rfl ?_
          refine am_riload rfl rfl rfl ?_
          refine am_rsipush rfl (by decide) ?_
          refine am_risub rfl ?_
          refine am_riadd rfl ?_
          refine am_ristore (L1 := [(0, .ref 1), (1, am_iv x1), (2, am_iv x2), (5, am_iv ((64 * x5) + ((am_at (a 1) (x1 + x6)) - 128))), (6, am_iv x6), (7, am_iv (am_at (a 1) (x1 + x6)))]) rfl rfl rfl rfl rfl ?_
          refine am_riinc (L1 := [(0, .ref 1), (1, am_iv x1), (2, am_iv x2), (5, am_iv ((64 * x5) + ((am_at (a 1) (x1 + x6)) - 128))), (6, am_iv (x6 + 1)), (7, am_iv (am_at (a 1) (x1 + x6)))]) rfl rfl rfl rfl rfl ?_
          refine am_rgoto rfl rfl ?_
          exact am_T.drop (L1 := [(0, .ref 1), (1, am_iv x1), (2, am_iv x2), (5, am_iv ((64 * x5) + ((am_at (a 1) (x1 + x6)) - 128))), (6, am_iv (x6 + 1))]) (ih (by omega) hI (by omega) (by omega) (by omega) (by omega) (by omega) (by omega) (by omega) (by omega) (by omega)) (by simp)
        · exact am_ethrow rfl rfl rfl rfl ⟨by decide, hI.weak⟩
set_option maxRecDepth 100000 in
set_option maxHeartbeats 4000000 in
theorem am_ct70 {X : List Value} {w : Value} {e : Nat} {g : aF} {h : aA} {p : Bool} {d : Nat} {y2 : Int} {y3 : Int} {y4 : Int} {f : aF} {a : aA} (hd : 1 ≤ d) (hI : am_IV p g h f a) (hp0 : (-2147483648 ≤ y2 ∧ y2 ≤ 2147483647)) (hp1 : (-2147483648 ≤ y3 ∧ y3 ≤ 2147483647)) (hp2 : (-2147483648 ≤ y4 ∧ y4 ≤ 2147483647)) (hp3 : 0 ≤ y2) (hp4 : y2 < y4) (hp5 : y4 ≤ 360) (hp6 : 1 ≤ y3) (hp7 : y3 ≤ 3) :
    am_TE X d am_m70 0 (lv_args 0 [.ref 1, am_iv y2, am_iv y3, am_iv y4]) [] f a w e (am_QI (fun b f1 a1 => f = f1 ∧ a = a1 ∧ (-2147483648 ≤ b ∧ b ≤ 2147483647))) (am_EC g h) := by
  obtain ⟨d, rfl⟩ : ∃ d0, d = d0 + 1 := ⟨d - 1, by omega⟩
  refine am_raload_n rfl rfl rfl ?_
  refine am_riload_n rfl rfl rfl ?_
  have q1 : (a 1).length = 360 := am_Ll1 (am_IL 1 rfl hI)
  have i2 : am_ib (a 1) y2 := by unfold am_ib; omega
  have q3 := am_Lb1 (am_IL 1 rfl hI) i2
  refine am_riaload (l := a 1) rfl am_ge1 i2 ?_
  refine am_ristore (L1 := [(0, .ref 1), (1, am_iv y2), (2, am_iv y3), (3, am_iv y4), (4, am_iv (am_at (a 1) y2))]) rfl rfl rfl rfl rfl ?_
  refine am_riload_n rfl rfl rfl ?_
  refine am_riconst rfl ?_
  refine am_ric_ne rfl rfl (by unfold am_rg; omega) (by unfold am_rg; omega) (fun hc4 => ?_) (fun hc4 => ?_)
  · refine am_riload rfl rfl rfl ?_
    refine am_rsipush rfl (by decide) ?_
    refine am_ric_lt rfl rfl (by unfold am_rg; omega) (by unfold am_rg; omega) (fun hc5 => ?_) (fun hc5 => ?_)
    · exact am_ethrow rfl rfl rfl rfl ⟨by decide, hI.weak⟩
    · refine am_riload rfl rfl rfl ?_
      refine am_rsipush rfl (by decide) ?_
      refine am_ric_gt rfl rfl (by unfold am_rg; omega) (by unfold am_rg; omega) (fun hc6 => ?_) (fun hc6 => ?_)
      · exact am_ethrow rfl rfl rfl rfl ⟨by decide, hI.weak⟩
      · refine am_riload_n rfl rfl rfl ?_
        refine am_riload_n rfl rfl rfl ?_
        refine am_riadd rfl ?_
        refine am_riload_n rfl rfl rfl ?_
        refine am_ric_le rfl rfl (by unfold am_rg; omega) (by unfold am_rg; omega) (fun hc7 => ?_) (fun hc7 => ?_)
        · refine am_riload rfl rfl rfl ?_
          refine am_riload_n rfl rfl rfl ?_
          refine am_riconst rfl ?_
          refine am_ric_ne rfl rfl (by unfold am_rg; omega) (by unfold am_rg; omega) (fun hc8 => ?_) (fun hc8 => ?_)
          · refine am_rsipush rfl (by decide) ?_
            refine am_risub rfl ?_
            refine am_ristore (L1 := [(0, .ref 1), (1, am_iv y2), (2, am_iv y3), (3, am_iv y4), (4, am_iv (am_at (a 1) y2)), (5, am_iv ((am_at (a 1) y2) - 224))]) rfl rfl rfl rfl rfl ?_
            refine am_riconst rfl ?_
            refine am_ristore (L1 := [(0, .ref 1), (1, am_iv y2), (2, am_iv y3), (3, am_iv y4), (4, am_iv (am_at (a 1) y2)), (5, am_iv ((am_at (a 1) y2) - 224)), (6, am_iv 1)]) rfl rfl rfl rfl rfl ?_
            exact am_T.drop (L1 := [(0, .ref 1), (1, am_iv y2), (2, am_iv y3), (5, am_iv ((am_at (a 1) y2) - 224)), (6, am_iv 1)]) (am_ct70_66 hd (_ + 1) (Nat.lt_succ_self _) hI (by omega) (by omega) (by omega) (by omega) (by omega) (by omega) (by omega) (by omega) (by omega)) (by simp)
          · refine am_rsipush rfl (by decide) ?_
            refine am_rgoto rfl rfl ?_
            refine am_risub rfl ?_
            refine am_ristore (L1 := [(0, .ref 1), (1, am_iv y2), (2, am_iv y3), (3, am_iv y4), (4, am_iv (am_at (a 1) y2)), (5, am_iv ((am_at (a 1) y2) - 192))]) rfl rfl rfl rfl rfl ?_
            refine am_riconst rfl ?_
            refine am_ristore (L1 := [(0, .ref 1), (1, am_iv y2), (2, am_iv y3), (3, am_iv y4), (4, am_iv (am_at (a 1) y2)), (5, am_iv ((am_at (a 1) y2) - 192)), (6, am_iv 1)]) rfl rfl rfl rfl rfl ?_
            exact am_T.drop (L1 := [(0, .ref 1), (1, am_iv y2), (2, am_iv y3), (5, am_iv ((am_at (a 1) y2) - 192)), (6, am_iv 1)]) (am_ct70_66 hd (_ + 1) (Nat.lt_succ_self _) hI (by omega) (by omega) (by omega) (by omega) (by omega) (by omega) (by omega) (by omega) (by omega)) (by simp)
        · exact am_ethrow rfl rfl rfl rfl ⟨by decide, hI.weak⟩
  · refine am_riload rfl rfl rfl ?_
    exact am_eiret rfl rfl ⟨rfl, rfl, (show (-2147483648 ≤ am_at (a 1) y2 ∧ am_at (a 1) y2 ≤ 2147483647) by omega)⟩
set_option maxRecDepth 100000 in
set_option maxHeartbeats 4000000 in
theorem am_ct71 {X : List Value} {w : Value} {e : Nat} {g : aF} {h : aA} {p : Bool} {d : Nat} {y1 : Int} {f : aF} {a : aA} (hd : 1 ≤ d) (hI : am_IV p g h f a) (hp0 : (-2147483648 ≤ y1 ∧ y1 ≤ 2147483647)) :
    am_TE X d am_m71 0 (lv_args 0 [.ref 2, am_iv y1]) [] f a w e (am_QV (fun f1 a1 => am_IV p g h f1 a1 ∧ (f 201) ≤ f1 201)) (am_EC g h) := by
  obtain ⟨d, rfl⟩ : ∃ d0, d = d0 + 1 := ⟨d - 1, by omega⟩
  refine am_raload_n rfl rfl rfl ?_
  have q1 := am_Ig201 hI
  refine am_rgetf (S1 := [am_iv (f 201)]) rfl rfl ?_
  refine am_raload_n rfl rfl rfl ?_
  refine am_rgetf (S1 := [.ref 3, am_iv (f 201)]) rfl rfl ?_
  have q2 : (a 3).length = 720 := am_Ll3 (am_IL 3 rfl hI)
  refine am_rlenI (l := a 3) rfl am_ge3 ?_
  refine am_ric_lt rfl rfl (by unfold am_rg; omega) (by unfold am_rg; omega) (fun hc3 => ?_) (fun hc3 => ?_)
  · refine am_raload_n rfl rfl rfl ?_
    refine am_rgetf (S1 := [.ref 3]) rfl rfl ?_
    refine am_raload_n rfl rfl rfl ?_
    refine am_rgetf (S1 := [am_iv (f 201), .ref 3]) rfl rfl ?_
    refine am_riload_n rfl rfl rfl ?_
    have i4 : am_ib (a 3) (f 201) := by unfold am_ib; omega
    have hl5 : am_LN 3 ((a 3).set (f 201).toNat y1) := am_LS3 (am_IL 3 rfl hI) (by omega) (by omega)
    refine am_riastore (l := a 3) (h1 := am_enc f (am_ud a 3 ((a 3).set (f 201).toNat y1)) w e) rfl am_ge3 i4 (am_sa3 _) ?_
    refine am_raload_n rfl rfl rfl ?_
    refine am_rdup rfl rfl ?_
    refine am_rgetf (S1 := [am_iv (f 201), .ref 2]) rfl rfl ?_
    refine am_riconst rfl ?_
    refine am_riadd rfl ?_
    refine am_rputf (S1 := []) (h1 := am_enc (am_ud f 201 ((f 201) + 1)) (am_ud a 3 ((a 3).set (f 201).toNat y1)) w e) rfl (am_pfB rfl am_ge2 rfl (am_sf201 _)) (by rw [am_enc_len, am_enc_len]) ?_
    have J6 := am_If201 (v := (f 201) + 1) hI (by omega) (by omega)
    have J7 := am_Ia3 J6 hl5
    exact am_eret rfl rfl ⟨J7, (show (f 201) ≤ (f 201) + 1 by omega)⟩
  · exact am_ethrow rfl rfl rfl rfl ⟨by decide, hI.weak⟩
set_option maxRecDepth 100000 in
set_option maxHeartbeats 4000000 in
theorem am_ct68_10 {X : List Value} {w : Value} {e : Nat} {g : aF} {h : aA} {p : Bool} {d : Nat} (hd : 2 ≤ d + 1) (n : Nat) :
    ∀ {f : aF} {a : aA} {x2 : Int} {x3 : Int} {x4 : Int}, (x2 - x4).toNat < n → am_IV p g h f a → (-2147483648 ≤ x2 ∧ x2 ≤ 2147483647) → (-2147483648 ≤ x3 ∧ x3 ≤ 2147483647) → (-2147483648 ≤ x4 ∧ x4 ≤ 2147483647) → 0 ≤ x4 → x2 ≤ 360 → am_TE X (d + 1) am_m68 10 [(0, .ref 2), (1, .ref 1), (2, am_iv x2), (3, am_iv x3), (4, am_iv x4)] [] f a w e (am_QV (fun f1 a1 => am_IV p g h f1 a1)) (am_EC g h) := by
  induction n with
  | zero => intros; omega
  | succ n ih =>
    intro f a x2 x3 x4 hn hI hp0 hp1 hp2 hp3 hp4
    refine am_riload rfl rfl rfl ?_
    refine am_riload_n rfl rfl rfl ?_
    refine am_ric_ge rfl rfl (by unfold am_rg; omega) (by unfold am_rg; omega) (fun hc1 => ?_) (fun hc1 => ?_)
    · refine am_raload_n rfl rfl rfl ?_
      refine am_riconst rfl ?_
      refine am_rputf (S1 := []) (h1 := am_enc (am_ud f 202 0) a w e) rfl (am_pfB rfl am_ge2 rfl (am_sf202 _)) (by rw [am_enc_len, am_enc_len]) ?_
      refine am_raload_n rfl rfl rfl ?_
      refine am_raload_n rfl rfl rfl ?_
      have q2 := am_Ig201 hI
      refine am_rgetf (S1 := [am_iv (f 201), .ref 2]) rfl rfl ?_
      refine am_rputf (S1 := []) (h1 := am_enc (am_ud (am_ud f 202 0) 203 (f 201)) a w e) rfl (am_pfB rfl am_ge2 rfl (am_sf203 _)) (by rw [am_enc_len, am_enc_len]) ?_
      have J3 := am_If202 (v := 0) hI (by omega) (by omega)
      have J4 := am_If203 (v := f 201) J3 (by omega) (by omega)
      exact am_eret rfl rfl J4
    · refine am_raload_n rfl rfl rfl ?_
      refine am_riload rfl rfl rfl ?_
      have q5 : (a 1).length = 360 := am_Ll1 (am_IL 1 rfl hI)
      have i6 : am_ib (a 1) x4 := by unfold am_ib; omega
      have q7 := am_Lb1 (am_IL 1 rfl hI) i6
      refine am_riaload (l := a 1) rfl am_ge1 i6 ?_
      refine am_estaticI (m := am_m69) (As := [am_iv (am_at (a 1) x4)]) (S1 := []) rfl rfl rfl rfl rfl rfl rfl rfl (am_TE.int (am_ct69 (y1 := (am_at (a 1) x4)) (by omega) (by omega)) (fun b8 f8 a8 hq9 => ?_) (fun _ _ _ h => h))
      obtain ⟨rfl, rfl, hq9⟩ := hq9
      refine am_ristore (L1 := [(0, .ref 2), (1, .ref 1), (2, am_iv x2), (3, am_iv x3), (4, am_iv x4), (5, am_iv b8)]) rfl rfl rfl rfl rfl ?_
      refine am_raload_n rfl rfl rfl ?_
      refine am_riload rfl rfl rfl ?_
      refine am_riload rfl rfl rfl ?_
      refine am_riload_n rfl rfl rfl ?_
      refine am_estaticI (m := am_m70) (As := [.ref 1, am_iv x4, am_iv b8, am_iv x2]) (S1 := []) rfl rfl rfl rfl rfl rfl rfl rfl (am_TE.int (am_ct70 (y2 := x4) (y3 := b8) (y4 := x2) (by omega) hI (by omega) (by omega) (by omega) (by omega) (by omega) (by omega) (by omega) (by omega)) (fun b10 f10 a10 hq11 => ?_) (fun _ _ _ h => h))
      obtain ⟨rfl, rfl, hq11⟩ := hq11
      refine am_ristore (L1 := [(0, .ref 2), (1, .ref 1), (2, am_iv x2), (3, am_iv x3), (4, am_iv x4), (5, am_iv b8), (6, am_iv b10)]) rfl rfl rfl rfl rfl ?_
      refine am_riload rfl rfl rfl ?_
      refine am_estaticI (m := am_m106) (As := [am_iv b10]) (S1 := []) rfl rfl rfl rfl rfl rfl rfl rfl (am_TE.int (am_ct106 (y1 := b10) (by omega) (by omega)) (fun b12 f12 a12 hq13 => ?_) (fun _ _ _ h => h))
      obtain ⟨rfl, rfl, hq13⟩ := hq13
      refine am_rif_ne rfl rfl (by unfold am_rg; omega) (fun hc14 => ?_) (fun hc14 => ?_)
      · refine am_riload rfl rfl rfl ?_
        refine am_rbipush rfl (by decide) ?_
        refine am_ric_ne rfl rfl (by unfold am_rg; omega) (by unfold am_rg; omega) (fun hc15 => ?_) (fun hc15 => ?_)
        · refine am_raload_n rfl rfl rfl ?_
          refine am_riload rfl rfl rfl ?_
          refine am_rbipush rfl (by decide) ?_
          refine am_ric_ne rfl rfl (by unfold am_rg; omega) (by unfold am_rg; omega) (fun hc16 => ?_) (fun hc16 => ?_)
          · refine am_riload rfl rfl rfl ?_
            have q17 := am_Ig201 hI
            refine am_evirtualV (m := am_m71) (As := [.ref 2, am_iv b10]) (S1 := []) rfl rfl rfl rfl rfl rfl rfl rfl rfl rfl (am_TE.void (am_ct71 (y1 := b10) (by omega) hI (by omega)) (fun f18 a18 hq19 => ?_) (fun _ _ _ h => h))
            obtain ⟨hI20, hq19⟩ := hq19
            refine am_riload rfl rfl rfl ?_
            refine am_ristore_n (L1 := [(0, .ref 2), (1, .ref 1), (2, am_iv x2), (3, am_iv b10), (4, am_iv x4), (5, am_iv b8), (6, am_iv b10)]) rfl rfl rfl rfl rfl ?_
            refine am_riload rfl rfl rfl ?_
            refine am_riload rfl rfl rfl ?_
            refine am_riadd rfl ?_
            refine am_ristore (L1 := [(0, .ref 2), (1, .ref 1), (2, am_iv x2), (3, am_iv b10), (4, am_iv (x4 + b8)), (5, am_iv b8), (6, am_iv b10)]) rfl rfl rfl rfl rfl ?_
            refine am_rgoto rfl rfl ?_
            exact am_T.drop (L1 := [(0, .ref 2), (1, .ref 1), (2, am_iv x2), (3, am_iv b10), (4, am_iv (x4 + b8))]) (ih (by omega) hI20 (by omega) (by omega) (by omega) (by omega) (by omega)) (by simp)
          · refine am_rbipush rfl (by decide) ?_
            refine am_rgoto rfl rfl ?_
            have q21 := am_Ig201 hI
            refine am_evirtualV (m := am_m71) (As := [.ref 2, am_iv 10]) (S1 := []) rfl rfl rfl rfl rfl rfl rfl rfl rfl rfl (am_TE.void (am_ct71 (y1 := 10) (by omega) hI (by omega)) (fun f22 a22 hq23 => ?_) (fun _ _ _ h => h))
            obtain ⟨hI24, hq23⟩ := hq23
            refine am_riload rfl rfl rfl ?_
            refine am_ristore_n (L1 := [(0, .ref 2), (1, .ref 1), (2, am_iv x2), (3, am_iv b10), (4, am_iv x4), (5, am_iv b8), (6, am_iv b10)]) rfl rfl rfl rfl rfl ?_
            refine am_riload rfl rfl rfl ?_
            refine am_riload rfl rfl rfl ?_
            refine am_riadd rfl ?_
            refine am_ristore (L1 := [(0, .ref 2), (1, .ref 1), (2, am_iv x2), (3, am_iv b10), (4, am_iv (x4 + b8)), (5, am_iv b8), (6, am_iv b10)]) rfl rfl rfl rfl rfl ?_
            refine am_rgoto rfl rfl ?_
            exact am_T.drop (L1 := [(0, .ref 2), (1, .ref 1), (2, am_iv x2), (3, am_iv b10), (4, am_iv (x4 + b8))]) (ih (by omega) hI24 (by omega) (by omega) (by omega) (by omega) (by omega)) (by simp)
        · refine am_riload_n rfl rfl rfl ?_
          refine am_rbipush rfl (by decide) ?_
          refine am_ric_eq rfl rfl (by unfold am_rg; omega) (by unfold am_rg; omega) (fun hc25 => ?_) (fun hc25 => ?_)
          · refine am_riload rfl rfl rfl ?_
            refine am_ristore_n (L1 := [(0, .ref 2), (1, .ref 1), (2, am_iv x2), (3, am_iv b10), (4, am_iv x4), (5, am_iv b8), (6, am_iv b10)]) rfl rfl rfl rfl rfl ?_
            refine am_riload rfl rfl rfl ?_
            refine am_riload rfl rfl rfl ?_
            refine am_riadd rfl ?_
            refine am_ristore (L1 := [(0, .ref 2), (1, .ref 1), (2, am_iv x2), (3, am_iv b10), (4, am_iv (x4 + b8)), (5, am_iv b8), (6, am_iv b10)]) rfl rfl rfl rfl rfl ?_
            refine am_rgoto rfl rfl ?_
            exact am_T.drop (L1 := [(0, .ref 2), (1, .ref 1), (2, am_iv x2), (3, am_iv b10), (4, am_iv (x4 + b8))]) (ih (by omega) hI (by omega) (by omega) (by omega) (by omega) (by omega)) (by simp)
          · refine am_raload_n rfl rfl rfl ?_
            refine am_riload rfl rfl rfl ?_
            refine am_rbipush rfl (by decide) ?_
            refine am_ric_ne rfl rfl (by unfold am_rg; omega) (by unfold am_rg; omega) (fun hc26 => ?_) (fun hc26 => ?_)
            · refine am_riload rfl rfl rfl ?_
              have q27 := am_Ig201 hI
              refine am_evirtualV (m := am_m71) (As := [.ref 2, am_iv b10]) (S1 := []) rfl rfl rfl rfl rfl rfl rfl rfl rfl rfl (am_TE.void (am_ct71 (y1 := b10) (by omega) hI (by omega)) (fun f28 a28 hq29 => ?_) (fun _ _ _ h => h))
              obtain ⟨hI30, hq29⟩ := hq29
              refine am_riload rfl rfl rfl ?_
              refine am_ristore_n (L1 := [(0, .ref 2), (1, .ref 1), (2, am_iv x2), (3, am_iv b10), (4, am_iv x4), (5, am_iv b8), (6, am_iv b10)]) rfl rfl rfl rfl rfl ?_
              refine am_riload rfl rfl rfl ?_
              refine am_riload rfl rfl rfl ?_
              refine am_riadd rfl ?_
              refine am_ristore (L1 := [(0, .ref 2), (1, .ref 1), (2, am_iv x2), (3, am_iv b10), (4, am_iv (x4 + b8)), (5, am_iv b8), (6, am_iv b10)]) rfl rfl rfl rfl rfl ?_
              refine am_rgoto rfl rfl ?_
              exact am_T.drop (L1 := [(0, .ref 2), (1, .ref 1), (2, am_iv x2), (3, am_iv b10), (4, am_iv (x4 + b8))]) (ih (by omega) hI30 (by omega) (by omega) (by omega) (by omega) (by omega)) (by simp)
            · refine am_rbipush rfl (by decide) ?_
              refine am_rgoto rfl rfl ?_
              have q31 := am_Ig201 hI
              refine am_evirtualV (m := am_m71) (As := [.ref 2, am_iv 10]) (S1 := []) rfl rfl rfl rfl rfl rfl rfl rfl rfl rfl (am_TE.void (am_ct71 (y1 := 10) (by omega) hI (by omega)) (fun f32 a32 hq33 => ?_) (fun _ _ _ h => h))
              obtain ⟨hI34, hq33⟩ := hq33
              refine am_riload rfl rfl rfl ?_
              refine am_ristore_n (L1 := [(0, .ref 2), (1, .ref 1), (2, am_iv x2), (3, am_iv b10), (4, am_iv x4), (5, am_iv b8), (6, am_iv b10)]) rfl rfl rfl rfl rfl ?_
              refine am_riload rfl rfl rfl ?_
              refine am_riload rfl rfl rfl ?_
              refine am_riadd rfl ?_
              refine am_ristore (L1 := [(0, .ref 2), (1, .ref 1), (2, am_iv x2), (3, am_iv b10), (4, am_iv (x4 + b8)), (5, am_iv b8), (6, am_iv b10)]) rfl rfl rfl rfl rfl ?_
              refine am_rgoto rfl rfl ?_
              exact am_T.drop (L1 := [(0, .ref 2), (1, .ref 1), (2, am_iv x2), (3, am_iv b10), (4, am_iv (x4 + b8))]) (ih (by omega) hI34 (by omega) (by omega) (by omega) (by omega) (by omega)) (by simp)
      · exact am_ethrow rfl rfl rfl rfl ⟨by decide, hI.weak⟩
set_option maxRecDepth 100000 in
set_option maxHeartbeats 4000000 in
theorem am_ct68 {X : List Value} {w : Value} {e : Nat} {g : aF} {h : aA} {p : Bool} {d : Nat} {y2 : Int} {f : aF} {a : aA} (hd : 2 ≤ d) (hI : am_IV p g h f a) (hp0 : (-2147483648 ≤ y2 ∧ y2 ≤ 2147483647)) (hp1 : y2 ≤ 360) :
    am_TE X d am_m68 0 (lv_args 0 [.ref 2, .ref 1, am_iv y2]) [] f a w e (am_QV (fun f1 a1 => am_IV p g h f1 a1)) (am_EC g h) := by
  obtain ⟨d, rfl⟩ : ∃ d0, d = d0 + 1 := ⟨d - 1, by omega⟩
  refine am_raload_n rfl rfl rfl ?_
  refine am_riconst rfl ?_
  refine am_rputf (S1 := []) (h1 := am_enc (am_ud f 201 0) a w e) rfl (am_pfB rfl am_ge2 rfl (am_sf201 _)) (by rw [am_enc_len, am_enc_len]) ?_
  refine am_riconst rfl ?_
  refine am_ristore_n (L1 := [(0, .ref 2), (1, .ref 1), (2, am_iv y2), (3, am_iv ((-1)))]) rfl rfl rfl rfl rfl ?_
  refine am_riconst rfl ?_
  refine am_ristore (L1 := [(0, .ref 2), (1, .ref 1), (2, am_iv y2), (3, am_iv ((-1))), (4, am_iv 0)]) rfl rfl rfl rfl rfl ?_
  have J1 := am_If201 (v := 0) hI (by omega) (by omega)
  exact am_ct68_10 hd (_ + 1) (Nat.lt_succ_self _) J1 (show (-2147483648 ≤ y2 ∧ y2 ≤ 2147483647) by omega) (show (-2147483648 ≤ ((-1)) ∧ ((-1)) ≤ 2147483647) by omega) (show (-2147483648 ≤ 0 ∧ 0 ≤ 2147483647) by omega) (show 0 ≤ 0 by omega) (show y2 ≤ 360 by omega)
set_option maxRecDepth 100000 in
set_option maxHeartbeats 4000000 in
theorem am_ct72 {X : List Value} {w : Value} {e : Nat} {g : aF} {h : aA} {p : Bool} {E : Nat → aF → aA → Prop} {d : Nat} {f : aF} {a : aA} (hd : 1 ≤ d) (hI : am_IV p g h f a) :
    am_TE X d am_m72 0 (lv_args 0 [.ref 2]) [] f a w e (am_QI (fun b f1 a1 => f = f1 ∧ a = a1 ∧ (-2147483648 ≤ b ∧ b ≤ 2147483647))) E := by
  obtain ⟨d, rfl⟩ : ∃ d0, d = d0 + 1 := ⟨d - 1, by omega⟩
  refine am_raload_n rfl rfl rfl ?_
  have q1 := am_Ig202 hI
  refine am_rgetf (S1 := [am_iv (f 202)]) rfl rfl ?_
  refine am_raload_n rfl rfl rfl ?_
  have q2 := am_Ig203 hI
  refine am_rgetf (S1 := [am_iv (f 203), am_iv (f 202)]) rfl rfl ?_
  refine am_ric_ge rfl rfl (by unfold am_rg; omega) (by unfold am_rg; omega) (fun hc3 => ?_) (fun hc3 => ?_)
  · refine am_riconst rfl ?_
    exact am_eiret rfl rfl ⟨rfl, rfl, (show (-2147483648 ≤ ((-1) : Int) ∧ ((-1) : Int) ≤ 2147483647) by omega)⟩
  · refine am_raload_n rfl rfl rfl ?_
    refine am_rgetf (S1 := [.ref 3]) rfl rfl ?_
    refine am_raload_n rfl rfl rfl ?_
    refine am_rgetf (S1 := [am_iv (f 202), .ref 3]) rfl rfl ?_
    have q4 : (a 3).length = 720 := am_Ll3 (am_IL 3 rfl hI)
    have i5 : am_ib (a 3) (f 202) := by unfold am_ib; omega
    have q6 := am_Lb3 (am_IL 3 rfl hI) i5
    refine am_riaload (l := a 3) rfl am_ge3 i5 ?_
    refine am_rgoto rfl rfl ?_
    exact am_eiret rfl rfl ⟨rfl, rfl, (show (-2147483648 ≤ am_at (a 3) (f 202) ∧ am_at (a 3) (f 202) ≤ 2147483647) by omega)⟩
set_option maxRecDepth 100000 in
set_option maxHeartbeats 4000000 in
theorem am_ct73 {X : List Value} {w : Value} {e : Nat} {g : aF} {h : aA} {p : Bool} {d : Nat} {f : aF} {a : aA} (hd : 1 ≤ d) (hI : am_IV p g h f a) :
    am_TE X d am_m73 0 (lv_args 0 [.ref 2]) [] f a w e (am_QI (fun b f1 a1 => am_IV p g h f1 a1 ∧ (-2147483648 ≤ b ∧ b ≤ 2147483647) ∧ f1 201 = (f 201))) (am_EC g h) := by
  obtain ⟨d, rfl⟩ : ∃ d0, d = d0 + 1 := ⟨d - 1, by omega⟩
  refine am_raload_n rfl rfl rfl ?_
  have q1 := am_Ig202 hI
  refine am_rgetf (S1 := [am_iv (f 202)]) rfl rfl ?_
  refine am_raload_n rfl rfl rfl ?_
  have q2 := am_Ig203 hI
  refine am_rgetf (S1 := [am_iv (f 203), am_iv (f 202)]) rfl rfl ?_
  refine am_ric_lt rfl rfl (by unfold am_rg; omega) (by unfold am_rg; omega) (fun hc3 => ?_) (fun hc3 => ?_)
  · refine am_raload_n rfl rfl rfl ?_
    refine am_rgetf (S1 := [.ref 3]) rfl rfl ?_
    refine am_raload_n rfl rfl rfl ?_
    refine am_rgetf (S1 := [am_iv (f 202), .ref 3]) rfl rfl ?_
    have q4 : (a 3).length = 720 := am_Ll3 (am_IL 3 rfl hI)
    have i5 : am_ib (a 3) (f 202) := by unfold am_ib; omega
    have q6 := am_Lb3 (am_IL 3 rfl hI) i5
    refine am_riaload (l := a 3) rfl am_ge3 i5 ?_
    refine am_ristore_n (L1 := [(0, .ref 2), (1, am_iv (am_at (a 3) (f 202)))]) rfl rfl rfl rfl rfl ?_
    refine am_raload_n rfl rfl rfl ?_
    refine am_rdup rfl rfl ?_
    refine am_rgetf (S1 := [am_iv (f 202), .ref 2]) rfl rfl ?_
    refine am_riconst rfl ?_
    refine am_riadd rfl ?_
    refine am_rputf (S1 := []) (h1 := am_enc (am_ud f 202 ((f 202) + 1)) a w e) rfl (am_pfB rfl am_ge2 rfl (am_sf202 _)) (by rw [am_enc_len, am_enc_len]) ?_
    refine am_riload_n rfl rfl rfl ?_
    have J7 := am_If202 (v := (f 202) + 1) hI (by omega) (by omega)
    have q8 := am_Ig201 hI
    exact am_eiret rfl rfl ⟨J7, (show (-2147483648 ≤ am_at (a 3) (f 202) ∧ am_at (a 3) (f 202) ≤ 2147483647) by omega), (show f 201 = (f 201) by omega)⟩
  · exact am_ethrow rfl rfl rfl rfl ⟨by decide, hI.weak⟩
set_option maxRecDepth 100000 in
set_option maxHeartbeats 4000000 in
theorem am_ct74 {X : List Value} {w : Value} {e : Nat} {g : aF} {h : aA} {p : Bool} {d : Nat} {y1 : Int} {f : aF} {a : aA} (hd : 1 ≤ d) (hI : am_IV p g h f a) (hp0 : (-2147483648 ≤ y1 ∧ y1 ≤ 2147483647)) :
    am_TE X d am_m74 0 (lv_args 0 [.ref 2, am_iv y1]) [] f a w e (am_QV (fun f1 a1 => am_IV p g h f1 a1 ∧ f1 201 = (f 201))) (am_EC g h) := by
  obtain ⟨d, rfl⟩ : ∃ d0, d = d0 + 1 := ⟨d - 1, by omega⟩
  refine am_raload_n rfl rfl rfl ?_
  have q1 := am_Ig202 hI
  refine am_rgetf (S1 := [am_iv (f 202)]) rfl rfl ?_
  refine am_raload_n rfl rfl rfl ?_
  have q2 := am_Ig203 hI
  refine am_rgetf (S1 := [am_iv (f 203), am_iv (f 202)]) rfl rfl ?_
  refine am_ric_ge rfl rfl (by unfold am_rg; omega) (by unfold am_rg; omega) (fun hc3 => ?_) (fun hc3 => ?_)
  · exact am_ethrow rfl rfl rfl rfl ⟨by decide, hI.weak⟩
  · refine am_raload_n rfl rfl rfl ?_
    refine am_rgetf (S1 := [.ref 3]) rfl rfl ?_
    refine am_raload_n rfl rfl rfl ?_
    refine am_rgetf (S1 := [am_iv (f 202), .ref 3]) rfl rfl ?_
    have q4 : (a 3).length = 720 := am_Ll3 (am_IL 3 rfl hI)
    have i5 : am_ib (a 3) (f 202) := by unfold am_ib; omega
    have q6 := am_Lb3 (am_IL 3 rfl hI) i5
    refine am_riaload (l := a 3) rfl am_ge3 i5 ?_
    refine am_riload_n rfl rfl rfl ?_
    refine am_ric_eq rfl rfl (by unfold am_rg; omega) (by unfold am_rg; omega) (fun hc7 => ?_) (fun hc7 => ?_)
    · refine am_raload_n rfl rfl rfl ?_
      refine am_rdup rfl rfl ?_
      refine am_rgetf (S1 := [am_iv (f 202), .ref 2]) rfl rfl ?_
      refine am_riconst rfl ?_
      refine am_riadd rfl ?_
      refine am_rputf (S1 := []) (h1 := am_enc (am_ud f 202 ((f 202) + 1)) a w e) rfl (am_pfB rfl am_ge2 rfl (am_sf202 _)) (by rw [am_enc_len, am_enc_len]) ?_
      have J8 := am_If202 (v := (f 202) + 1) hI (by omega) (by omega)
      have q9 := am_Ig201 hI
      exact am_eret rfl rfl ⟨J8, (show f 201 = (f 201) by omega)⟩
    · exact am_ethrow rfl rfl rfl rfl ⟨by decide, hI.weak⟩
set_option maxRecDepth 100000 in
set_option maxHeartbeats 4000000 in
theorem am_ct75 {X : List Value} {w : Value} {e : Nat} {g : aF} {h : aA} {p : Bool} {d : Nat} {f : aF} {a : aA} (hd : 2 ≤ d) (hI : am_IV p g h f a) :
    am_TE X d am_m75 0 (lv_args 0 [.ref 2]) [] f a w e (am_QI (fun b f1 a1 => am_IV p g h f1 a1 ∧ (-2147483648 ≤ b ∧ b ≤ 2147483647) ∧ (97 ≤ b ∧ b ≤ 122) ∧ f1 201 = (f 201))) (am_EC g h) := by
  obtain ⟨d, rfl⟩ : ∃ d0, d = d0 + 1 := ⟨d - 1, by omega⟩
  refine am_raload_n rfl rfl rfl ?_
  have q1 := am_Ig202 hI
  refine am_rgetf (S1 := [am_iv (f 202)]) rfl rfl ?_
  refine am_raload_n rfl rfl rfl ?_
  have q2 := am_Ig203 hI
  refine am_rgetf (S1 := [am_iv (f 203), am_iv (f 202)]) rfl rfl ?_
  refine am_ric_ge rfl rfl (by unfold am_rg; omega) (by unfold am_rg; omega) (fun hc3 => ?_) (fun hc3 => ?_)
  · exact am_ethrow rfl rfl rfl rfl ⟨by decide, hI.weak⟩
  · refine am_raload_n rfl rfl rfl ?_
    refine am_rgetf (S1 := [.ref 3]) rfl rfl ?_
    refine am_raload_n rfl rfl rfl ?_
    refine am_rgetf (S1 := [am_iv (f 202), .ref 3]) rfl rfl ?_
    have q4 : (a 3).length = 720 := am_Ll3 (am_IL 3 rfl hI)
    have i5 : am_ib (a 3) (f 202) := by unfold am_ib; omega
    have q6 := am_Lb3 (am_IL 3 rfl hI) i5
    refine am_riaload (l := a 3) rfl am_ge3 i5 ?_
    refine am_estaticI (m := am_m108) (As := [am_iv (am_at (a 3) (f 202))]) (S1 := []) rfl rfl rfl rfl rfl rfl rfl rfl (am_TE.int (am_ct108 (y1 := (am_at (a 3) (f 202))) (by omega) (by omega)) (fun b7 f7 a7 hq8 => ?_) (fun _ _ _ h => h))
    obtain ⟨rfl, rfl, hq8⟩ := hq8
    refine am_rif_ne rfl rfl (by unfold am_rg; omega) (fun hc9 => ?_) (fun hc9 => ?_)
    · refine am_raload_n rfl rfl rfl ?_
      refine am_rgetf (S1 := [.ref 3]) rfl rfl ?_
      refine am_raload_n rfl rfl rfl ?_
      refine am_rgetf (S1 := [am_iv (f 202), .ref 3]) rfl rfl ?_
      have i10 : am_ib (a 3) (f 202) := by unfold am_ib; omega
      refine am_riaload (l := a 3) rfl am_ge3 i10 ?_
      refine am_ristore_n (L1 := [(0, .ref 2), (1, am_iv (am_at (a 3) (f 202)))]) rfl rfl rfl rfl rfl ?_
      refine am_raload_n rfl rfl rfl ?_
      refine am_rdup rfl rfl ?_
      refine am_rgetf (S1 := [am_iv (f 202), .ref 2]) rfl rfl ?_
      refine am_riconst rfl ?_
      refine am_riadd rfl ?_
      refine am_rputf (S1 := []) (h1 := am_enc (am_ud f 202 ((f 202) + 1)) a w e) rfl (am_pfB rfl am_ge2 rfl (am_sf202 _)) (by rw [am_enc_len, am_enc_len]) ?_
      refine am_riload_n rfl rfl rfl ?_
      have J11 := am_If202 (v := (f 202) + 1) hI (by omega) (by omega)
      have q12 := am_Ig201 hI
      exact am_eiret rfl rfl ⟨J11, (show (-2147483648 ≤ am_at (a 3) (f 202) ∧ am_at (a 3) (f 202) ≤ 2147483647) by omega), (show (97 ≤ (am_at (a 3) (f 202)) ∧ (am_at (a 3) (f 202)) ≤ 122) by omega), (show f 201 = (f 201) by omega)⟩
    · exact am_ethrow rfl rfl rfl rfl ⟨by decide, hI.weak⟩
set_option maxRecDepth 100000 in
set_option maxHeartbeats 4000000 in
theorem am_ct76_20 {X : List Value} {w : Value} {e : Nat} {g : aF} {h : aA} {p : Bool} {E : Nat → aF → aA → Prop} {d : Nat} {zs : Nat} (hd : 1 ≤ d + 1) (n : Nat) :
    ∀ {f : aF} {a : aA} {x1 : Nat} {x2 : Int}, ((am_sl x1 : Int) - x2).toNat < n → am_IV p g h f a → x1 < am_sn → (-2147483648 ≤ x2 ∧ x2 ≤ 2147483647) → 0 ≤ x2 → am_sl x1 = am_sl zs → (am_sl x1 : Int) ≤ f 203 - f 202 → am_TE X (d + 1) am_m76 20 [(0, .ref 2), (1, .ref (1000000 + x1)), (2, am_iv x2)] [] f a w e (am_QI (fun b f1 a1 => f = f1 ∧ a = a1 ∧ (b = 0 ∨ b = 1) ∧ (b = 1 → (am_sl zs : Int) ≤ f 203 - f 202))) E := by
  induction n with
  | zero => intros; omega
  | succ n ih =>
    intro f a x1 x2 hn hI hp0 hp1 hp2 hp3 hp4
    have q1 := am_Ig202 hI
    have q2 := am_Ig203 hI
    refine am_riload_n rfl rfl rfl ?_
    refine am_raload_n rfl rfl rfl ?_
    have q3 := am_sl_le (s := x1) hp0
    refine am_rslen rfl (am_slenE hp0 rfl rfl) ?_
    refine am_ric_ge rfl rfl (by unfold am_rg; omega) (by unfold am_rg; omega) (fun hc4 => ?_) (fun hc4 => ?_)
    · refine am_riconst rfl ?_
      exact am_ebret rfl rfl (by omega) ⟨rfl, rfl, (show ((1 : Int) = 0 ∨ (1 : Int) = 1) by omega), (show (((1 : Int)) = 1 → (am_sl zs : Int) ≤ f 203 - f 202) by omega)⟩
    · refine am_raload_n rfl rfl rfl ?_
      refine am_rgetf (S1 := [.ref 3]) rfl rfl ?_
      refine am_raload_n rfl rfl rfl ?_
      refine am_rgetf (S1 := [am_iv (f 202), .ref 3]) rfl rfl ?_
      refine am_riload_n rfl rfl rfl ?_
      refine am_riadd rfl ?_
      have q5 : (a 3).length = 720 := am_Ll3 (am_IL 3 rfl hI)
      have i6 : am_ib (a 3) ((f 202) + x2) := by unfold am_ib; omega
      have q7 := am_Lb3 (am_IL 3 rfl hI) i6
      refine am_riaload (l := a 3) rfl am_ge3 i6 ?_
      refine am_raload_n rfl rfl rfl ?_
      refine am_riload_n rfl rfl rfl ?_
      have q8 := am_sc_rg x1 x2
      refine am_rschr rfl rfl (am_schrE hp0 (by omega) (by omega) (by omega) rfl rfl) ?_
      refine am_ric_eq rfl rfl (by unfold am_rg; omega) (by unfold am_rg; omega) (fun hc9 => ?_) (fun hc9 => ?_)
      · refine am_riinc (L1 := [(0, .ref 2), (1, .ref (1000000 + x1)), (2, am_iv (x2 + 1))]) rfl rfl rfl rfl rfl ?_
        refine am_rgoto rfl rfl ?_
        exact ih (by omega) hI hp0 (by omega) (by omega) (by omega) (by omega)
      · refine am_riconst rfl ?_
        exact am_ebret rfl rfl (by omega) ⟨rfl, rfl, (show ((0 : Int) = 0 ∨ (0 : Int) = 1) by omega), (show (((0 : Int)) = 1 → (am_sl zs : Int) ≤ f 203 - f 202) by omega)⟩
set_option maxRecDepth 100000 in
set_option maxHeartbeats 4000000 in
theorem am_ct76 {X : List Value} {w : Value} {e : Nat} {g : aF} {h : aA} {p : Bool} {E : Nat → aF → aA → Prop} {d : Nat} {y1 : Nat} {f : aF} {a : aA} (hd : 1 ≤ d) (hI : am_IV p g h f a) (hp0 : y1 < am_sn) :
    am_TE X d am_m76 0 (lv_args 0 [.ref 2, .ref (1000000 + y1)]) [] f a w e (am_QI (fun b f1 a1 => f = f1 ∧ a = a1 ∧ (b = 0 ∨ b = 1) ∧ (b = 1 → (am_sl (y1) : Int) ≤ f 203 - f 202))) E := by
  obtain ⟨d, rfl⟩ : ∃ d0, d = d0 + 1 := ⟨d - 1, by omega⟩
  refine am_raload_n rfl rfl rfl ?_
  have q1 := am_sl_le (s := y1) hp0
  refine am_rslen rfl (am_slenE hp0 rfl rfl) ?_
  refine am_raload_n rfl rfl rfl ?_
  have q2 := am_Ig203 hI
  refine am_rgetf (S1 := [am_iv (f 203), am_iv ((am_sl y1 : Int))]) rfl rfl ?_
  refine am_raload_n rfl rfl rfl ?_
  have q3 := am_Ig202 hI
  refine am_rgetf (S1 := [am_iv (f 202), am_iv (f 203), am_iv ((am_sl y1 : Int))]) rfl rfl ?_
  refine am_risub rfl ?_
  refine am_ric_le rfl rfl (by unfold am_rg; omega) (by unfold am_rg; omega) (fun hc4 => ?_) (fun hc4 => ?_)
  · refine am_riconst rfl ?_
    refine am_ristore_n (L1 := [(0, .ref 2), (1, .ref (1000000 + y1)), (2, am_iv 0)]) rfl rfl rfl rfl rfl ?_
    exact am_ct76_20 hd (_ + 1) (Nat.lt_succ_self _) hI hp0 (by omega) (by omega) (by omega) (by omega)
  · refine am_riconst rfl ?_
    exact am_ebret rfl rfl (by omega) ⟨rfl, rfl, (show ((0 : Int) = 0 ∨ (0 : Int) = 1) by omega), (show (((0 : Int)) = 1 → (am_sl (y1) : Int) ≤ f 203 - f 202) by omega)⟩
set_option maxRecDepth 100000 in
set_option maxHeartbeats 4000000 in
theorem am_ct77 {X : List Value} {w : Value} {e : Nat} {g : aF} {h : aA} {p : Bool} {d : Nat} {y1 : Nat} {f : aF} {a : aA} (hd : 2 ≤ d) (hI : am_IV p g h f a) (hp0 : y1 < am_sn) :
    am_TE X d am_m77 0 (lv_args 0 [.ref 2, .ref (1000000 + y1)]) [] f a w e (am_QI (fun b f1 a1 => am_IV p g h f1 a1 ∧ (b = 0 ∨ b = 1) ∧ f1 201 = (f 201))) (am_EC g h) := by
  obtain ⟨d, rfl⟩ : ∃ d0, d = d0 + 1 := ⟨d - 1, by omega⟩
  refine am_raload_n rfl rfl rfl ?_
  refine am_raload_n rfl rfl rfl ?_
  refine am_evirtualI (m := am_m76) (As := [.ref 2, .ref (1000000 + y1)]) (S1 := []) rfl rfl rfl rfl rfl rfl rfl rfl rfl rfl (am_TE.int (am_ct76  (by omega) hI hp0) (fun b1 f1 a1 hq2 => ?_) (fun _ _ _ h => h))
  have q3 := am_Ig202 hI
  have q4 := am_Ig203 hI
  obtain ⟨rfl, rfl, hq2⟩ := hq2
  refine am_ristore_n (L1 := [(0, .ref 2), (1, .ref (1000000 + y1)), (2, am_iv b1)]) rfl rfl rfl rfl rfl ?_
  refine am_riload_n rfl rfl rfl ?_
  refine am_rif_eq rfl rfl (by unfold am_rg; omega) (fun hc5 => ?_) (fun hc5 => ?_)
  · refine am_riload_n rfl rfl rfl ?_
    have q6 := am_Ig201 hI
    exact am_ebret rfl rfl (by omega) ⟨hI, (show (b1 = 0 ∨ b1 = 1) by omega), (show f 201 = (f 201) by omega)⟩
  · refine am_raload_n rfl rfl rfl ?_
    refine am_rdup rfl rfl ?_
    refine am_rgetf (S1 := [am_iv (f 202), .ref 2]) rfl rfl ?_
    refine am_raload_n rfl rfl rfl ?_
    have q7 := am_sl_le (s := y1) hp0
    refine am_rslen rfl (am_slenE hp0 rfl rfl) ?_
    refine am_riadd rfl ?_
    refine am_rputf (S1 := []) (h1 := am_enc (am_ud f 202 ((f 202) + ((am_sl y1 : Int)))) a w e) rfl (am_pfB rfl am_ge2 rfl (am_sf202 _)) (by rw [am_enc_len, am_enc_len]) ?_
    refine am_riload_n rfl rfl rfl ?_
    have J8 := am_If202 (v := (f 202) + ((am_sl y1 : Int))) hI (by omega) (by omega)
    have q9 := am_Ig201 hI
    exact am_ebret rfl rfl (by omega) ⟨J8, (show (b1 = 0 ∨ b1 = 1) by omega), (show f 201 = (f 201) by omega)⟩
set_option maxRecDepth 100000 in
set_option maxHeartbeats 4000000 in
theorem am_ct78_5 {X : List Value} {w : Value} {e : Nat} {g : aF} {h : aA} {p : Bool} {d : Nat} {z201 : Int} (hd : 2 ≤ d + 1) (n : Nat) :
    ∀ {f : aF} {a : aA} {x1 : Int}, (f 203 - f 202).toNat < n → am_IV p g h f a → (-2147483648 ≤ x1 ∧ x1 ≤ 2147483647) → f 201 = z201 → am_TE X (d + 1) am_m78 5 [(0, .ref 2), (1, am_iv x1)] [] f a w e (am_QI (fun b f1 a1 => am_IV p g h f1 a1 ∧ (b = 0 ∨ b = 1) ∧ f1 201 = z201)) (am_EC g h) := by
  induction n with
  | zero => intros; omega
  | succ n ih =>
    intro f a x1 hn hI hp0 hp1
    have q1 := am_Ig201 hI
    have q2 := am_Ig202 hI
    have q3 := am_Ig203 hI
    refine am_raload_n rfl rfl rfl ?_
    refine am_rgetf (S1 := [am_iv (f 202)]) rfl rfl ?_
    refine am_raload_n rfl rfl rfl ?_
    refine am_rgetf (S1 := [am_iv (f 203), am_iv (f 202)]) rfl rfl ?_
    refine am_ric_ge rfl rfl (by unfold am_rg; omega) (by unfold am_rg; omega) (fun hc4 => ?_) (fun hc4 => ?_)
    · refine am_raload_n rfl rfl rfl ?_
      refine am_rgetf (S1 := [am_iv (f 202)]) rfl rfl ?_
      refine am_riload_n rfl rfl rfl ?_
      refine am_ric_le rfl rfl (by unfold am_rg; omega) (by unfold am_rg; omega) (fun hc5 => ?_) (fun hc5 => ?_)
      · refine am_riconst rfl ?_
        exact am_ebret rfl rfl (by omega) ⟨hI, (show ((0 : Int) = 0 ∨ (0 : Int) = 1) by omega), (show f 201 = z201 by omega)⟩
      · refine am_riconst rfl ?_
        refine am_rgoto rfl rfl ?_
        exact am_ebret rfl rfl (by omega) ⟨hI, (show ((1 : Int) = 0 ∨ (1 : Int) = 1) by omega), (show f 201 = z201 by omega)⟩
    · refine am_raload_n rfl rfl rfl ?_
      refine am_rgetf (S1 := [.ref 3]) rfl rfl ?_
      refine am_raload_n rfl rfl rfl ?_
      refine am_rgetf (S1 := [am_iv (f 202), .ref 3]) rfl rfl ?_
      have q6 : (a 3).length = 720 := am_Ll3 (am_IL 3 rfl hI)
      have i7 : am_ib (a 3) (f 202) := by unfold am_ib; omega
      have q8 := am_Lb3 (am_IL 3 rfl hI) i7
      refine am_riaload (l := a 3) rfl am_ge3 i7 ?_
      refine am_estaticI (m := am_m107) (As := [am_iv (am_at (a 3) (f 202))]) (S1 := []) rfl rfl rfl rfl rfl rfl rfl rfl (am_TE.int (am_ct107 (y1 := (am_at (a 3) (f 202))) (by omega) (by omega)) (fun b9 f9 a9 hq10 => ?_) (fun _ _ _ h => h))
      obtain ⟨rfl, rfl, hq10⟩ := hq10
      refine am_rif_eq rfl rfl (by unfold am_rg; omega) (fun hc11 => ?_) (fun hc11 => ?_)
      · refine am_raload_n rfl rfl rfl ?_
        refine am_rgetf (S1 := [am_iv (f 202)]) rfl rfl ?_
        refine am_riload_n rfl rfl rfl ?_
        refine am_ric_le rfl rfl (by unfold am_rg; omega) (by unfold am_rg; omega) (fun hc12 => ?_) (fun hc12 => ?_)
        · refine am_riconst rfl ?_
          exact am_ebret rfl rfl (by omega) ⟨hI, (show ((0 : Int) = 0 ∨ (0 : Int) = 1) by omega), (show f 201 = z201 by omega)⟩
        · refine am_riconst rfl ?_
          refine am_rgoto rfl rfl ?_
          exact am_ebret rfl rfl (by omega) ⟨hI, (show ((1 : Int) = 0 ∨ (1 : Int) = 1) by omega), (show f 201 = z201 by omega)⟩
      · refine am_raload_n rfl rfl rfl ?_
        refine am_rdup rfl rfl ?_
        refine am_rgetf (S1 := [am_iv (f 202), .ref 2]) rfl rfl ?_
        refine am_riconst rfl ?_
        refine am_riadd rfl ?_
        refine am_rputf (S1 := []) (h1 := am_enc (am_ud f 202 ((f 202) + 1)) a w e) rfl (am_pfB rfl am_ge2 rfl (am_sf202 _)) (by rw [am_enc_len, am_enc_len]) ?_
        refine am_rgoto rfl rfl ?_
        have J13 := am_If202 (v := (f 202) + 1) hI (by omega) (by omega)
        exact ih (show ((f 203) - ((f 202) + 1)).toNat < n by omega) J13 (show (-2147483648 ≤ x1 ∧ x1 ≤ 2147483647) by omega) (show (f 201) = z201 by omega)
set_option maxRecDepth 100000 in
set_option maxHeartbeats 4000000 in
theorem am_ct78 {X : List Value} {w : Value} {e : Nat} {g : aF} {h : aA} {p : Bool} {d : Nat} {f : aF} {a : aA} (hd : 2 ≤ d) (hI : am_IV p g h f a) :
    am_TE X d am_m78 0 (lv_args 0 [.ref 2]) [] f a w e (am_QI (fun b f1 a1 => am_IV p g h f1 a1 ∧ (b = 0 ∨ b = 1) ∧ f1 201 = (f 201))) (am_EC g h) := by
  obtain ⟨d, rfl⟩ : ∃ d0, d = d0 + 1 := ⟨d - 1, by omega⟩
  refine am_raload_n rfl rfl rfl ?_
  have q1 := am_Ig202 hI
  refine am_rgetf (S1 := [am_iv (f 202)]) rfl rfl ?_
  refine am_ristore_n (L1 := [(0, .ref 2), (1, am_iv (f 202))]) rfl rfl rfl rfl rfl ?_
  have q2 := am_Ig201 hI
  exact am_ct78_5 hd (_ + 1) (Nat.lt_succ_self _) hI (by omega) (by omega)
set_option maxRecDepth 100000 in
set_option maxHeartbeats 4000000 in
theorem am_ct79 {X : List Value} {w : Value} {e : Nat} {g : aF} {h : aA} {p : Bool} {d : Nat} {f : aF} {a : aA} (hd : 3 ≤ d) (hI : am_IV p g h f a) :
    am_TE X d am_m79 0 (lv_args 0 [.ref 2]) [] f a w e (am_QV (fun f1 a1 => am_IV p g h f1 a1 ∧ f1 201 = (f 201))) (am_EC g h) := by
  obtain ⟨d, rfl⟩ : ∃ d0, d = d0 + 1 := ⟨d - 1, by omega⟩
  refine am_raload_n rfl rfl rfl ?_
  have q1 := am_Ig201 hI
  refine am_evirtualI (m := am_m78) (As := [.ref 2]) (S1 := []) rfl rfl rfl rfl rfl rfl rfl rfl rfl rfl (am_TE.int (am_ct78  (by omega) hI) (fun b2 f2 a2 hq3 => ?_) (fun _ _ _ h => h))
  obtain ⟨hI4, hq3⟩ := hq3
  refine am_rif_ne rfl rfl (by unfold am_rg; omega) (fun hc5 => ?_) (fun hc5 => ?_)
  · have q6 := am_Ig201 hI4
    exact am_eret rfl rfl ⟨hI4, (show f2 201 = (f 201) by omega)⟩
  · exact am_ethrow rfl rfl rfl rfl ⟨by decide, hI4.weak⟩
set_option maxRecDepth 100000 in
set_option maxHeartbeats 4000000 in
theorem am_ct80_5 {X : List Value} {w : Value} {e : Nat} {g : aF} {h : aA} {p : Bool} {d : Nat} {z201 : Int} (hd : 2 ≤ d + 1) (n : Nat) :
    ∀ {f : aF} {a : aA} {x1 : Int}, (f 203 - f 202).toNat < n → am_IV p g h f a → (-2147483648 ≤ x1 ∧ x1 ≤ 2147483647) → f 201 = z201 → am_TE X (d + 1) am_m80 5 [(0, .ref 2), (1, am_iv x1)] [] f a w e (am_QV (fun f1 a1 => am_IV p g h f1 a1 ∧ f1 201 = z201)) (am_EC g h) := by
  induction n with
  | zero => intros; omega
  | succ n ih =>
    intro f a x1 hn hI hp0 hp1
    have q1 := am_Ig201 hI
    have q2 := am_Ig202 hI
    have q3 := am_Ig203 hI
    refine am_raload_n rfl rfl rfl ?_
    refine am_rgetf (S1 := [am_iv (f 202)]) rfl rfl ?_
    refine am_raload_n rfl rfl rfl ?_
    refine am_rgetf (S1 := [am_iv (f 203), am_iv (f 202)]) rfl rfl ?_
    refine am_ric_ge rfl rfl (by unfold am_rg; omega) (by unfold am_rg; omega) (fun hc4 => ?_) (fun hc4 => ?_)
    · refine am_raload_n rfl rfl rfl ?_
      refine am_rgetf (S1 := [am_iv (f 202)]) rfl rfl ?_
      refine am_riload_n rfl rfl rfl ?_
      refine am_ric_ne rfl rfl (by unfold am_rg; omega) (by unfold am_rg; omega) (fun hc5 => ?_) (fun hc5 => ?_)
      · exact am_eret rfl rfl ⟨hI, (show f 201 = z201 by omega)⟩
      · exact am_ethrow rfl rfl rfl rfl ⟨by decide, hI.weak⟩
    · refine am_raload_n rfl rfl rfl ?_
      refine am_rgetf (S1 := [.ref 3]) rfl rfl ?_
      refine am_raload_n rfl rfl rfl ?_
      refine am_rgetf (S1 := [am_iv (f 202), .ref 3]) rfl rfl ?_
      have q6 : (a 3).length = 720 := am_Ll3 (am_IL 3 rfl hI)
      have i7 : am_ib (a 3) (f 202) := by unfold am_ib; omega
      have q8 := am_Lb3 (am_IL 3 rfl hI) i7
      refine am_riaload (l := a 3) rfl am_ge3 i7 ?_
      refine am_estaticI (m := am_m110) (As := [am_iv (am_at (a 3) (f 202))]) (S1 := []) rfl rfl rfl rfl rfl rfl rfl rfl (am_TE.int (am_ct110 (y1 := (am_at (a 3) (f 202))) (by omega) (by omega)) (fun b9 f9 a9 hq10 => ?_) (fun _ _ _ h => h))
      obtain ⟨rfl, rfl, hq10⟩ := hq10
      refine am_rif_eq rfl rfl (by unfold am_rg; omega) (fun hc11 => ?_) (fun hc11 => ?_)
      · refine am_raload_n rfl rfl rfl ?_
        refine am_rgetf (S1 := [am_iv (f 202)]) rfl rfl ?_
        refine am_riload_n rfl rfl rfl ?_
        refine am_ric_ne rfl rfl (by unfold am_rg; omega) (by unfold am_rg; omega) (fun hc12 => ?_) (fun hc12 => ?_)
        · exact am_eret rfl rfl ⟨hI, (show f 201 = z201 by omega)⟩
        · exact am_ethrow rfl rfl rfl rfl ⟨by decide, hI.weak⟩
      · refine am_raload_n rfl rfl rfl ?_
        refine am_rdup rfl rfl ?_
        refine am_rgetf (S1 := [am_iv (f 202), .ref 2]) rfl rfl ?_
        refine am_riconst rfl ?_
        refine am_riadd rfl ?_
        refine am_rputf (S1 := []) (h1 := am_enc (am_ud f 202 ((f 202) + 1)) a w e) rfl (am_pfB rfl am_ge2 rfl (am_sf202 _)) (by rw [am_enc_len, am_enc_len]) ?_
        refine am_rgoto rfl rfl ?_
        have J13 := am_If202 (v := (f 202) + 1) hI (by omega) (by omega)
        exact ih (show ((f 203) - ((f 202) + 1)).toNat < n by omega) J13 (show (-2147483648 ≤ x1 ∧ x1 ≤ 2147483647) by omega) (show (f 201) = z201 by omega)
set_option maxRecDepth 100000 in
set_option maxHeartbeats 4000000 in
theorem am_ct80 {X : List Value} {w : Value} {e : Nat} {g : aF} {h : aA} {p : Bool} {d : Nat} {f : aF} {a : aA} (hd : 2 ≤ d) (hI : am_IV p g h f a) :
    am_TE X d am_m80 0 (lv_args 0 [.ref 2]) [] f a w e (am_QV (fun f1 a1 => am_IV p g h f1 a1 ∧ f1 201 = (f 201))) (am_EC g h) := by
  obtain ⟨d, rfl⟩ : ∃ d0, d = d0 + 1 := ⟨d - 1, by omega⟩
  refine am_raload_n rfl rfl rfl ?_
  have q1 := am_Ig202 hI
  refine am_rgetf (S1 := [am_iv (f 202)]) rfl rfl ?_
  refine am_ristore_n (L1 := [(0, .ref 2), (1, am_iv (f 202))]) rfl rfl rfl rfl rfl ?_
  have q2 := am_Ig201 hI
  exact am_ct80_5 hd (_ + 1) (Nat.lt_succ_self _) hI (by omega) (by omega)
set_option maxRecDepth 100000 in
set_option maxHeartbeats 4000000 in
theorem am_ct81_13 {X : List Value} {w : Value} {e : Nat} {g : aF} {h : aA} {p : Bool} {d : Nat} {z201 : Int} (hd : 3 ≤ d + 1) (n : Nat) :
    ∀ {f : aF} {a : aA} {x1 : Int}, (1000000 - x1).toNat < n → am_IV p g h f a → (-2147483648 ≤ x1 ∧ x1 ≤ 2147483647) → 0 ≤ x1 → f 201 = z201 → am_TE X (d + 1) am_m81 13 [(0, .ref 2), (1, am_iv x1)] [] f a w e (am_QI (fun b f1 a1 => am_IV p g h f1 a1 ∧ (b = 0 ∨ b = 1) ∧ f1 201 = z201)) (am_EC g h) := by
  induction n with
  | zero => intros; omega
  | succ n ih =>
    intro f a x1 hn hI hp0 hp1 hp2
    have q1 := am_Ig201 hI
    refine am_riload_n rfl rfl rfl ?_
    refine am_rldc (x := 1000000) rfl rfl (by decide) ?_
    refine am_ric_ge rfl rfl (by unfold am_rg; omega) (by unfold am_rg; omega) (fun hc2 => ?_) (fun hc2 => ?_)
    · refine am_riconst rfl ?_
      exact am_ebret rfl rfl (by omega) ⟨hI, (show ((1 : Int) = 0 ∨ (1 : Int) = 1) by omega), (show f 201 = z201 by omega)⟩
    · refine am_raload_n rfl rfl rfl ?_
      refine am_rldcs rfl rfl rfl ?_
      refine am_evirtualI (m := am_m77) (As := [.ref 2, .ref (1000000 + 1)]) (S1 := []) rfl rfl rfl rfl rfl rfl rfl rfl rfl rfl (am_TE.int (am_ct77  (by omega) hI (by decide)) (fun b3 f3 a3 hq4 => ?_) (fun _ _ _ h => h))
      obtain ⟨hI5, hq4⟩ := hq4
      refine am_rif_ne rfl rfl (by unfold am_rg; omega) (fun hc6 => ?_) (fun hc6 => ?_)
      · refine am_riconst rfl ?_
        have q7 := am_Ig201 hI5
        exact am_ebret rfl rfl (by omega) ⟨hI5, (show ((1 : Int) = 0 ∨ (1 : Int) = 1) by omega), (show f3 201 = z201 by omega)⟩
      · refine am_raload_n rfl rfl rfl ?_
        refine am_rldcs rfl rfl rfl ?_
        refine am_evirtualI (m := am_m76) (As := [.ref 2, .ref (1000000 + 2)]) (S1 := []) rfl rfl rfl rfl rfl rfl rfl rfl rfl rfl (am_TE.int (am_ct76  (by omega) hI5 (by decide)) (fun b8 f8 a8 hq9 => ?_) (fun _ _ _ h => h))
        have q10 := am_Ig202 hI5
        have q11 := am_Ig203 hI5
        obtain ⟨rfl, rfl, hq9⟩ := hq9
        refine am_rif_eq rfl rfl (by unfold am_rg; omega) (fun hc12 => ?_) (fun hc12 => ?_)
        · refine am_raload_n rfl rfl rfl ?_
          have q13 := am_Ig201 hI5
          refine am_evirtualI (m := am_m73) (As := [.ref 2]) (S1 := []) rfl rfl rfl rfl rfl rfl rfl rfl rfl rfl (am_TE.int (am_ct73  (by omega) hI5) (fun b14 f14 a14 hq15 => ?_) (fun _ _ _ h => h))
          obtain ⟨hI16, hq15⟩ := hq15
          refine am_rpop rfl rfl ?_
          refine am_riinc (L1 := [(0, .ref 2), (1, am_iv (x1 + 1))]) rfl rfl rfl rfl rfl ?_
          refine am_rgoto rfl rfl ?_
          have q17 := am_Ig201 hI16
          exact ih (by omega) hI16 (by omega) (by omega) (by omega)
        · refine am_raload_n rfl rfl rfl ?_
          refine am_rldcs rfl rfl rfl ?_
          refine am_evirtualI (m := am_m76) (As := [.ref 2, .ref (1000000 + 3)]) (S1 := []) rfl rfl rfl rfl rfl rfl rfl rfl rfl rfl (am_TE.int (am_ct76  (by omega) hI5 (by decide)) (fun b18 f18 a18 hq19 => ?_) (fun _ _ _ h => h))
          obtain ⟨rfl, rfl, hq19⟩ := hq19
          refine am_rif_ne rfl rfl (by unfold am_rg; omega) (fun hc20 => ?_) (fun hc20 => ?_)
          · refine am_raload_n rfl rfl rfl ?_
            have q21 := am_Ig201 hI5
            refine am_evirtualI (m := am_m73) (As := [.ref 2]) (S1 := []) rfl rfl rfl rfl rfl rfl rfl rfl rfl rfl (am_TE.int (am_ct73  (by omega) hI5) (fun b22 f22 a22 hq23 => ?_) (fun _ _ _ h => h))
            obtain ⟨hI24, hq23⟩ := hq23
            refine am_rpop rfl rfl ?_
            refine am_riinc (L1 := [(0, .ref 2), (1, am_iv (x1 + 1))]) rfl rfl rfl rfl rfl ?_
            refine am_rgoto rfl rfl ?_
            have q25 := am_Ig201 hI24
            exact ih (by omega) hI24 (by omega) (by omega) (by omega)
          · exact am_ethrow rfl rfl rfl rfl ⟨by decide, hI5.weak⟩
set_option maxRecDepth 100000 in
set_option maxHeartbeats 4000000 in
theorem am_ct81 {X : List Value} {w : Value} {e : Nat} {g : aF} {h : aA} {p : Bool} {d : Nat} {f : aF} {a : aA} (hd : 3 ≤ d) (hI : am_IV p g h f a) :
    am_TE X d am_m81 0 (lv_args 0 [.ref 2]) [] f a w e (am_QI (fun b f1 a1 => am_IV p g h f1 a1 ∧ (b = 0 ∨ b = 1) ∧ f1 201 = (f 201))) (am_EC g h) := by
  obtain ⟨d, rfl⟩ : ∃ d0, d = d0 + 1 := ⟨d - 1, by omega⟩
  refine am_raload_n rfl rfl rfl ?_
  refine am_rldcs rfl rfl rfl ?_
  have q1 := am_Ig201 hI
  refine am_evirtualI (m := am_m77) (As := [.ref 2, .ref (1000000 + 0)]) (S1 := []) rfl rfl rfl rfl rfl rfl rfl rfl rfl rfl (am_TE.int (am_ct77  (by omega) hI (by decide)) (fun b2 f2 a2 hq3 => ?_) (fun _ _ _ h => h))
  obtain ⟨hI4, hq3⟩ := hq3
  refine am_rif_ne rfl rfl (by unfold am_rg; omega) (fun hc5 => ?_) (fun hc5 => ?_)
  · refine am_riconst rfl ?_
    refine am_ristore_n (L1 := [(0, .ref 2), (1, am_iv 0)]) rfl rfl rfl rfl rfl ?_
    have q6 := am_Ig201 hI4
    exact am_ct81_13 hd (_ + 1) (Nat.lt_succ_self _) hI4 (by omega) (by omega) (by omega)
  · refine am_riconst rfl ?_
    have q7 := am_Ig201 hI4
    exact am_ebret rfl rfl (by omega) ⟨hI4, (show ((0 : Int) = 0 ∨ (0 : Int) = 1) by omega), (show f2 201 = (f 201) by omega)⟩
set_option maxRecDepth 100000 in
set_option maxHeartbeats 4000000 in
theorem am_ct82_4 {X : List Value} {w : Value} {e : Nat} {g : aF} {h : aA} {p : Bool} {d : Nat} {z201 : Int} (hd : 4 ≤ d + 1) (n : Nat) :
    ∀ {f : aF} {a : aA} {x1 : Int} {x2 : Int}, (1000000 - x2).toNat < n → am_IV p g h f a → (-2147483648 ≤ x1 ∧ x1 ≤ 2147483647) → (-2147483648 ≤ x2 ∧ x2 ≤ 2147483647) → 0 ≤ x2 → f 201 = z201 → am_TE X (d + 1) am_m82 4 [(0, .ref 2), (1, am_iv x1), (2, am_iv x2)] [] f a w e (am_QV (fun f1 a1 => am_IV p g h f1 a1 ∧ f1 201 = z201)) (am_EC g h) := by
  induction n with
  | zero => intros; omega
  | succ n ih =>
    intro f a x1 x2 hn hI hp0 hp1 hp2 hp3
    have q1 := am_Ig201 hI
    refine am_riload_n rfl rfl rfl ?_
    refine am_rldc (x := 1000000) rfl rfl (by decide) ?_
    refine am_ric_ge rfl rfl (by unfold am_rg; omega) (by unfold am_rg; omega) (fun hc2 => ?_) (fun hc2 => ?_)
    · exact am_eret rfl rfl ⟨hI, (show f 201 = z201 by omega)⟩
    · refine am_riload_n rfl rfl rfl ?_
      refine am_rif_eq rfl rfl (by unfold am_rg; omega) (fun hc3 => ?_) (fun hc3 => ?_)
      · exact am_eret rfl rfl ⟨hI, (show f 201 = z201 by omega)⟩
      · refine am_raload_n rfl rfl rfl ?_
        refine am_evirtualI (m := am_m78) (As := [.ref 2]) (S1 := []) rfl rfl rfl rfl rfl rfl rfl rfl rfl rfl (am_TE.int (am_ct78  (by omega) hI) (fun b4 f4 a4 hq5 => ?_) (fun _ _ _ h => h))
        obtain ⟨hI6, hq5⟩ := hq5
        refine am_rif_ne rfl rfl (by unfold am_rg; omega) (fun hc7 => ?_) (fun hc7 => ?_)
        · refine am_riconst rfl ?_
          refine am_rgoto rfl rfl ?_
          refine am_ristore_n (L1 := [(0, .ref 2), (1, am_iv 1), (2, am_iv x2)]) rfl rfl rfl rfl rfl ?_
          refine am_riinc (L1 := [(0, .ref 2), (1, am_iv 1), (2, am_iv (x2 + 1))]) rfl rfl rfl rfl rfl ?_
          refine am_rgoto rfl rfl ?_
          have q8 := am_Ig201 hI6
          exact ih (by omega) hI6 (by omega) (by omega) (by omega) (by omega)
        · refine am_raload_n rfl rfl rfl ?_
          have q9 := am_Ig201 hI6
          refine am_evirtualI (m := am_m81) (As := [.ref 2]) (S1 := []) rfl rfl rfl rfl rfl rfl rfl rfl rfl rfl (am_TE.int (am_ct81  (by omega) hI6) (fun b10 f10 a10 hq11 => ?_) (fun _ _ _ h => h))
          obtain ⟨hI12, hq11⟩ := hq11
          refine am_rif_eq rfl rfl (by unfold am_rg; omega) (fun hc13 => ?_) (fun hc13 => ?_)
          · refine am_riconst rfl ?_
            refine am_ristore_n (L1 := [(0, .ref 2), (1, am_iv 0), (2, am_iv x2)]) rfl rfl rfl rfl rfl ?_
            refine am_riinc (L1 := [(0, .ref 2), (1, am_iv 0), (2, am_iv (x2 + 1))]) rfl rfl rfl rfl rfl ?_
            refine am_rgoto rfl rfl ?_
            have q14 := am_Ig201 hI12
            exact ih (by omega) hI12 (by omega) (by omega) (by omega) (by omega)
          · refine am_riconst rfl ?_
            refine am_rgoto rfl rfl ?_
            refine am_ristore_n (L1 := [(0, .ref 2), (1, am_iv 1), (2, am_iv x2)]) rfl rfl rfl rfl rfl ?_
            refine am_riinc (L1 := [(0, .ref 2), (1, am_iv 1), (2, am_iv (x2 + 1))]) rfl rfl rfl rfl rfl ?_
            refine am_rgoto rfl rfl ?_
            have q15 := am_Ig201 hI12
            exact ih (by omega) hI12 (by omega) (by omega) (by omega) (by omega)
set_option maxRecDepth 100000 in
set_option maxHeartbeats 4000000 in
theorem am_ct82 {X : List Value} {w : Value} {e : Nat} {g : aF} {h : aA} {p : Bool} {d : Nat} {f : aF} {a : aA} (hd : 4 ≤ d) (hI : am_IV p g h f a) :
    am_TE X d am_m82 0 (lv_args 0 [.ref 2]) [] f a w e (am_QV (fun f1 a1 => am_IV p g h f1 a1 ∧ f1 201 = (f 201))) (am_EC g h) := by
  obtain ⟨d, rfl⟩ : ∃ d0, d = d0 + 1 := ⟨d - 1, by omega⟩
  refine am_riconst rfl ?_
  refine am_ristore_n (L1 := [(0, .ref 2), (1, am_iv 1)]) rfl rfl rfl rfl rfl ?_
  refine am_riconst rfl ?_
  refine am_ristore_n (L1 := [(0, .ref 2), (1, am_iv 1), (2, am_iv 0)]) rfl rfl rfl rfl rfl ?_
  have q1 := am_Ig201 hI
  exact am_ct82_4 hd (_ + 1) (Nat.lt_succ_self _) hI (by omega) (by omega) (by omega) (by omega)
set_option maxRecDepth 100000 in
set_option maxHeartbeats 4000000 in
theorem am_ct84_7 {X : List Value} {w : Value} {e : Nat} {g : aF} {h : aA} {p : Bool} {d : Nat} {z201 : Int} (hd : 2 ≤ d + 1) (n : Nat) :
    ∀ {f : aF} {a : aA} {x1 : Int} {x2 : Int}, (f 203 - f 202).toNat < n → am_IV p g h f a → (-2147483648 ≤ x1 ∧ x1 ≤ 2147483647) → (-2147483648 ≤ x2 ∧ x2 ≤ 2147483647) → 0 ≤ x1 → x1 ≤ f 202 → f 202 - x1 ≤ 6 → 0 ≤ x2 → x2 < am_ten (f 202 - x1) → f 201 = z201 → am_TE X (d + 1) am_m84 7 [(0, .ref 2), (1, am_iv x1), (2, am_iv x2)] [] f a w e (am_QI (fun b f1 a1 => am_IV p g h f1 a1 ∧ (-2147483648 ≤ b ∧ b ≤ 2147483647) ∧ f1 201 = z201)) (am_EC g h) := by
  induction n with
  | zero => intros; omega
  | succ n ih =>
    intro f a x1 x2 hn hI hp0 hp1 hp2 hp3 hp4 hp5 hp6 hp7
    have q1 := am_Ig202 hI
    have q2 := am_Ig201 hI
    have q3 := am_Ig203 hI
    have p1 : am_ten ((f 202) + 1 - x1) = 10 * am_ten (f 202 - x1) := by rw [show (f 202) + 1 - x1 = f 202 - x1 + 1 by omega]; exact am_ten_s (by omega)
    have p6 := am_ten_6 (x := f 202 - x1) (by omega) (by omega)
    refine am_raload_n rfl rfl rfl ?_
    refine am_rgetf (S1 := [am_iv (f 202)]) rfl rfl ?_
    refine am_raload_n rfl rfl rfl ?_
    refine am_rgetf (S1 := [am_iv (f 203), am_iv (f 202)]) rfl rfl ?_
    refine am_ric_ge rfl rfl (by unfold am_rg; omega) (by unfold am_rg; omega) (fun hc4 => ?_) (fun hc4 => ?_)
    · refine am_raload_n rfl rfl rfl ?_
      refine am_rgetf (S1 := [am_iv (f 202)]) rfl rfl ?_
      refine am_riload_n rfl rfl rfl ?_
      refine am_ric_eq rfl rfl (by unfold am_rg; omega) (by unfold am_rg; omega) (fun hc5 => ?_) (fun hc5 => ?_)
      · exact am_ethrow rfl rfl rfl rfl ⟨by decide, hI.weak⟩
      · refine am_riload_n rfl rfl rfl ?_
        refine am_estaticI (m := am_m106) (As := [am_iv x2]) (S1 := []) rfl rfl rfl rfl rfl rfl rfl rfl (am_TE.int (am_ct106 (y1 := x2) (by omega) (by omega)) (fun b6 f6 a6 hq7 => ?_) (fun _ _ _ h => h))
        obtain ⟨rfl, rfl, hq7⟩ := hq7
        refine am_rif_ne rfl rfl (by unfold am_rg; omega) (fun hc8 => ?_) (fun hc8 => ?_)
        · refine am_raload_n rfl rfl rfl ?_
          refine am_rbipush rfl (by decide) ?_
          refine am_evirtualV (m := am_m74) (As := [.ref 2, am_iv 59]) (S1 := []) rfl rfl rfl rfl rfl rfl rfl rfl rfl rfl (am_TE.void (am_ct74 (y1 := 59) (by omega) hI (by omega)) (fun f9 a9 hq10 => ?_) (fun _ _ _ h => h))
          obtain ⟨hI11, hq10⟩ := hq10
          refine am_riload_n rfl rfl rfl ?_
          have q12 := am_Ig201 hI11
          exact am_eiret rfl rfl ⟨hI11, (show (-2147483648 ≤ x2 ∧ x2 ≤ 2147483647) by omega), (show f9 201 = z201 by omega)⟩
        · exact am_ethrow rfl rfl rfl rfl ⟨by decide, hI.weak⟩
    · refine am_raload_n rfl rfl rfl ?_
      refine am_rgetf (S1 := [am_iv (f 202)]) rfl rfl ?_
      refine am_riload_n rfl rfl rfl ?_
      refine am_risub rfl ?_
      refine am_rbipush rfl (by decide) ?_
      refine am_ric_ge rfl rfl (by unfold am_rg; omega) (by unfold am_rg; omega) (fun hc13 => ?_) (fun hc13 => ?_)
      · refine am_raload_n rfl rfl rfl ?_
        refine am_rgetf (S1 := [am_iv (f 202)]) rfl rfl ?_
        refine am_riload_n rfl rfl rfl ?_
        refine am_ric_eq rfl rfl (by unfold am_rg; omega) (by unfold am_rg; omega) (fun hc14 => ?_) (fun hc14 => ?_)
        · exact am_ethrow rfl rfl rfl rfl ⟨by decide, hI.weak⟩
        · refine am_riload_n rfl rfl rfl ?_
          refine am_estaticI (m := am_m106) (As := [am_iv x2]) (S1 := []) rfl rfl rfl rfl rfl rfl rfl rfl (am_TE.int (am_ct106 (y1 := x2) (by omega) (by omega)) (fun b15 f15 a15 hq16 => ?_) (fun _ _ _ h => h))
          obtain ⟨rfl, rfl, hq16⟩ := hq16
          refine am_rif_ne rfl rfl (by unfold am_rg; omega) (fun hc17 => ?_) (fun hc17 => ?_)
          · refine am_raload_n rfl rfl rfl ?_
            refine am_rbipush rfl (by decide) ?_
            refine am_evirtualV (m := am_m74) (As := [.ref 2, am_iv 59]) (S1 := []) rfl rfl rfl rfl rfl rfl rfl rfl rfl rfl (am_TE.void (am_ct74 (y1 := 59) (by omega) hI (by omega)) (fun f18 a18 hq19 => ?_) (fun _ _ _ h => h))
            obtain ⟨hI20, hq19⟩ := hq19
            refine am_riload_n rfl rfl rfl ?_
            have q21 := am_Ig201 hI20
            exact am_eiret rfl rfl ⟨hI20, (show (-2147483648 ≤ x2 ∧ x2 ≤ 2147483647) by omega), (show f18 201 = z201 by omega)⟩
          · exact am_ethrow rfl rfl rfl rfl ⟨by decide, hI.weak⟩
      · refine am_raload_n rfl rfl rfl ?_
        refine am_rgetf (S1 := [.ref 3]) rfl rfl ?_
        refine am_raload_n rfl rfl rfl ?_
        refine am_rgetf (S1 := [am_iv (f 202), .ref 3]) rfl rfl ?_
        have q22 : (a 3).length = 720 := am_Ll3 (am_IL 3 rfl hI)
        have i23 : am_ib (a 3) (f 202) := by unfold am_ib; omega
        have q24 := am_Lb3 (am_IL 3 rfl hI) i23
        refine am_riaload (l := a 3) rfl am_ge3 i23 ?_
        refine am_estaticI (m := am_m109) (As := [am_iv (am_at (a 3) (f 202))]) (S1 := []) rfl rfl rfl rfl rfl rfl rfl rfl (am_TE.int (am_ct109 (y1 := (am_at (a 3) (f 202))) (by omega) (by omega)) (fun b25 f25 a25 hq26 => ?_) (fun _ _ _ h => h))
        obtain ⟨rfl, rfl, hq26⟩ := hq26
        refine am_rif_eq rfl rfl (by unfold am_rg; omega) (fun hc27 => ?_) (fun hc27 => ?_)
        · refine am_raload_n rfl rfl rfl ?_
          refine am_rgetf (S1 := [am_iv (f 202)]) rfl rfl ?_
          refine am_riload_n rfl rfl rfl ?_
          refine am_ric_eq rfl rfl (by unfold am_rg; omega) (by unfold am_rg; omega) (fun hc28 => ?_) (fun hc28 => ?_)
          · exact am_ethrow rfl rfl rfl rfl ⟨by decide, hI.weak⟩
          · refine am_riload_n rfl rfl rfl ?_
            refine am_estaticI (m := am_m106) (As := [am_iv x2]) (S1 := []) rfl rfl rfl rfl rfl rfl rfl rfl (am_TE.int (am_ct106 (y1 := x2) (by omega) (by omega)) (fun b29 f29 a29 hq30 => ?_) (fun _ _ _ h => h))
            obtain ⟨rfl, rfl, hq30⟩ := hq30
            refine am_rif_ne rfl rfl (by unfold am_rg; omega) (fun hc31 => ?_) (fun hc31 => ?_)
            · refine am_raload_n rfl rfl rfl ?_
              refine am_rbipush rfl (by decide) ?_
              refine am_evirtualV (m := am_m74) (As := [.ref 2, am_iv 59]) (S1 := []) rfl rfl rfl rfl rfl rfl rfl rfl rfl rfl (am_TE.void (am_ct74 (y1 := 59) (by omega) hI (by omega)) (fun f32 a32 hq33 => ?_) (fun _ _ _ h => h))
              obtain ⟨hI34, hq33⟩ := hq33
              refine am_riload_n rfl rfl rfl ?_
              have q35 := am_Ig201 hI34
              exact am_eiret rfl rfl ⟨hI34, (show (-2147483648 ≤ x2 ∧ x2 ≤ 2147483647) by omega), (show f32 201 = z201 by omega)⟩
            · exact am_ethrow rfl rfl rfl rfl ⟨by decide, hI.weak⟩
        · refine am_rbipush rfl (by decide) ?_
          refine am_riload_n rfl rfl rfl ?_
          refine am_rimul rfl ?_
          refine am_raload_n rfl rfl rfl ?_
          refine am_rgetf (S1 := [.ref 3, am_iv (10 * x2)]) rfl rfl ?_
          refine am_raload_n rfl rfl rfl ?_
          refine am_rgetf (S1 := [am_iv (f 202), .ref 3, am_iv (10 * x2)]) rfl rfl ?_
          have i36 : am_ib (a 3) (f 202) := by unfold am_ib; omega
          refine am_riaload (l := a 3) rfl am_ge3 i36 ?_
          refine am_rbipush rfl (by decide) ?_
          refine am_risub rfl ?_
          refine am_riadd rfl ?_
          refine am_ristore_n (L1 := [(0, .ref 2), (1, am_iv x1), (2, am_iv ((10 * x2) + ((am_at (a 3) (f 202)) - 48)))]) rfl rfl rfl rfl rfl ?_
          refine am_raload_n rfl rfl rfl ?_
          refine am_rdup rfl rfl ?_
          refine am_rgetf (S1 := [am_iv (f 202), .ref 2]) rfl rfl ?_
          refine am_riconst rfl ?_
          refine am_riadd rfl ?_
          refine am_rputf (S1 := []) (h1 := am_enc (am_ud f 202 ((f 202) + 1)) a w e) rfl (am_pfB rfl am_ge2 rfl (am_sf202 _)) (by rw [am_enc_len, am_enc_len]) ?_
          refine am_rgoto rfl rfl ?_
          have J37 := am_If202 (v := (f 202) + 1) hI (by omega) (by omega)
          exact ih (show ((f 203) - ((f 202) + 1)).toNat < n by omega) J37 (show (-2147483648 ≤ x1 ∧ x1 ≤ 2147483647) by omega) (show (-2147483648 ≤ ((10 * x2) + ((am_at (a 3) (f 202)) - 48)) ∧ ((10 * x2) + ((am_at (a 3) (f 202)) - 48)) ≤ 2147483647) by omega) (show 0 ≤ x1 by omega) (show x1 ≤ ((f 202) + 1) by omega) (show ((f 202) + 1) - x1 ≤ 6 by omega) (show 0 ≤ ((10 * x2) + ((am_at (a 3) (f 202)) - 48)) by omega) (show ((10 * x2) + ((am_at (a 3) (f 202)) - 48)) < am_ten (((f 202) + 1) - x1) by omega) (show (f 201) = z201 by omega)
set_option maxRecDepth 100000 in
set_option maxHeartbeats 4000000 in
theorem am_ct84 {X : List Value} {w : Value} {e : Nat} {g : aF} {h : aA} {p : Bool} {d : Nat} {f : aF} {a : aA} (hd : 2 ≤ d) (hI : am_IV p g h f a) :
    am_TE X d am_m84 0 (lv_args 0 [.ref 2]) [] f a w e (am_QI (fun b f1 a1 => am_IV p g h f1 a1 ∧ (-2147483648 ≤ b ∧ b ≤ 2147483647) ∧ f1 201 = (f 201))) (am_EC g h) := by
  obtain ⟨d, rfl⟩ : ∃ d0, d = d0 + 1 := ⟨d - 1, by omega⟩
  have p0 : am_ten (f 202 - f 202) = 1 := by rw [Int.sub_self]; rfl
  refine am_raload_n rfl rfl rfl ?_
  have q1 := am_Ig202 hI
  refine am_rgetf (S1 := [am_iv (f 202)]) rfl rfl ?_
  refine am_ristore_n (L1 := [(0, .ref 2), (1, am_iv (f 202))]) rfl rfl rfl rfl rfl ?_
  refine am_riconst rfl ?_
  refine am_ristore_n (L1 := [(0, .ref 2), (1, am_iv (f 202)), (2, am_iv 0)]) rfl rfl rfl rfl rfl ?_
  have q2 := am_Ig201 hI
  exact am_ct84_7 hd (_ + 1) (Nat.lt_succ_self _) hI (by omega) (by omega) (by omega) (by omega) (by omega) (by omega) (by omega) (by omega)
set_option maxRecDepth 100000 in
set_option maxHeartbeats 4000000 in
theorem am_ct83 {X : List Value} {w : Value} {e : Nat} {g : aF} {h : aA} {p : Bool} {d : Nat} {f : aF} {a : aA} (hd : 3 ≤ d) (hI : am_IV p g h f a) :
    am_TE X d am_m83 0 (lv_args 0 [.ref 2]) [] f a w e (am_QI (fun b f1 a1 => am_IV p g h f1 a1 ∧ (-2147483648 ≤ b ∧ b ≤ 2147483647) ∧ f1 201 = (f 201))) (am_EC g h) := by
  obtain ⟨d, rfl⟩ : ∃ d0, d = d0 + 1 := ⟨d - 1, by omega⟩
  refine am_raload_n rfl rfl rfl ?_
  refine am_rldcs rfl rfl rfl ?_
  have q1 := am_Ig201 hI
  refine am_evirtualI (m := am_m77) (As := [.ref 2, .ref (1000000 + 25)]) (S1 := []) rfl rfl rfl rfl rfl rfl rfl rfl rfl rfl (am_TE.int (am_ct77  (by omega) hI (by decide)) (fun b2 f2 a2 hq3 => ?_) (fun _ _ _ h => h))
  obtain ⟨hI4, hq3⟩ := hq3
  refine am_rif_eq rfl rfl (by unfold am_rg; omega) (fun hc5 => ?_) (fun hc5 => ?_)
  · refine am_raload_n rfl rfl rfl ?_
    refine am_rldcs rfl rfl rfl ?_
    have q6 := am_Ig201 hI4
    refine am_evirtualI (m := am_m77) (As := [.ref 2, .ref (1000000 + 26)]) (S1 := []) rfl rfl rfl rfl rfl rfl rfl rfl rfl rfl (am_TE.int (am_ct77  (by omega) hI4 (by decide)) (fun b7 f7 a7 hq8 => ?_) (fun _ _ _ h => h))
    obtain ⟨hI9, hq8⟩ := hq8
    refine am_rif_eq rfl rfl (by unfold am_rg; omega) (fun hc10 => ?_) (fun hc10 => ?_)
    · refine am_raload_n rfl rfl rfl ?_
      refine am_rldcs rfl rfl rfl ?_
      have q11 := am_Ig201 hI9
      refine am_evirtualI (m := am_m77) (As := [.ref 2, .ref (1000000 + 27)]) (S1 := []) rfl rfl rfl rfl rfl rfl rfl rfl rfl rfl (am_TE.int (am_ct77  (by omega) hI9 (by decide)) (fun b12 f12 a12 hq13 => ?_) (fun _ _ _ h => h))
      obtain ⟨hI14, hq13⟩ := hq13
      refine am_rif_eq rfl rfl (by unfold am_rg; omega) (fun hc15 => ?_) (fun hc15 => ?_)
      · refine am_raload_n rfl rfl rfl ?_
        refine am_rbipush rfl (by decide) ?_
        have q16 := am_Ig201 hI14
        refine am_evirtualV (m := am_m74) (As := [.ref 2, am_iv 38]) (S1 := []) rfl rfl rfl rfl rfl rfl rfl rfl rfl rfl (am_TE.void (am_ct74 (y1 := 38) (by omega) hI14 (by omega)) (fun f17 a17 hq18 => ?_) (fun _ _ _ h => h))
        obtain ⟨hI19, hq18⟩ := hq18
        refine am_riconst rfl ?_
        have q20 := am_Ig201 hI19
        exact am_eiret rfl rfl ⟨hI19, (show (-2147483648 ≤ ((-1) : Int) ∧ ((-1) : Int) ≤ 2147483647) by omega), (show f17 201 = (f 201) by omega)⟩
      · refine am_rbipush rfl (by decide) ?_
        have q21 := am_Ig201 hI14
        exact am_eiret rfl rfl ⟨hI14, (show (-2147483648 ≤ (38 : Int) ∧ (38 : Int) ≤ 2147483647) by omega), (show f12 201 = (f 201) by omega)⟩
    · refine am_rbipush rfl (by decide) ?_
      have q22 := am_Ig201 hI9
      exact am_eiret rfl rfl ⟨hI9, (show (-2147483648 ≤ (60 : Int) ∧ (60 : Int) ≤ 2147483647) by omega), (show f7 201 = (f 201) by omega)⟩
  · refine am_raload_n rfl rfl rfl ?_
    have q23 := am_Ig201 hI4
    refine am_evirtualI (m := am_m84) (As := [.ref 2]) (S1 := []) rfl rfl rfl rfl rfl rfl rfl rfl rfl rfl (am_TE.int (am_ct84  (by omega) hI4) (fun b24 f24 a24 hq25 => ?_) (fun _ _ _ h => h))
    obtain ⟨hI26, hq25⟩ := hq25
    have q27 := am_Ig201 hI26
    exact am_eiret rfl rfl ⟨hI26, (show (-2147483648 ≤ b24 ∧ b24 ≤ 2147483647) by omega), (show f24 201 = (f 201) by omega)⟩
