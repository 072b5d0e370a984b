set_option maxRecDepth 100000 in
set_option maxHeartbeats 4000000 in
theorem am_ct120 {X : List Value} {w : Value} {e : Nat} {g : aF} {h : aA} {E : Nat → aF → aA → Prop} {d : Nat} {y1 : Int} {f : aF} {a : aA} (hd : 2 ≤ d) (hI : am_DV g h f a) (hp0 : (-2147483648 ≤ y1 ∧ y1 ≤ 2147483647)) (hp1 : 0 ≤ y1) (hp2 : y1 ≤ 400) :
    am_TE X d am_m119 0 (lv_args 0 [.ref 117, am_iv y1]) [] f a w e (am_QI (fun b f1 a1 => am_DV g h f1 a1 ∧ (-2147483648 ≤ b ∧ b ≤ 2147483647) ∧ (0 ≤ b ∧ b ≤ 63) ∧ f1 11709 = (f 11709) ∧ (f 11701) ≤ f1 11701)) E := by
  obtain ⟨d, rfl⟩ : ∃ d0, d = d0 + 1 := ⟨d - 1, by omega⟩
  have gm := hI.2.2.2.1
  refine am_riload_n rfl rfl rfl ?_
  refine am_raload_n rfl rfl rfl ?_
  have q1 : f 11707 = g 11707 := hI.1.1.2.2.1 11707 (by omega)
  refine am_rgetf (S1 := [am_iv (f 11707), am_iv y1]) rfl rfl ?_
  refine am_ric_ge rfl rfl (by unfold am_rg; omega) (by unfold am_rg; omega) (fun hc2 => ?_) (fun hc2 => ?_)
  · refine am_raload_n rfl rfl rfl ?_
    refine am_riconst rfl ?_
    have q3 := am_Rg11701 hI.1.1
    refine am_evirtualV (m := am_m116) (As := [.ref 117, am_iv 1]) (S1 := []) rfl rfl rfl rfl rfl rfl rfl rfl rfl rfl (am_TE.void (am_ct117 (y1 := 1) (by omega) (by omega) (show 1 ≤ 1 by omega) (show 1 ≤ 3 by omega) (show 0 ≤ (f 11701) by omega) (show (f 11701) ≤ 3 by omega)) (fun f4 a4 hq5 => ?_) (fun _ _ _ h => h))
    obtain ⟨v6, rfl, rfl, hq5⟩ := hq5
    replace hq5 : 0 < v6 ∧ v6 ≤ 3 ∧ f 11701 ≤ v6 := hq5
    refine am_riconst rfl ?_
    have J7 : am_DV g h (am_ud f 11701 v6) a := by
      exact (am_DV_stop (v := v6) hI (by omega) (by omega))
    have q8 := am_Rg11709 hI.1.1
    exact am_eiret rfl rfl ⟨J7, (show (-2147483648 ≤ (0 : Int) ∧ (0 : Int) ≤ 2147483647) by omega), (show (0 ≤ ((0 : Int)) ∧ ((0 : Int)) ≤ 63) by omega), (show f 11709 = (f 11709) by omega), (show (f 11701) ≤ v6 by omega)⟩
  · refine am_raload_n rfl rfl rfl ?_
    refine am_rgetf (S1 := [.ref 119]) rfl rfl ?_
    refine am_riload_n rfl rfl rfl ?_
    have q9 : (a 119).length = 360 := am_Rl119 (am_RL 119 rfl hI.1.1)
    have i10 : am_ib (a 119) y1 := by unfold am_ib; omega
    have q11 := am_Rb119 (am_RL 119 rfl hI.1.1) i10
    refine am_riaload (l := a 119) rfl am_ge119 i10 ?_
    refine am_rsipush rfl (by decide) ?_
    refine am_ric_lt rfl rfl (by unfold am_rg; omega) (by unfold am_rg; omega) (fun hc12 => ?_) (fun hc12 => ?_)
    · refine am_raload_n rfl rfl rfl ?_
      refine am_riconst rfl ?_
      have q13 := am_Rg11701 hI.1.1
      refine am_evirtualV (m := am_m116) (As := [.ref 117, am_iv 1]) (S1 := []) rfl rfl rfl rfl rfl rfl rfl rfl rfl rfl (am_TE.void (am_ct117 (y1 := 1) (by omega) (by omega) (show 1 ≤ 1 by omega) (show 1 ≤ 3 by omega) (show 0 ≤ (f 11701) by omega) (show (f 11701) ≤ 3 by omega)) (fun f14 a14 hq15 => ?_) (fun _ _ _ h => h))
      obtain ⟨v16, rfl, rfl, hq15⟩ := hq15
      replace hq15 : 0 < v16 ∧ v16 ≤ 3 ∧ f 11701 ≤ v16 := hq15
      refine am_riconst rfl ?_
      have J17 : am_DV g h (am_ud f 11701 v16) a := by
        exact (am_DV_stop (v := v16) hI (by omega) (by omega))
      have q18 := am_Rg11709 hI.1.1
      exact am_eiret rfl rfl ⟨J17, (show (-2147483648 ≤ (0 : Int) ∧ (0 : Int) ≤ 2147483647) by omega), (show (0 ≤ ((0 : Int)) ∧ ((0 : Int)) ≤ 63) by omega), (show f 11709 = (f 11709) by omega), (show (f 11701) ≤ v16 by omega)⟩
    · refine am_raload_n rfl rfl rfl ?_
      refine am_rgetf (S1 := [.ref 119]) rfl rfl ?_
      refine am_riload_n rfl rfl rfl ?_
      have i19 : am_ib (a 119) y1 := by unfold am_ib; omega
      refine am_riaload (l := a 119) rfl am_ge119 i19 ?_
      refine am_rsipush rfl (by decide) ?_
      refine am_ric_ge rfl rfl (by unfold am_rg; omega) (by unfold am_rg; omega) (fun hc20 => ?_) (fun hc20 => ?_)
      · refine am_raload_n rfl rfl rfl ?_
        refine am_riconst rfl ?_
        have q21 := am_Rg11701 hI.1.1
        refine am_evirtualV (m := am_m116) (As := [.ref 117, am_iv 1]) (S1 := []) rfl rfl rfl rfl rfl rfl rfl rfl rfl rfl (am_TE.void (am_ct117 (y1 := 1) (by omega) (by omega) (show 1 ≤ 1 by omega) (show 1 ≤ 3 by omega) (show 0 ≤ (f 11701) by omega) (show (f 11701) ≤ 3 by omega)) (fun f22 a22 hq23 => ?_) (fun _ _ _ h => h))
        obtain ⟨v24, rfl, rfl, hq23⟩ := hq23
        replace hq23 : 0 < v24 ∧ v24 ≤ 3 ∧ f 11701 ≤ v24 := hq23
        refine am_riconst rfl ?_
        have J25 : am_DV g h (am_ud f 11701 v24) a := by
          exact (am_DV_stop (v := v24) hI (by omega) (by omega))
        have q26 := am_Rg11709 hI.1.1
        exact am_eiret rfl rfl ⟨J25, (show (-2147483648 ≤ (0 : Int) ∧ (0 : Int) ≤ 2147483647) by omega), (show (0 ≤ ((0 : Int)) ∧ ((0 : Int)) ≤ 63) by omega), (show f 11709 = (f 11709) by omega), (show (f 11701) ≤ v24 by omega)⟩
      · refine am_raload_n rfl rfl rfl ?_
        refine am_rgetf (S1 := [.ref 119]) rfl rfl ?_
        refine am_riload_n rfl rfl rfl ?_
        have i27 : am_ib (a 119) y1 := by unfold am_ib; omega
        refine am_riaload (l := a 119) rfl am_ge119 i27 ?_
        refine am_rsipush rfl (by decide) ?_
        refine am_risub rfl ?_
        have q28 := am_Rg11701 hI.1.1
        have q29 := am_Rg11709 hI.1.1
        exact am_eiret rfl rfl ⟨hI, (show (-2147483648 ≤ (am_at (a 119) y1) - 128 ∧ (am_at (a 119) y1) - 128 ≤ 2147483647) by omega), (show (0 ≤ ((am_at (a 119) y1) - 128) ∧ ((am_at (a 119) y1) - 128) ≤ 63) by omega), (show f 11709 = (f 11709) by omega), (show (f 11701) ≤ f 11701 by omega)⟩
set_option maxRecDepth 100000 in
set_option maxHeartbeats 4000000 in
theorem am_ct121_L9 {X : List Value} {w : Value} {e : Nat} {g : aF} {h : aA} {E : Nat → aF → aA → Prop} {d : Nat} (hd : 3 ≤ d + 1) (n : Nat) :
    (∀ {f : aF} {a : aA} {x1 : Int} {x2 : Int}, (8 * (g 11707 - x2) + 7).toNat < n → am_DV g h f a → (-2147483648 ≤ x1 ∧ x1 ≤ 2147483647) → (-2147483648 ≤ x2 ∧ x2 ≤ 2147483647) → 0 ≤ x2 → f 11709 ≤ x2 → f 11709 ≤ g 11707 → (x1 = 0 ∨ x1 = 1) → am_TE X (d + 1) am_m120 9 [(0, .ref 117), (1, am_iv x1), (2, am_iv x2)] [] f a w e (am_QV (fun f1 a1 => am_RV g h f1 a1 ∧ f1 11713 = 0 ∧ f1 11718 = 0)) E) ∧ (∀ {f : aF} {a : aA} {x1 : Int} {x2 : Int} {x3 : Int} {x4 : Int} {x5 : Int}, (8 * (g 11707 - x2) + 6).toNat < n → am_DV g h f a → (-2147483648 ≤ x1 ∧ x1 ≤ 2147483647) → (-2147483648 ≤ x2 ∧ x2 ≤ 2147483647) → (-2147483648 ≤ x3 ∧ x3 ≤ 2147483647) → (-2147483648 ≤ x4 ∧ x4 ≤ 2147483647) → (-2147483648 ≤ x5 ∧ x5 ≤ 2147483647) → 0 ≤ x2 → x2 < g 11707 → f 11709 ≤ x2 → (1 ≤ x5 ∧ x5 ≤ 3) → 0 ≤ x3 → x3 ≤ 255 → x4 = x3 → f 11701 = 0 → (x1 = 0 ∨ x1 = 1) → am_TE X (d + 1) am_m120 59 [(0, .ref 117), (1, am_iv x1), (2, am_iv x2), (3, am_iv x3), (4, am_iv x4), (5, am_iv x5)] [] f a w e (am_QV (fun f1 a1 => am_RV g h f1 a1 ∧ f1 11713 = 0 ∧ f1 11718 = 0)) E) ∧ (∀ {f : aF} {a : aA} {x1 : Int} {x2 : Int} {x3 : Int} {x4 : Int} {x5 : Int}, (8 * (g 11707 - x2) + 5).toNat < n → am_DV g h f a → (-2147483648 ≤ x1 ∧ x1 ≤ 2147483647) → (-2147483648 ≤ x2 ∧ x2 ≤ 2147483647) → (-2147483648 ≤ x3 ∧ x3 ≤ 2147483647) → (-2147483648 ≤ x4 ∧ x4 ≤ 2147483647) → (-2147483648 ≤ x5 ∧ x5 ≤ 2147483647) → 0 ≤ x2 → x2 < g 11707 → f 11709 ≤ x2 → (1 ≤ x5 ∧ x5 ≤ 3) → 0 ≤ x3 → x3 ≤ 255 → -3000000 ≤ x4 → x4 ≤ 3000000 → (x1 = 0 ∨ x1 = 1) → am_TE X (d + 1) am_m120 85 [(0, .ref 117), (1, am_iv x1), (2, am_iv x2), (3, am_iv x3), (4, am_iv x4), (5, am_iv x5)] [] f a w e (am_QV (fun f1 a1 => am_RV g h f1 a1 ∧ f1 11713 = 0 ∧ f1 11718 = 0)) E) ∧ (∀ {f : aF} {a : aA} {x1 : Int} {x2 : Int} {x3 : Int} {x4 : Int} {x5 : Int}, (8 * (g 11707 - x2) + 4).toNat < n → am_DV g h f a → (-2147483648 ≤ x1 ∧ x1 ≤ 2147483647) → (-2147483648 ≤ x2 ∧ x2 ≤ 2147483647) → (-2147483648 ≤ x3 ∧ x3 ≤ 2147483647) → (-2147483648 ≤ x4 ∧ x4 ≤ 2147483647) → (-2147483648 ≤ x5 ∧ x5 ≤ 2147483647) → 0 ≤ x2 → x2 < g 11707 → f 11709 ≤ x2 → (1 ≤ x5 ∧ x5 ≤ 3) → 0 ≤ x3 → x3 ≤ 255 → -3000000 ≤ x4 → x4 ≤ 3000000 → (x1 = 0 ∨ x1 = 1) → am_TE X (d + 1) am_m120 116 [(0, .ref 117), (1, am_iv x1), (2, am_iv x2), (3, am_iv x3), (4, am_iv x4), (5, am_iv x5)] [] f a w e (am_QV (fun f1 a1 => am_RV g h f1 a1 ∧ f1 11713 = 0 ∧ f1 11718 = 0)) E) ∧ (∀ {f : aF} {a : aA} {x1 : Int} {x2 : Int} {x4 : Int} {x5 : Int}, (8 * (g 11707 - x2) + 3).toNat < n → am_DV g h f a → (-2147483648 ≤ x1 ∧ x1 ≤ 2147483647) → (-2147483648 ≤ x2 ∧ x2 ≤ 2147483647) → (-2147483648 ≤ x4 ∧ x4 ≤ 2147483647) → (-2147483648 ≤ x5 ∧ x5 ≤ 2147483647) → 0 ≤ x2 → x2 < g 11707 → f 11709 ≤ x2 → (1 ≤ x5 ∧ x5 ≤ 3) → -3000000 ≤ x4 → x4 ≤ 3000000 → (x1 = 0 ∨ x1 = 1) → am_TE X (d + 1) am_m120 172 [(0, .ref 117), (1, am_iv x1), (2, am_iv x2), (4, am_iv x4), (5, am_iv x5)] [] f a w e (am_QV (fun f1 a1 => am_RV g h f1 a1 ∧ f1 11713 = 0 ∧ f1 11718 = 0)) E) ∧ (∀ {f : aF} {a : aA} {x1 : Int} {x2 : Int} {x4 : Int} {x5 : Int}, (8 * (g 11707 - x2) + 2).toNat < n → am_DV g h f a → (-2147483648 ≤ x1 ∧ x1 ≤ 2147483647) → (-2147483648 ≤ x2 ∧ x2 ≤ 2147483647) → (-2147483648 ≤ x4 ∧ x4 ≤ 2147483647) → (-2147483648 ≤ x5 ∧ x5 ≤ 2147483647) → 0 ≤ x2 → x2 < g 11707 → f 11709 ≤ x2 → (1 ≤ x5 ∧ x5 ≤ 3) → -3000000 ≤ x4 → x4 ≤ 3000000 → (x1 = 0 ∨ x1 = 1) → (f 11701 = 0 → 0 ≤ x4) → am_TE X (d + 1) am_m120 185 [(0, .ref 117), (1, am_iv x1), (2, am_iv x2), (4, am_iv x4), (5, am_iv x5)] [] f a w e (am_QV (fun f1 a1 => am_RV g h f1 a1 ∧ f1 11713 = 0 ∧ f1 11718 = 0)) E) ∧ (∀ {f : aF} {a : aA} {x2 : Int} {x4 : Int} {x5 : Int}, (8 * (g 11707 - x2) + 1).toNat < n → am_DV g h f a → (-2147483648 ≤ x2 ∧ x2 ≤ 2147483647) → (-2147483648 ≤ x4 ∧ x4 ≤ 2147483647) → (-2147483648 ≤ x5 ∧ x5 ≤ 2147483647) → 0 ≤ x2 → x2 < g 11707 → f 11709 ≤ x2 + 1 → (1 ≤ x5 ∧ x5 ≤ 3) → am_TE X (d + 1) am_m120 229 [(0, .ref 117), (2, am_iv x2), (4, am_iv x4), (5, am_iv x5)] [] f a w e (am_QV (fun f1 a1 => am_RV g h f1 a1 ∧ f1 11713 = 0 ∧ f1 11718 = 0)) E) := by
  induction n with
  | zero => refine ⟨?_, ?_, ?_, ?_, ?_, ?_, ?_⟩ <;> intros <;> omega
  | succ n ih =>
    refine ⟨?_, ?_, ?_, ?_, ?_, ?_, ?_⟩
    · intro f a x1 x2 hn hI hp0 hp1 hp2 hp3 hp4 hp5
      have q1 := am_Rg11709 hI.1.1
      have gm := hI.2.2.2.1
      refine am_riload_n rfl rfl rfl ?_
      refine am_raload_n rfl rfl rfl ?_
      have q2 : f 11707 = g 11707 := hI.1.1.2.2.1 11707 (by omega)
      refine am_rgetf (S1 := [am_iv (f 11707), am_iv x2]) rfl rfl ?_
      refine am_ric_ge rfl rfl (by unfold am_rg; omega) (by unfold am_rg; omega) (fun hc3 => ?_) (fun hc3 => ?_)
      · refine am_raload_n rfl rfl rfl ?_
        refine am_rgetf (S1 := [.ref 124]) rfl rfl ?_
        refine am_riconst rfl ?_
        refine am_riconst rfl ?_
        have q4 : (a 124).length = 20 := am_Rl124 (am_RL 124 rfl hI.1.1)
        have i5 : am_ib (a 124) 0 := by unfold am_ib; omega
        have hl6 : am_LR 124 ((a 124).set (0 : Int).toNat 0) := am_RS124 (am_RL 124 rfl hI.1.1) (by omega) (by omega)
        refine am_riastore (l := a 124) (h1 := am_enc f (am_ud a 124 ((a 124).set (0 : Int).toNat 0)) w e) rfl am_ge124 i5 (am_sa124 _) ?_
        refine am_raload_n rfl rfl rfl ?_
        refine am_rgetf (S1 := [.ref 125]) rfl rfl ?_
        refine am_riconst rfl ?_
        refine am_raload_n rfl rfl rfl ?_
        refine am_rgetf (S1 := [am_iv (f 11709), am_iv 0, .ref 125]) rfl rfl ?_
        have q7 : (a 125).length = 20 := am_Rl125 (am_RL 125 rfl hI.1.1)
        have i8 : am_ib (a 125) 0 := by unfold am_ib; omega
        have hl9 : am_LR 125 ((a 125).set (0 : Int).toNat (f 11709)) := am_RS125 (am_RL 125 rfl hI.1.1) (by omega) (by omega)
        refine am_riastore (l := a 125) (h1 := am_enc f (am_ud (am_ud a 124 ((a 124).set (0 : Int).toNat 0)) 125 ((a 125).set (0 : Int).toNat (f 11709))) w e) rfl am_ge125 i8 (am_sa125 _) ?_
        refine am_raload_n rfl rfl rfl ?_
        refine am_riconst rfl ?_
        refine am_rputf (S1 := []) (h1 := am_enc (am_ud f 11713 0) (am_ud (am_ud a 124 ((a 124).set (0 : Int).toNat 0)) 125 ((a 125).set (0 : Int).toNat (f 11709))) w e) rfl (am_pfB rfl am_ge117 rfl (am_sf11713 _)) (by rw [am_enc_len, am_enc_len]) ?_
        exact am_eret rfl rfl ⟨am_DV_done hI (by omega), rfl, hI.2.1.2.1⟩
      · refine am_raload_n rfl rfl rfl ?_
        have q10 := am_Rg11701 hI.1.1
        refine am_rgetf (S1 := [am_iv (f 11701)]) rfl rfl ?_
        refine am_rif_ne rfl rfl (by unfold am_rg; omega) (fun hc11 => ?_) (fun hc11 => ?_)
        · refine am_raload_n rfl rfl rfl ?_
          refine am_rgetf (S1 := [.ref 124]) rfl rfl ?_
          refine am_riconst rfl ?_
          refine am_riconst rfl ?_
          have q12 : (a 124).length = 20 := am_Rl124 (am_RL 124 rfl hI.1.1)
          have i13 : am_ib (a 124) 0 := by unfold am_ib; omega
          have hl14 : am_LR 124 ((a 124).set (0 : Int).toNat 0) := am_RS124 (am_RL 124 rfl hI.1.1) (by omega) (by omega)
          refine am_riastore (l := a 124) (h1 := am_enc f (am_ud a 124 ((a 124).set (0 : Int).toNat 0)) w e) rfl am_ge124 i13 (am_sa124 _) ?_
          refine am_raload_n rfl rfl rfl ?_
          refine am_rgetf (S1 := [.ref 125]) rfl rfl ?_
          refine am_riconst rfl ?_
          refine am_raload_n rfl rfl rfl ?_
          refine am_rgetf (S1 := [am_iv (f 11709), am_iv 0, .ref 125]) rfl rfl ?_
          have q15 : (a 125).length = 20 := am_Rl125 (am_RL 125 rfl hI.1.1)
          have i16 : am_ib (a 125) 0 := by unfold am_ib; omega
          have hl17 : am_LR 125 ((a 125).set (0 : Int).toNat (f 11709)) := am_RS125 (am_RL 125 rfl hI.1.1) (by omega) (by omega)
          refine am_riastore (l := a 125) (h1 := am_enc f (am_ud (am_ud a 124 ((a 124).set (0 : Int).toNat 0)) 125 ((a 125).set (0 : Int).toNat (f 11709))) w e) rfl am_ge125 i16 (am_sa125 _) ?_
          refine am_raload_n rfl rfl rfl ?_
          refine am_riconst rfl ?_
          refine am_rputf (S1 := []) (h1 := am_enc (am_ud f 11713 0) (am_ud (am_ud a 124 ((a 124).set (0 : Int).toNat 0)) 125 ((a 125).set (0 : Int).toNat (f 11709))) w e) rfl (am_pfB rfl am_ge117 rfl (am_sf11713 _)) (by rw [am_enc_len, am_enc_len]) ?_
          exact am_eret rfl rfl ⟨am_DV_done hI (by omega), rfl, hI.2.1.2.1⟩
        · refine am_raload_n rfl rfl rfl ?_
          refine am_rgetf (S1 := [.ref 119]) rfl rfl ?_
          refine am_riload_n rfl rfl rfl ?_
          have q18 : (a 119).length = 360 := am_Rl119 (am_RL 119 rfl hI.1.1)
          have i19 : am_ib (a 119) x2 := by unfold am_ib; omega
          have q20 := am_Rb119 (am_RL 119 rfl hI.1.1) i19
          refine am_riaload (l := a 119) rfl am_ge119 i19 ?_
          refine am_ristore_n (L1 := [(0, .ref 117), (1, am_iv x1), (2, am_iv x2), (3, am_iv (am_at (a 119) x2))]) rfl rfl rfl rfl rfl ?_
          refine am_riload_n rfl rfl rfl ?_
          refine am_ristore (L1 := [(0, .ref 117), (1, am_iv x1), (2, am_iv x2), (3, am_iv (am_at (a 119) x2)), (4, am_iv (am_at (a 119) x2))]) rfl rfl rfl rfl rfl ?_
          refine am_riload_n rfl rfl rfl ?_
          refine am_rsipush rfl (by decide) ?_
          refine am_ric_ge rfl rfl (by unfold am_rg; omega) (by unfold am_rg; omega) (fun hc21 => ?_) (fun hc21 => ?_)
          · refine am_riload_n rfl rfl rfl ?_
            refine am_rsipush rfl (by decide) ?_
            refine am_ric_ge rfl rfl (by unfold am_rg; omega) (by unfold am_rg; omega) (fun hc22 => ?_) (fun hc22 => ?_)
            · refine am_riconst rfl ?_
              refine am_ristore (L1 := [(0, .ref 117), (1, am_iv x1), (2, am_iv x2), (3, am_iv (am_at (a 119) x2)), (4, am_iv (am_at (a 119) x2)), (5, am_iv 3)]) rfl rfl rfl rfl rfl ?_
              exact ih.2.1 (by omega) hI (by omega) (by omega) (by omega) (by omega) (by omega) (by omega) (by omega) (by omega) (by omega) (by omega) (by omega) (by omega) (by omega) (by omega)
            · refine am_riconst rfl ?_
              refine am_rgoto rfl rfl ?_
              refine am_ristore (L1 := [(0, .ref 117), (1, am_iv x1), (2, am_iv x2), (3, am_iv (am_at (a 119) x2)), (4, am_iv (am_at (a 119) x2)), (5, am_iv 2)]) rfl rfl rfl rfl rfl ?_
              exact ih.2.1 (by omega) hI (by omega) (by omega) (by omega) (by omega) (by omega) (by omega) (by omega) (by omega) (by omega) (by omega) (by omega) (by omega) (by omega) (by omega)
          · refine am_riconst rfl ?_
            refine am_rgoto rfl rfl ?_
            refine am_ristore (L1 := [(0, .ref 117), (1, am_iv x1), (2, am_iv x2), (3, am_iv (am_at (a 119) x2)), (4, am_iv (am_at (a 119) x2)), (5, am_iv 1)]) rfl rfl rfl rfl rfl ?_
            exact ih.2.1 (by omega) hI (by omega) (by omega) (by omega) (by omega) (by omega) (by omega) (by omega) (by omega) (by omega) (by omega) (by omega) (by omega) (by omega) (by omega)
    · intro f a x1 x2 x3 x4 x5 hn hI hp0 hp1 hp2 hp3 hp4 hp5 hp6 hp7 hp8 hp9 hp10 hp11 hp12 hp13
      have q1 := am_Rg11709 hI.1.1
      have q2 := am_Rg11701 hI.1.1
      have gm := hI.2.2.2.1
      refine am_riload_n rfl rfl rfl ?_
      refine am_rsipush rfl (by decide) ?_
      refine am_ric_lt rfl rfl (by unfold am_rg; omega) (by unfold am_rg; omega) (fun hc3 => ?_) (fun hc3 => ?_)
      · refine am_riload_n rfl rfl rfl ?_
        refine am_rsipush rfl (by decide) ?_
        refine am_ric_le rfl rfl (by unfold am_rg; omega) (by unfold am_rg; omega) (fun hc4 => ?_) (fun hc4 => ?_)
        · exact ih.2.2.1 (by omega) hI (by omega) (by omega) (by omega) (by omega) (by omega) (by omega) (by omega) (by omega) (by omega) (by omega) (by omega) (by omega) (by omega) (by omega)
        · refine am_raload_n rfl rfl rfl ?_
          refine am_riconst rfl ?_
          refine am_evirtualV (m := am_m116) (As := [.ref 117, am_iv 1]) (S1 := []) rfl rfl rfl rfl rfl rfl rfl rfl rfl rfl (am_TE.void (am_ct117 (y1 := 1) (by omega) (by omega) (show 1 ≤ 1 by omega) (show 1 ≤ 3 by omega) (show 0 ≤ (f 11701) by omega) (show (f 11701) ≤ 3 by omega)) (fun f5 a5 hq6 => ?_) (fun _ _ _ h => h))
          obtain ⟨v7, rfl, rfl, hq6⟩ := hq6
          replace hq6 : 0 < v7 ∧ v7 ≤ 3 ∧ f 11701 ≤ v7 := hq6
          have J8 : am_DV g h (am_ud f 11701 v7) a := by
            exact (am_DV_stop (v := v7) hI (by omega) (by omega))
          exact ih.2.2.1 (show (8 * (g 11707 - x2) + 5).toNat < n by omega) J8 (show (-2147483648 ≤ x1 ∧ x1 ≤ 2147483647) by omega) (show (-2147483648 ≤ x2 ∧ x2 ≤ 2147483647) by omega) (show (-2147483648 ≤ x3 ∧ x3 ≤ 2147483647) by omega) (show (-2147483648 ≤ x4 ∧ x4 ≤ 2147483647) by omega) (show (-2147483648 ≤ x5 ∧ x5 ≤ 2147483647) by omega) (show 0 ≤ x2 by omega) (show x2 < g 11707 by omega) (show (f 11709) ≤ x2 by omega) (show (1 ≤ x5 ∧ x5 ≤ 3) by omega) (show 0 ≤ x3 by omega) (show x3 ≤ 255 by omega) (show -3000000 ≤ x4 by omega) (show x4 ≤ 3000000 by omega) (show (x1 = 0 ∨ x1 = 1) by omega)
      · refine am_riload_n rfl rfl rfl ?_
        refine am_rsipush rfl (by decide) ?_
        refine am_ric_lt rfl rfl (by unfold am_rg; omega) (by unfold am_rg; omega) (fun hc9 => ?_) (fun hc9 => ?_)
        · refine am_raload_n rfl rfl rfl ?_
          refine am_riconst rfl ?_
          refine am_evirtualV (m := am_m116) (As := [.ref 117, am_iv 1]) (S1 := []) rfl rfl rfl rfl rfl rfl rfl rfl rfl rfl (am_TE.void (am_ct117 (y1 := 1) (by omega) (by omega) (show 1 ≤ 1 by omega) (show 1 ≤ 3 by omega) (show 0 ≤ (f 11701) by omega) (show (f 11701) ≤ 3 by omega)) (fun f10 a10 hq11 => ?_) (fun _ _ _ h => h))
          obtain ⟨v12, rfl, rfl, hq11⟩ := hq11
          replace hq11 : 0 < v12 ∧ v12 ≤ 3 ∧ f 11701 ≤ v12 := hq11
          have J13 : am_DV g h (am_ud f 11701 v12) a := by
            exact (am_DV_stop (v := v12) hI (by omega) (by omega))
          exact ih.2.2.1 (show (8 * (g 11707 - x2) + 5).toNat < n by omega) J13 (show (-2147483648 ≤ x1 ∧ x1 ≤ 2147483647) by omega) (show (-2147483648 ≤ x2 ∧ x2 ≤ 2147483647) by omega) (show (-2147483648 ≤ x3 ∧ x3 ≤ 2147483647) by omega) (show (-2147483648 ≤ x4 ∧ x4 ≤ 2147483647) by omega) (show (-2147483648 ≤ x5 ∧ x5 ≤ 2147483647) by omega) (show 0 ≤ x2 by omega) (show x2 < g 11707 by omega) (show (f 11709) ≤ x2 by omega) (show (1 ≤ x5 ∧ x5 ≤ 3) by omega) (show 0 ≤ x3 by omega) (show x3 ≤ 255 by omega) (show -3000000 ≤ x4 by omega) (show x4 ≤ 3000000 by omega) (show (x1 = 0 ∨ x1 = 1) by omega)
        · refine am_riload_n rfl rfl rfl ?_
          refine am_rsipush rfl (by decide) ?_
          refine am_ric_le rfl rfl (by unfold am_rg; omega) (by unfold am_rg; omega) (fun hc14 => ?_) (fun hc14 => ?_)
          · exact ih.2.2.1 (by omega) hI (by omega) (by omega) (by omega) (by omega) (by omega) (by omega) (by omega) (by omega) (by omega) (by omega) (by omega) (by omega) (by omega) (by omega)
          · refine am_raload_n rfl rfl rfl ?_
            refine am_riconst rfl ?_
            refine am_evirtualV (m := am_m116) (As := [.ref 117, am_iv 1]) (S1 := []) rfl rfl rfl rfl rfl rfl rfl rfl rfl rfl (am_TE.void (am_ct117 (y1 := 1) (by omega) (by omega) (show 1 ≤ 1 by omega) (show 1 ≤ 3 by omega) (show 0 ≤ (f 11701) by omega) (show (f 11701) ≤ 3 by omega)) (fun f15 a15 hq16 => ?_) (fun _ _ _ h => h))
            obtain ⟨v17, rfl, rfl, hq16⟩ := hq16
            replace hq16 : 0 < v17 ∧ v17 ≤ 3 ∧ f 11701 ≤ v17 := hq16
            have J18 : am_DV g h (am_ud f 11701 v17) a := by
              exact (am_DV_stop (v := v17) hI (by omega) (by omega))
            exact ih.2.2.1 (show (8 * (g 11707 - x2) + 5).toNat < n by omega) J18 (show (-2147483648 ≤ x1 ∧ x1 ≤ 2147483647) by omega) (show (-2147483648 ≤ x2 ∧ x2 ≤ 2147483647) by omega) (show (-2147483648 ≤ x3 ∧ x3 ≤ 2147483647) by omega) (show (-2147483648 ≤ x4 ∧ x4 ≤ 2147483647) by omega) (show (-2147483648 ≤ x5 ∧ x5 ≤ 2147483647) by omega) (show 0 ≤ x2 by omega) (show x2 < g 11707 by omega) (show (f 11709) ≤ x2 by omega) (show (1 ≤ x5 ∧ x5 ≤ 3) by omega) (show 0 ≤ x3 by omega) (show x3 ≤ 255 by omega) (show -3000000 ≤ x4 by omega) (show x4 ≤ 3000000 by omega) (show (x1 = 0 ∨ x1 = 1) by omega)
    · intro f a x1 x2 x3 x4 x5 hn hI hp0 hp1 hp2 hp3 hp4 hp5 hp6 hp7 hp8 hp9 hp10 hp11 hp12 hp13
      have q1 := am_Rg11709 hI.1.1
      have gm := hI.2.2.2.1
      refine am_raload_n rfl rfl rfl ?_
      have q2 := am_Rg11701 hI.1.1
      refine am_rgetf (S1 := [am_iv (f 11701)]) rfl rfl ?_
      refine am_rif_ne rfl rfl (by unfold am_rg; omega) (fun hc3 => ?_) (fun hc3 => ?_)
      · exact ih.2.2.2.1 (by omega) hI (by omega) (by omega) (by omega) (by omega) (by omega) (by omega) (by omega) (by omega) (by omega) (by omega) (by omega) (by omega) (by omega) (by omega)
      · refine am_riload rfl rfl rfl ?_
        refine am_riconst rfl ?_
        refine am_ric_ne rfl rfl (by unfold am_rg; omega) (by unfold am_rg; omega) (fun hc4 => ?_) (fun hc4 => ?_)
        · exact ih.2.2.2.1 (by omega) hI (by omega) (by omega) (by omega) (by omega) (by omega) (by omega) (by omega) (by omega) (by omega) (by omega) (by omega) (by omega) (by omega) (by omega)
        · refine am_rbipush rfl (by decide) ?_
          refine am_riload_n rfl rfl rfl ?_
          refine am_rsipush rfl (by decide) ?_
          refine am_risub rfl ?_
          refine am_rimul rfl ?_
          refine am_raload_n rfl rfl rfl ?_
          refine am_riload_n rfl rfl rfl ?_
          refine am_riconst rfl ?_
          refine am_riadd rfl ?_
          refine am_evirtualI (m := am_m119) (As := [.ref 117, am_iv (x2 + 1)]) (S1 := [am_iv (64 * (x3 - 192))]) rfl rfl rfl rfl rfl rfl rfl rfl rfl rfl (am_TE.int (am_ct120 (y1 := (x2 + 1)) (by omega) hI (by omega) (show 0 ≤ (x2 + 1) by omega) (show (x2 + 1) ≤ 400 by omega)) (fun b5 f5 a5 hq6 => ?_) (fun _ _ _ h => h))
          obtain ⟨hI7, hq6⟩ := hq6
          replace hq6 : (-2147483648 ≤ b5 ∧ b5 ≤ 2147483647) ∧ (0 ≤ b5 ∧ b5 ≤ 63) ∧ f5 11709 = ((f 11709)) ∧ ((f 11701)) ≤ f5 11701 := hq6
          refine am_riadd rfl ?_
          refine am_ristore (L1 := [(0, .ref 117), (1, am_iv x1), (2, am_iv x2), (3, am_iv x3), (4, am_iv ((64 * (x3 - 192)) + b5)), (5, am_iv x5)]) rfl rfl rfl rfl rfl ?_
          have q9 := am_Rg11701 hI7.1.1
          have q10 := am_Rg11709 hI7.1.1
          exact ih.2.2.2.1 (by omega) hI7 (by omega) (by omega) (by omega) (by omega) (by omega) (by omega) (by omega) (by omega) (by omega) (by omega) (by omega) (by omega) (by omega) (by omega)
    · intro f a x1 x2 x3 x4 x5 hn hI hp0 hp1 hp2 hp3 hp4 hp5 hp6 hp7 hp8 hp9 hp10 hp11 hp12 hp13
      have q1 := am_Rg11709 hI.1.1
      have gm := hI.2.2.2.1
      refine am_raload_n rfl rfl rfl ?_
      have q2 := am_Rg11701 hI.1.1
      refine am_rgetf (S1 := [am_iv (f 11701)]) rfl rfl ?_
      refine am_rif_ne rfl rfl (by unfold am_rg; omega) (fun hc3 => ?_) (fun hc3 => ?_)
      · exact am_T.drop (L1 := [(0, .ref 117), (1, am_iv x1), (2, am_iv x2), (4, am_iv x4), (5, am_iv x5)]) (ih.2.2.2.2.1 (by omega) hI (by omega) (by omega) (by omega) (by omega) (by omega) (by omega) (by omega) (by omega) (by omega) (by omega) (by omega)) (by simp)
      · refine am_riload rfl rfl rfl ?_
        refine am_riconst rfl ?_
        refine am_ric_ne rfl rfl (by unfold am_rg; omega) (by unfold am_rg; omega) (fun hc4 => ?_) (fun hc4 => ?_)
        · exact am_T.drop (L1 := [(0, .ref 117), (1, am_iv x1), (2, am_iv x2), (4, am_iv x4), (5, am_iv x5)]) (ih.2.2.2.2.1 (by omega) hI (by omega) (by omega) (by omega) (by omega) (by omega) (by omega) (by omega) (by omega) (by omega) (by omega) (by omega)) (by simp)
        · refine am_rsipush rfl (by decide) ?_
          refine am_riload_n rfl rfl rfl ?_
          refine am_rsipush rfl (by decide) ?_
          refine am_risub rfl ?_
          refine am_rimul rfl ?_
          refine am_rbipush rfl (by decide) ?_
          refine am_raload_n rfl rfl rfl ?_
          refine am_riload_n rfl rfl rfl ?_
          refine am_riconst rfl ?_
          refine am_riadd rfl ?_
          refine am_evirtualI (m := am_m119) (As := [.ref 117, am_iv (x2 + 1)]) (S1 := [am_iv 64, am_iv (4096 * (x3 - 224))]) rfl rfl rfl rfl rfl rfl rfl rfl rfl rfl (am_TE.int (am_ct120 (y1 := (x2 + 1)) (by omega) hI (by omega) (show 0 ≤ (x2 + 1) by omega) (show (x2 + 1) ≤ 400 by omega)) (fun b5 f5 a5 hq6 => ?_) (fun _ _ _ h => h))
          obtain ⟨hI7, hq6⟩ := hq6
          replace hq6 : (-2147483648 ≤ b5 ∧ b5 ≤ 2147483647) ∧ (0 ≤ b5 ∧ b5 ≤ 63) ∧ f5 11709 = ((f 11709)) ∧ ((f 11701)) ≤ f5 11701 := hq6
          refine am_rimul rfl ?_
          refine am_riadd rfl ?_
          refine am_raload_n rfl rfl rfl ?_
          refine am_riload_n rfl rfl rfl ?_
          refine am_riconst rfl ?_
          refine am_riadd rfl ?_
          refine am_evirtualI (m := am_m119) (As := [.ref 117, am_iv (x2 + 2)]) (S1 := [am_iv ((4096 * (x3 - 224)) + (64 * b5))]) rfl rfl rfl rfl rfl rfl rfl rfl rfl rfl (am_TE.int (am_ct120 (y1 := (x2 + 2)) (by omega) hI7 (by omega) (show 0 ≤ (x2 + 2) by omega) (show (x2 + 2) ≤ 400 by omega)) (fun b9 f9 a9 hq10 => ?_) (fun _ _ _ h => h))
          obtain ⟨hI11, hq10⟩ := hq10
          replace hq10 : (-2147483648 ≤ b9 ∧ b9 ≤ 2147483647) ∧ (0 ≤ b9 ∧ b9 ≤ 63) ∧ f9 11709 = ((f5 11709)) ∧ ((f5 11701)) ≤ f9 11701 := hq10
          refine am_riadd rfl ?_
          refine am_ristore (L1 := [(0, .ref 117), (1, am_iv x1), (2, am_iv x2), (3, am_iv x3), (4, am_iv (((4096 * (x3 - 224)) + (64 * b5)) + b9)), (5, am_iv x5)]) rfl rfl rfl rfl rfl ?_
          refine am_riload rfl rfl rfl ?_
          refine am_rsipush rfl (by decide) ?_
          refine am_ric_ge rfl rfl (by unfold am_rg; omega) (by unfold am_rg; omega) (fun hc13 => ?_) (fun hc13 => ?_)
          · have q14 := am_Rg11701 hI11.1.1
            have q15 := am_Rg11709 hI11.1.1
            exact am_T.drop (L1 := [(0, .ref 117), (1, am_iv x1), (2, am_iv x2), (4, am_iv (((4096 * (x3 - 224)) + (64 * b5)) + b9)), (5, am_iv x5)]) (ih.2.2.2.2.1 (by omega) hI11 (by omega) (by omega) (by omega) (by omega) (by omega) (by omega) (by omega) (by omega) (by omega) (by omega) (by omega)) (by simp)
          · refine am_raload_n rfl rfl rfl ?_
            refine am_riconst rfl ?_
            have q16 := am_Rg11701 hI11.1.1
            refine am_evirtualV (m := am_m116) (As := [.ref 117, am_iv 1]) (S1 := []) rfl rfl rfl rfl rfl rfl rfl rfl rfl rfl (am_TE.void (am_ct117 (y1 := 1) (by omega) (by omega) (show 1 ≤ 1 by omega) (show 1 ≤ 3 by omega) (show 0 ≤ (f9 11701) by omega) (show (f9 11701) ≤ 3 by omega)) (fun f17 a17 hq18 => ?_) (fun _ _ _ h => h))
            obtain ⟨v19, rfl, rfl, hq18⟩ := hq18
            replace hq18 : 0 < v19 ∧ v19 ≤ 3 ∧ f9 11701 ≤ v19 := hq18
            have J20 : am_DV g h (am_ud f9 11701 v19) a9 := by
              exact (am_DV_stop (v := v19) hI11 (by omega) (by omega))
            have q21 := am_Rg11709 hI11.1.1
            exact am_T.drop (L1 := [(0, .ref 117), (1, am_iv x1), (2, am_iv x2), (4, am_iv (((4096 * (x3 - 224)) + (64 * b5)) + b9)), (5, am_iv x5)]) (ih.2.2.2.2.1 (show (8 * (g 11707 - x2) + 3).toNat < n by omega) J20 (show (-2147483648 ≤ x1 ∧ x1 ≤ 2147483647) by omega) (show (-2147483648 ≤ x2 ∧ x2 ≤ 2147483647) by omega) (show (-2147483648 ≤ (((4096 * (x3 - 224)) + (64 * b5)) + b9) ∧ (((4096 * (x3 - 224)) + (64 * b5)) + b9) ≤ 2147483647) by omega) (show (-2147483648 ≤ x5 ∧ x5 ≤ 2147483647) by omega) (show 0 ≤ x2 by omega) (show x2 < g 11707 by omega) (show (f9 11709) ≤ x2 by omega) (show (1 ≤ x5 ∧ x5 ≤ 3) by omega) (show -3000000 ≤ (((4096 * (x3 - 224)) + (64 * b5)) + b9) by omega) (show (((4096 * (x3 - 224)) + (64 * b5)) + b9) ≤ 3000000 by omega) (show (x1 = 0 ∨ x1 = 1) by omega)) (by simp)
    · intro f a x1 x2 x4 x5 hn hI hp0 hp1 hp2 hp3 hp4 hp5 hp6 hp7 hp8 hp9 hp10
      have q1 := am_Rg11709 hI.1.1
      have gm := hI.2.2.2.1
      refine am_riload rfl rfl rfl ?_
      refine am_estaticI (m := am_m117) (As := [am_iv x4]) (S1 := []) rfl rfl rfl rfl rfl rfl rfl rfl (am_TE.int (am_ct118 (y1 := x4) (by omega) (by omega)) (fun b2 f2 a2 hq3 => ?_) (fun _ _ _ h => h))
      obtain ⟨rfl, rfl, hq3⟩ := hq3
      refine am_rif_ne rfl rfl (by unfold am_rg; omega) (fun hc4 => ?_) (fun hc4 => ?_)
      · have q5 := am_Rg11701 hI.1.1
        exact ih.2.2.2.2.2.1 (by omega) hI (by omega) (by omega) (by omega) (by omega) (by omega) (by omega) (by omega) (by omega) (by omega) (by omega) (by omega) (by omega)
      · refine am_raload_n rfl rfl rfl ?_
        refine am_riconst rfl ?_
        have q6 := am_Rg11701 hI.1.1
        refine am_evirtualV (m := am_m116) (As := [.ref 117, am_iv 1]) (S1 := []) rfl rfl rfl rfl rfl rfl rfl rfl rfl rfl (am_TE.void (am_ct117 (y1 := 1) (by omega) (by omega) (show 1 ≤ 1 by omega) (show 1 ≤ 3 by omega) (show 0 ≤ (f 11701) by omega) (show (f 11701) ≤ 3 by omega)) (fun f7 a7 hq8 => ?_) (fun _ _ _ h => h))
        obtain ⟨v9, rfl, rfl, hq8⟩ := hq8
        replace hq8 : 0 < v9 ∧ v9 ≤ 3 ∧ f 11701 ≤ v9 := hq8
        have J10 : am_DV g h (am_ud f 11701 v9) a := by
          exact (am_DV_stop (v := v9) hI (by omega) (by omega))
        exact ih.2.2.2.2.2.1 (show (8 * (g 11707 - x2) + 2).toNat < n by omega) J10 (show (-2147483648 ≤ x1 ∧ x1 ≤ 2147483647) by omega) (show (-2147483648 ≤ x2 ∧ x2 ≤ 2147483647) by omega) (show (-2147483648 ≤ x4 ∧ x4 ≤ 2147483647) by omega) (show (-2147483648 ≤ x5 ∧ x5 ≤ 2147483647) by omega) (show 0 ≤ x2 by omega) (show x2 < g 11707 by omega) (show (f 11709) ≤ x2 by omega) (show (1 ≤ x5 ∧ x5 ≤ 3) by omega) (show -3000000 ≤ x4 by omega) (show x4 ≤ 3000000 by omega) (show (x1 = 0 ∨ x1 = 1) by omega) (show ((v9) = 0 → 0 ≤ x4) by omega)
    · intro f a x1 x2 x4 x5 hn hI hp0 hp1 hp2 hp3 hp4 hp5 hp6 hp7 hp8 hp9 hp10 hp11
      have q1 := am_Rg11709 hI.1.1
      have q2 := am_Rg11701 hI.1.1
      have gm := hI.2.2.2.1
      refine am_riload rfl rfl rfl ?_
      refine am_rbipush rfl (by decide) ?_
      refine am_ric_ne rfl rfl (by unfold am_rg; omega) (by unfold am_rg; omega) (fun hc3 => ?_) (fun hc3 => ?_)
      · refine am_raload_n rfl rfl rfl ?_
        refine am_rgetf (S1 := [.ref 120]) rfl rfl ?_
        refine am_raload_n rfl rfl rfl ?_
        refine am_rgetf (S1 := [am_iv (f 11709), .ref 120]) rfl rfl ?_
        refine am_riload rfl rfl rfl ?_
        refine am_rbipush rfl (by decide) ?_
        refine am_ric_ne rfl rfl (by unfold am_rg; omega) (by unfold am_rg; omega) (fun hc4 => ?_) (fun hc4 => ?_)
        · refine am_riload rfl rfl rfl ?_
          have q5 : (a 120).length = 1200 := am_Rl120 (am_RL 120 rfl hI.1.1)
          have i6 : am_ib (a 120) (f 11709) := by unfold am_ib; omega
          have hl7 : am_LR 120 ((a 120).set (f 11709).toNat x4) := am_RS120 (am_RL 120 rfl hI.1.1) (by omega) (by omega)
          refine am_riastore (l := a 120) (h1 := am_enc f (am_ud a 120 ((a 120).set (f 11709).toNat x4)) w e) rfl am_ge120 i6 (am_sa120 _) ?_
          refine am_raload_n rfl rfl rfl ?_
          refine am_rdup rfl rfl ?_
          refine am_rgetf (S1 := [am_iv (f 11709), .ref 117]) rfl rfl ?_
          refine am_riconst rfl ?_
          refine am_riadd rfl ?_
          refine am_rputf (S1 := []) (h1 := am_enc (am_ud f 11709 ((f 11709) + 1)) (am_ud a 120 ((a 120).set (f 11709).toNat x4)) w e) rfl (am_pfB rfl am_ge117 rfl (am_sf11709 _)) (by rw [am_enc_len, am_enc_len]) ?_
          have J8 : am_DV g h (am_ud f 11709 ((f 11709) + 1)) (am_ud a 120 ((a 120).set (f 11709).toNat x4)) := by
            exact am_DV_app hI (by omega) (by omega) (by omega)
          exact am_T.drop (L1 := [(0, .ref 117), (2, am_iv x2), (4, am_iv x4), (5, am_iv x5)]) (ih.2.2.2.2.2.2 (show (8 * (g 11707 - x2) + 1).toNat < n by omega) J8 (show (-2147483648 ≤ x2 ∧ x2 ≤ 2147483647) by omega) (show (-2147483648 ≤ x4 ∧ x4 ≤ 2147483647) by omega) (show (-2147483648 ≤ x5 ∧ x5 ≤ 2147483647) by omega) (show 0 ≤ x2 by omega) (show x2 < g 11707 by omega) (show ((f 11709) + 1) ≤ x2 + 1 by omega) (show (1 ≤ x5 ∧ x5 ≤ 3) by omega)) (by simp)
        · refine am_rbipush rfl (by decide) ?_
          refine am_rgoto rfl rfl ?_
          have q9 : (a 120).length = 1200 := am_Rl120 (am_RL 120 rfl hI.1.1)
          have i10 : am_ib (a 120) (f 11709) := by unfold am_ib; omega
          have hl11 : am_LR 120 ((a 120).set (f 11709).toNat 10) := am_RS120 (am_RL 120 rfl hI.1.1) (by omega) (by omega)
          refine am_riastore (l := a 120) (h1 := am_enc f (am_ud a 120 ((a 120).set (f 11709).toNat 10)) w e) rfl am_ge120 i10 (am_sa120 _) ?_
          refine am_raload_n rfl rfl rfl ?_
          refine am_rdup rfl rfl ?_
          refine am_rgetf (S1 := [am_iv (f 11709), .ref 117]) rfl rfl ?_
          refine am_riconst rfl ?_
          refine am_riadd rfl ?_
          refine am_rputf (S1 := []) (h1 := am_enc (am_ud f 11709 ((f 11709) + 1)) (am_ud a 120 ((a 120).set (f 11709).toNat 10)) w e) rfl (am_pfB rfl am_ge117 rfl (am_sf11709 _)) (by rw [am_enc_len, am_enc_len]) ?_
          have J12 : am_DV g h (am_ud f 11709 ((f 11709) + 1)) (am_ud a 120 ((a 120).set (f 11709).toNat 10)) := by
            exact am_DV_app hI (by omega) (by omega) (by omega)
          exact am_T.drop (L1 := [(0, .ref 117), (2, am_iv x2), (4, am_iv x4), (5, am_iv x5)]) (ih.2.2.2.2.2.2 (show (8 * (g 11707 - x2) + 1).toNat < n by omega) J12 (show (-2147483648 ≤ x2 ∧ x2 ≤ 2147483647) by omega) (show (-2147483648 ≤ x4 ∧ x4 ≤ 2147483647) by omega) (show (-2147483648 ≤ x5 ∧ x5 ≤ 2147483647) by omega) (show 0 ≤ x2 by omega) (show x2 < g 11707 by omega) (show ((f 11709) + 1) ≤ x2 + 1 by omega) (show (1 ≤ x5 ∧ x5 ≤ 3) by omega)) (by simp)
      · refine am_riload_n rfl rfl rfl ?_
        refine am_rif_ne rfl rfl (by unfold am_rg; omega) (fun hc13 => ?_) (fun hc13 => ?_)
        · exact am_T.drop (L1 := [(0, .ref 117), (2, am_iv x2), (4, am_iv x4), (5, am_iv x5)]) (ih.2.2.2.2.2.2 (by omega) hI (by omega) (by omega) (by omega) (by omega) (by omega) (by omega) (by omega)) (by simp)
        · refine am_raload_n rfl rfl rfl ?_
          refine am_rgetf (S1 := [.ref 120]) rfl rfl ?_
          refine am_raload_n rfl rfl rfl ?_
          refine am_rgetf (S1 := [am_iv (f 11709), .ref 120]) rfl rfl ?_
          refine am_riload rfl rfl rfl ?_
          refine am_rbipush rfl (by decide) ?_
          refine am_ric_ne rfl rfl (by unfold am_rg; omega) (by unfold am_rg; omega) (fun hc14 => ?_) (fun hc14 => ?_)
          · refine am_riload rfl rfl rfl ?_
            have q15 : (a 120).length = 1200 := am_Rl120 (am_RL 120 rfl hI.1.1)
            have i16 : am_ib (a 120) (f 11709) := by unfold am_ib; omega
            have hl17 : am_LR 120 ((a 120).set (f 11709).toNat x4) := am_RS120 (am_RL 120 rfl hI.1.1) (by omega) (by omega)
            refine am_riastore (l := a 120) (h1 := am_enc f (am_ud a 120 ((a 120).set (f 11709).toNat x4)) w e) rfl am_ge120 i16 (am_sa120 _) ?_
            refine am_raload_n rfl rfl rfl ?_
            refine am_rdup rfl rfl ?_
            refine am_rgetf (S1 := [am_iv (f 11709), .ref 117]) rfl rfl ?_
            refine am_riconst rfl ?_
            refine am_riadd rfl ?_
            refine am_rputf (S1 := []) (h1 := am_enc (am_ud f 11709 ((f 11709) + 1)) (am_ud a 120 ((a 120).set (f 11709).toNat x4)) w e) rfl (am_pfB rfl am_ge117 rfl (am_sf11709 _)) (by rw [am_enc_len, am_enc_len]) ?_
            have J18 : am_DV g h (am_ud f 11709 ((f 11709) + 1)) (am_ud a 120 ((a 120).set (f 11709).toNat x4)) := by
              exact am_DV_app hI (by omega) (by omega) (by omega)
            exact am_T.drop (L1 := [(0, .ref 117), (2, am_iv x2), (4, am_iv x4), (5, am_iv x5)]) (ih.2.2.2.2.2.2 (show (8 * (g 11707 - x2) + 1).toNat < n by omega) J18 (show (-2147483648 ≤ x2 ∧ x2 ≤ 2147483647) by omega) (show (-2147483648 ≤ x4 ∧ x4 ≤ 2147483647) by omega) (show (-2147483648 ≤ x5 ∧ x5 ≤ 2147483647) by omega) (show 0 ≤ x2 by omega) (show x2 < g 11707 by omega) (show ((f 11709) + 1) ≤ x2 + 1 by omega) (show (1 ≤ x5 ∧ x5 ≤ 3) by omega)) (by simp)
          · refine am_rbipush rfl (by decide) ?_
            refine am_rgoto rfl rfl ?_
            have q19 : (a 120).length = 1200 := am_Rl120 (am_RL 120 rfl hI.1.1)
            have i20 : am_ib (a 120) (f 11709) := by unfold am_ib; omega
            have hl21 : am_LR 120 ((a 120).set (f 11709).toNat 10) := am_RS120 (am_RL 120 rfl hI.1.1) (by omega) (by omega)
            refine am_riastore (l := a 120) (h1 := am_enc f (am_ud a 120 ((a 120).set (f 11709).toNat 10)) w e) rfl am_ge120 i20 (am_sa120 _) ?_
            refine am_raload_n rfl rfl rfl ?_
            refine am_rdup rfl rfl ?_
            refine am_rgetf (S1 := [am_iv (f 11709), .ref 117]) rfl rfl ?_
            refine am_riconst rfl ?_
            refine am_riadd rfl ?_
            refine am_rputf (S1 := []) (h1 := am_enc (am_ud f 11709 ((f 11709) + 1)) (am_ud a 120 ((a 120).set (f 11709).toNat 10)) w e) rfl (am_pfB rfl am_ge117 rfl (am_sf11709 _)) (by rw [am_enc_len, am_enc_len]) ?_
            have J22 : am_DV g h (am_ud f 11709 ((f 11709) + 1)) (am_ud a 120 ((a 120).set (f 11709).toNat 10)) := by
              exact am_DV_app hI (by omega) (by omega) (by omega)
            exact am_T.drop (L1 := [(0, .ref 117), (2, am_iv x2), (4, am_iv x4), (5, am_iv x5)]) (ih.2.2.2.2.2.2 (show (8 * (g 11707 - x2) + 1).toNat < n by omega) J22 (show (-2147483648 ≤ x2 ∧ x2 ≤ 2147483647) by omega) (show (-2147483648 ≤ x4 ∧ x4 ≤ 2147483647) by omega) (show (-2147483648 ≤ x5 ∧ x5 ≤ 2147483647) by omega) (show 0 ≤ x2 by omega) (show x2 < g 11707 by omega) (show ((f 11709) + 1) ≤ x2 + 1 by omega) (show (1 ≤ x5 ∧ x5 ≤ 3) by omega)) (by simp)
    · intro f a x2 x4 x5 hn hI hp0 hp1 hp2 hp3 hp4 hp5 hp6
      have q1 := am_Rg11709 hI.1.1
      have gm := hI.2.2.2.1
      refine am_riload rfl rfl rfl ?_
      refine am_rbipush rfl (by decide) ?_
      refine am_ric_ne rfl rfl (by unfold am_rg; omega) (by unfold am_rg; omega) (fun hc2 => ?_) (fun hc2 => ?_)
      · refine am_riconst rfl ?_
        refine am_ristore_n (L1 := [(0, .ref 117), (1, am_iv 0), (2, am_iv x2), (4, am_iv x4), (5, am_iv x5)]) rfl rfl rfl rfl rfl ?_
        refine am_riload_n rfl rfl rfl ?_
        refine am_riload rfl rfl rfl ?_
        refine am_riadd rfl ?_
        refine am_ristore_n (L1 := [(0, .ref 117), (1, am_iv 0), (2, am_iv (x2 + x5)), (4, am_iv x4), (5, am_iv x5)]) rfl rfl rfl rfl rfl ?_
        refine am_rgoto rfl rfl ?_
        have q3 := am_Rg11701 hI.1.1
        exact am_T.drop (L1 := [(0, .ref 117), (1, am_iv 0), (2, am_iv (x2 + x5))]) (ih.1 (by omega) hI (by omega) (by omega) (by omega) (by omega) (by omega) (by omega)) (by simp)
      · refine am_riconst rfl ?_
        refine am_rgoto rfl rfl ?_
        refine am_ristore_n (L1 := [(0, .ref 117), (1, am_iv 1), (2, am_iv x2), (4, am_iv x4), (5, am_iv x5)]) rfl rfl rfl rfl rfl ?_
        refine am_riload_n rfl rfl rfl ?_
        refine am_riload rfl rfl rfl ?_
        refine am_riadd rfl ?_
        refine am_ristore_n (L1 := [(0, .ref 117), (1, am_iv 1), (2, am_iv (x2 + x5)), (4, am_iv x4), (5, am_iv x5)]) rfl rfl rfl rfl rfl ?_
        refine am_rgoto rfl rfl ?_
        have q4 := am_Rg11701 hI.1.1
        exact am_T.drop (L1 := [(0, .ref 117), (1, am_iv 1), (2, am_iv (x2 + x5))]) (ih.1 (by omega) hI (by omega) (by omega) (by omega) (by omega) (by omega) (by omega)) (by simp)
set_option maxRecDepth 100000 in
set_option maxHeartbeats 4000000 in
theorem am_ct121_9 {X : List Value} {w : Value} {e : Nat} {g : aF} {h : aA} {E : Nat → aF → aA → Prop} {d : Nat} (hd : 3 ≤ d + 1) (n : Nat) : ∀ {f : aF} {a : aA} {x1 : Int} {x2 : Int}, (8 * (g 11707 - x2) + 7).toNat < n → am_DV g h f a → (-2147483648 ≤ x1 ∧ x1 ≤ 2147483647) → (-2147483648 ≤ x2 ∧ x2 ≤ 2147483647) → 0 ≤ x2 → f 11709 ≤ x2 → f 11709 ≤ g 11707 → (x1 = 0 ∨ x1 = 1) → am_TE X (d + 1) am_m120 9 [(0, .ref 117), (1, am_iv x1), (2, am_iv x2)] [] f a w e (am_QV (fun f1 a1 => am_RV g h f1 a1 ∧ f1 11713 = 0 ∧ f1 11718 = 0)) E := (am_ct121_L9 hd n).1
set_option maxRecDepth 100000 in
set_option maxHeartbeats 4000000 in
theorem am_ct121_59 {X : List Value} {w : Value} {e : Nat} {g : aF} {h : aA} {E : Nat → aF → aA → Prop} {d : Nat} (hd : 3 ≤ d + 1) (n : Nat) : ∀ {f : aF} {a : aA} {x1 : Int} {x2 : Int} {x3 : Int} {x4 : Int} {x5 : Int}, (8 * (g 11707 - x2) + 6).toNat < n → am_DV g h f a → (-2147483648 ≤ x1 ∧ x1 ≤ 2147483647) → (-2147483648 ≤ x2 ∧ x2 ≤ 2147483647) → (-2147483648 ≤ x3 ∧ x3 ≤ 2147483647) → (-2147483648 ≤ x4 ∧ x4 ≤ 2147483647) → (-2147483648 ≤ x5 ∧ x5 ≤ 2147483647) → 0 ≤ x2 → x2 < g 11707 → f 11709 ≤ x2 → (1 ≤ x5 ∧ x5 ≤ 3) → 0 ≤ x3 → x3 ≤ 255 → x4 = x3 → f 11701 = 0 → (x1 = 0 ∨ x1 = 1) → am_TE X (d + 1) am_m120 59 [(0, .ref 117), (1, am_iv x1), (2, am_iv x2), (3, am_iv x3), (4, am_iv x4), (5, am_iv x5)] [] f a w e (am_QV (fun f1 a1 => am_RV g h f1 a1 ∧ f1 11713 = 0 ∧ f1 11718 = 0)) E := (am_ct121_L9 hd n).2.1
set_option maxRecDepth 100000 in
set_option maxHeartbeats 4000000 in
theorem am_ct121_85 {X : List Value} {w : Value} {e : Nat} {g : aF} {h : aA} {E : Nat → aF → aA → Prop} {d : Nat} (hd : 3 ≤ d + 1) (n : Nat) : ∀ {f : aF} {a : aA} {x1 : Int} {x2 : Int} {x3 : Int} {x4 : Int} {x5 : Int}, (8 * (g 11707 - x2) + 5).toNat < n → am_DV g h f a → (-2147483648 ≤ x1 ∧ x1 ≤ 2147483647) → (-2147483648 ≤ x2 ∧ x2 ≤ 2147483647) → (-2147483648 ≤ x3 ∧ x3 ≤ 2147483647) → (-2147483648 ≤ x4 ∧ x4 ≤ 2147483647) → (-2147483648 ≤ x5 ∧ x5 ≤ 2147483647) → 0 ≤ x2 → x2 < g 11707 → f 11709 ≤ x2 → (1 ≤ x5 ∧ x5 ≤ 3) → 0 ≤ x3 → x3 ≤ 255 → -3000000 ≤ x4 → x4 ≤ 3000000 → (x1 = 0 ∨ x1 = 1) → am_TE X (d + 1) am_m120 85 [(0, .ref 117), (1, am_iv x1), (2, am_iv x2), (3, am_iv x3), (4, am_iv x4), (5, am_iv x5)] [] f a w e (am_QV (fun f1 a1 => am_RV g h f1 a1 ∧ f1 11713 = 0 ∧ f1 11718 = 0)) E := (am_ct121_L9 hd n).2.2.1
set_option maxRecDepth 100000 in
set_option maxHeartbeats 4000000 in
theorem am_ct121_116 {X : List Value} {w : Value} {e : Nat} {g : aF} {h : aA} {E : Nat → aF → aA → Prop} {d : Nat} (hd : 3 ≤ d + 1) (n : Nat) : ∀ {f : aF} {a : aA} {x1 : Int} {x2 : Int} {x3 : Int} {x4 : Int} {x5 : Int}, (8 * (g 11707 - x2) + 4).toNat < n → am_DV g h f a → (-2147483648 ≤ x1 ∧ x1 ≤ 2147483647) → (-2147483648 ≤ x2 ∧ x2 ≤ 2147483647) → (-2147483648 ≤ x3 ∧ x3 ≤ 2147483647) → (-2147483648 ≤ x4 ∧ x4 ≤ 2147483647) → (-2147483648 ≤ x5 ∧ x5 ≤ 2147483647) → 0 ≤ x2 → x2 < g 11707 → f 11709 ≤ x2 → (1 ≤ x5 ∧ x5 ≤ 3) → 0 ≤ x3 → x3 ≤ 255 → -3000000 ≤ x4 → x4 ≤ 3000000 → (x1 = 0 ∨ x1 = 1) → am_TE X (d + 1) am_m120 116 [(0, .ref 117), (1, am_iv x1), (2, am_iv x2), (3, am_iv x3), (4, am_iv x4), (5, am_iv x5)] [] f a w e (am_QV (fun f1 a1 => am_RV g h f1 a1 ∧ f1 11713 = 0 ∧ f1 11718 = 0)) E := (am_ct121_L9 hd n).2.2.2.1
set_option maxRecDepth 100000 in
set_option maxHeartbeats 4000000 in
theorem am_ct121_172 {X : List Value} {w : Value} {e : Nat} {g : aF} {h : aA} {E : Nat → aF → aA → Prop} {d : Nat} (hd : 3 ≤ d + 1) (n : Nat) : ∀ {f : aF} {a : aA} {x1 : Int} {x2 : Int} {x4 : Int} {x5 : Int}, (8 * (g 11707 - x2) + 3).toNat < n → am_DV g h f a → (-2147483648 ≤ x1 ∧ x1 ≤ 2147483647) → (-2147483648 ≤ x2 ∧ x2 ≤ 2147483647) → (-2147483648 ≤ x4 ∧ x4 ≤ 2147483647) → (-2147483648 ≤ x5 ∧ x5 ≤ 2147483647) → 0 ≤ x2 → x2 < g 11707 → f 11709 ≤ x2 → (1 ≤ x5 ∧ x5 ≤ 3) → -3000000 ≤ x4 → x4 ≤ 3000000 → (x1 = 0 ∨ x1 = 1) → am_TE X (d + 1) am_m120 172 [(0, .ref 117), (1, am_iv x1), (2, am_iv x2), (4, am_iv x4), (5, am_iv x5)] [] f a w e (am_QV (fun f1 a1 => am_RV g h f1 a1 ∧ f1 11713 = 0 ∧ f1 11718 = 0)) E := (am_ct121_L9 hd n).2.2.2.2.1
set_option maxRecDepth 100000 in
set_option maxHeartbeats 4000000 in
theorem am_ct121_185 {X : List Value} {w : Value} {e : Nat} {g : aF} {h : aA} {E : Nat → aF → aA → Prop} {d : Nat} (hd : 3 ≤ d + 1) (n : Nat) : ∀ {f : aF} {a : aA} {x1 : Int} {x2 : Int} {x4 : Int} {x5 : Int}, (8 * (g 11707 - x2) + 2).toNat < n → am_DV g h f a → (-2147483648 ≤ x1 ∧ x1 ≤ 2147483647) → (-2147483648 ≤ x2 ∧ x2 ≤ 2147483647) → (-2147483648 ≤ x4 ∧ x4 ≤ 2147483647) → (-2147483648 ≤ x5 ∧ x5 ≤ 2147483647) → 0 ≤ x2 → x2 < g 11707 → f 11709 ≤ x2 → (1 ≤ x5 ∧ x5 ≤ 3) → -3000000 ≤ x4 → x4 ≤ 3000000 → (x1 = 0 ∨ x1 = 1) → (f 11701 = 0 → 0 ≤ x4) → am_TE X (d + 1) am_m120 185 [(0, .ref 117), (1, am_iv x1), (2, am_iv x2), (4, am_iv x4), (5, am_iv x5)] [] f a w e (am_QV (fun f1 a1 => am_RV g h f1 a1 ∧ f1 11713 = 0 ∧ f1 11718 = 0)) E := (am_ct121_L9 hd n).2.2.2.2.2.1
set_option maxRecDepth 100000 in
set_option maxHeartbeats 4000000 in
theorem am_ct121_229 {X : List Value} {w : Value} {e : Nat} {g : aF} {h : aA} {E : Nat → aF → aA → Prop} {d : Nat} (hd : 3 ≤ d + 1) (n : Nat) : ∀ {f : aF} {a : aA} {x2 : Int} {x4 : Int} {x5 : Int}, (8 * (g 11707 - x2) + 1).toNat < n → am_DV g h f a → (-2147483648 ≤ x2 ∧ x2 ≤ 2147483647) → (-2147483648 ≤ x4 ∧ x4 ≤ 2147483647) → (-2147483648 ≤ x5 ∧ x5 ≤ 2147483647) → 0 ≤ x2 → x2 < g 11707 → f 11709 ≤ x2 + 1 → (1 ≤ x5 ∧ x5 ≤ 3) → am_TE X (d + 1) am_m120 229 [(0, .ref 117), (2, am_iv x2), (4, am_iv x4), (5, am_iv x5)] [] f a w e (am_QV (fun f1 a1 => am_RV g h f1 a1 ∧ f1 11713 = 0 ∧ f1 11718 = 0)) E := (am_ct121_L9 hd n).2.2.2.2.2.2
set_option maxRecDepth 100000 in
set_option maxHeartbeats 4000000 in
theorem am_ct121 {X : List Value} {w : Value} {e : Nat} {g : aF} {h : aA} {E : Nat → aF → aA → Prop} {d : Nat} {f : aF} {a : aA} (hd : 3 ≤ d) (hI : am_D0 g h f a) :
    am_TE X d am_m120 0 (lv_args 0 [.ref 117]) [] f a w e (am_QV (fun f1 a1 => am_RV g h f1 a1 ∧ f1 11713 = 0 ∧ f1 11718 = 0)) E := by
  obtain ⟨d, rfl⟩ : ∃ d0, d = d0 + 1 := ⟨d - 1, by omega⟩
  have gm := hI.2.2.2
  refine am_raload_n rfl rfl rfl ?_
  refine am_riconst rfl ?_
  refine am_rputf (S1 := []) (h1 := am_enc (am_ud f 11709 0) a w e) rfl (am_pfB rfl am_ge117 rfl (am_sf11709 _)) (by rw [am_enc_len, am_enc_len]) ?_
  refine am_riconst rfl ?_
  refine am_ristore_n (L1 := [(0, .ref 117), (1, am_iv 0)]) rfl rfl rfl rfl rfl ?_
  refine am_riconst rfl ?_
  refine am_ristore_n (L1 := [(0, .ref 117), (1, am_iv 0), (2, am_iv 0)]) rfl rfl rfl rfl rfl ?_
  have q1 := am_Rg11701 hI.1.1
  have J2 : am_DV g h (am_ud f 11709 0) a := by
    exact am_DV_0 hI
  exact am_ct121_9 hd (_ + 1) (Nat.lt_succ_self _) J2 (show (-2147483648 ≤ 0 ∧ 0 ≤ 2147483647) by omega) (show (-2147483648 ≤ 0 ∧ 0 ≤ 2147483647) by omega) (show 0 ≤ 0 by omega) (show (0) ≤ 0 by omega) (show (0) ≤ g 11707 by omega) (show (0 = 0 ∨ 0 = 1) by omega)
