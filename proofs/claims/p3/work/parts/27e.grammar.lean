abbrev am_S55 (X : List Value) (w : Value) (e : Nat) (p : Bool) (g : aF) (h : aA) (j : Nat) : Prop := ∀ {d : Nat} {y1 : Nat} {y2 : Int} {f : aF} {a : aA}, 4 + 2 * j ≤ d → am_IV p g h f a → am_isM y1 → (-2147483648 ≤ y2 ∧ y2 ≤ 2147483647) → y2 ≤ 9 → 9 - y2 < (j : Int) → am_TE X d am_m55 0 (lv_args 0 [.ref 27, .ref y1, am_iv y2]) [] f a w e (am_QV (fun f1 a1 => am_IV p g h f1 a1)) (am_EC g h)
set_option maxRecDepth 100000 in
set_option maxHeartbeats 4000000 in
theorem am_ct56 {X : List Value} {w : Value} {e : Nat} {g : aF} {h : aA} {p : Bool} {d : Nat} {y1 : Nat} {y2 : Int} {j : Nat} (hS : am_S55 X w e p g h j) {f : aF} {a : aA} (hd : 5 + 2 * j ≤ d) (hI : am_IV p g h f a) (hp0 : am_isM y1) (hp1 : (-2147483648 ≤ y2 ∧ y2 ≤ 2147483647)) (hp2 : y2 ≤ 8) (hp3 : 8 - y2 < (j : Int)) :
    am_TE X d am_m56 0 (lv_args 0 [.ref 27, .ref (y1), am_iv y2]) [] f a w e (am_QV (fun f1 a1 => am_IV p g h f1 a1)) (am_EC g h) := by
  obtain ⟨d, rfl⟩ : ∃ d0, d = d0 + 1 := ⟨d - 1, by omega⟩
  refine am_raload_n rfl rfl rfl ?_
  refine am_rgetf (S1 := [.ref 2]) rfl rfl ?_
  refine am_rldcs rfl rfl rfl ?_
  have q1 := am_Ig201 hI
  refine am_evirtualI (m := am_m77) (As := [.ref 2, .ref (1000000 + 15)]) (S1 := []) rfl rfl rfl rfl rfl rfl rfl rfl rfl rfl (am_TE.int (am_ct77  (by omega) hI (by decide)) (fun b2 f2 a2 hq3 => ?_) (fun _ _ _ h => h))
  obtain ⟨hI4, hq3⟩ := hq3
  refine am_rif_eq rfl rfl (by unfold am_rg; omega) (fun hc5 => ?_) (fun hc5 => ?_)
  · refine am_raload_n rfl rfl rfl ?_
    refine am_raload_n rfl rfl rfl ?_
    refine am_raload_n rfl rfl rfl ?_
    refine am_rgetf (S1 := [.ref 2, .ref (y1), .ref 27]) rfl rfl ?_
    have q6 := am_Ig201 hI4
    refine am_evirtualI (m := am_m75) (As := [.ref 2]) (S1 := [.ref (y1), .ref 27]) rfl rfl rfl rfl rfl rfl rfl rfl rfl rfl (am_TE.int (am_ct75  (by omega) hI4) (fun b7 f7 a7 hq8 => ?_) (fun _ _ _ h => h))
    obtain ⟨hI9, hq8⟩ := hq8
    refine am_evirtualI (m := am_m45) (As := [.ref (y1), am_iv b7]) (S1 := [.ref 27]) rfl rfl rfl rfl rfl rfl rfl rfl (am_rcM hp0 rfl) rfl (am_TE.int (am_ct45 (c := y1) (y1 := b7) (by omega) hI9 hp0 (by omega)) (fun b10 f10 a10 hq11 => ?_) (fun _ _ _ h => h))
    obtain ⟨hI12, hq11⟩ := hq11
    refine am_rputf (S1 := []) (h1 := am_enc (am_ud f10 2701 b10) a10 w e) rfl (am_pfB rfl am_ge27 rfl (am_sf2701 _)) (by rw [am_enc_len, am_enc_len]) ?_
    refine am_raload_n rfl rfl rfl ?_
    refine am_raload_n rfl rfl rfl ?_
    refine am_rgetf (S1 := [am_iv b10, .ref 27]) rfl rfl ?_
    refine am_rputf (S1 := []) (h1 := am_enc (am_ud (am_ud f10 2701 b10) 2702 b10) a10 w e) rfl (am_pfB rfl am_ge27 rfl (am_sf2702 _)) (by rw [am_enc_len, am_enc_len]) ?_
    refine am_raload_n rfl rfl rfl ?_
    refine am_riconst rfl ?_
    refine am_rputf (S1 := []) (h1 := am_enc (am_ud (am_ud (am_ud f10 2701 b10) 2702 b10) 2703 0) a10 w e) rfl (am_pfB rfl am_ge27 rfl (am_sf2703 _)) (by rw [am_enc_len, am_enc_len]) ?_
    refine am_raload_n rfl rfl rfl ?_
    refine am_raload_n rfl rfl rfl ?_
    have J13 := am_If2701 (v := b10) hI12 (by omega) (by omega)
    have J14 := am_If2702 (v := b10) J13 (by omega) (by omega)
    have J15 := am_If2703 (v := 0) J14 (by omega) (by omega)
    refine am_evirtualV (m := am_m57) (As := [.ref 27, .ref (y1)]) (S1 := []) rfl rfl rfl rfl rfl rfl rfl rfl rfl rfl (am_TE.void (am_ct57 (y1 := y1) (by omega) J15 hp0) (fun f16 a16 hq17 => ?_) (fun _ _ _ h => h))
    have hI18 := hq17
    exact am_eret rfl rfl hI18
  · refine am_raload_n rfl rfl rfl ?_
    refine am_raload_n rfl rfl rfl ?_
    refine am_riload_n rfl rfl rfl ?_
    refine am_riconst rfl ?_
    refine am_riadd rfl ?_
    refine am_evirtualV (m := am_m55) (As := [.ref 27, .ref (y1), am_iv (y2 + 1)]) (S1 := []) rfl rfl rfl rfl rfl rfl rfl rfl rfl rfl (am_TE.void (hS (y1 := y1) (y2 := (y2 + 1)) (by omega) hI4 hp0 (by omega) (by omega) (by omega)) (fun f19 a19 hq20 => ?_) (fun _ _ _ h => h))
    have hI21 := hq20
    refine am_rgoto rfl rfl ?_
    refine am_raload_n rfl rfl rfl ?_
    refine am_raload_n rfl rfl rfl ?_
    refine am_evirtualV (m := am_m57) (As := [.ref 27, .ref (y1)]) (S1 := []) rfl rfl rfl rfl rfl rfl rfl rfl rfl rfl (am_TE.void (am_ct57 (y1 := y1) (by omega) hI21 hp0) (fun f22 a22 hq23 => ?_) (fun _ _ _ h => h))
    have hI24 := hq23
    exact am_eret rfl rfl hI24
set_option maxRecDepth 100000 in
set_option maxHeartbeats 4000000 in
theorem am_ct55s_73 {X : List Value} {w : Value} {e : Nat} {g : aF} {h : aA} {p : Bool} {d : Nat} {j : Nat} (hS : am_S55 X w e p g h j) (hd : 4 + 2 * (j + 1) ≤ d + 1) (n : Nat) :
    ∀ {f : aF} {a : aA} {x1 : Nat} {x2 : Int} {x3 : Int} {x4 : Int}, (1000000 - x4).toNat < n → am_IV p g h f a → am_isM x1 → (-2147483648 ≤ x2 ∧ x2 ≤ 2147483647) → (-2147483648 ≤ x3 ∧ x3 ≤ 2147483647) → (-2147483648 ≤ x4 ∧ x4 ≤ 2147483647) → 0 ≤ x4 → x2 ≤ 8 → 8 - x2 < (j : Int) → am_TE X (d + 1) am_m55 73 [(0, .ref 27), (1, .ref (x1)), (2, am_iv x2), (3, am_iv x3), (4, am_iv x4)] [] f a w e (am_QV (fun f1 a1 => am_IV p g h f1 a1)) (am_EC g h) := by
  induction n with
  | zero => intros; omega
  | succ n ih =>
    intro f a x1 x2 x3 x4 hn hI hp0 hp1 hp2 hp3 hp4 hp5 hp6
    refine am_riload rfl rfl rfl ?_
    refine am_rldc (x := 1000000) rfl rfl (by decide) ?_
    refine am_ric_ge rfl rfl (by unfold am_rg; omega) (by unfold am_rg; omega) (fun hc1 => ?_) (fun hc1 => ?_)
    · exact am_eret rfl rfl hI
    · refine am_raload_n rfl rfl rfl ?_
      refine am_rgetf (S1 := [.ref 2]) rfl rfl ?_
      refine am_rldcs rfl rfl rfl ?_
      have q2 := am_Ig201 hI
      refine am_evirtualI (m := am_m77) (As := [.ref 2, .ref (1000000 + 13)]) (S1 := []) rfl rfl rfl rfl rfl rfl rfl rfl rfl rfl (am_TE.int (am_ct77  (by omega) hI (by decide)) (fun b3 f3 a3 hq4 => ?_) (fun _ _ _ h => h))
      obtain ⟨hI5, hq4⟩ := hq4
      refine am_rif_ne rfl rfl (by unfold am_rg; omega) (fun hc6 => ?_) (fun hc6 => ?_)
      · exact am_eret rfl rfl hI5
      · refine am_raload_n rfl rfl rfl ?_
        have q7 := am_Ig2701 hI5
        refine am_rgetf (S1 := [am_iv (f3 2701)]) rfl rfl ?_
        refine am_ristore (L1 := [(0, .ref 27), (1, .ref (x1)), (2, am_iv x2), (3, am_iv x3), (4, am_iv x4), (5, am_iv (f3 2701))]) rfl rfl rfl rfl rfl ?_
        refine am_raload_n rfl rfl rfl ?_
        have q8 := am_Ig2702 hI5
        refine am_rgetf (S1 := [am_iv (f3 2702)]) rfl rfl ?_
        refine am_ristore (L1 := [(0, .ref 27), (1, .ref (x1)), (2, am_iv x2), (3, am_iv x3), (4, am_iv x4), (5, am_iv (f3 2701)), (6, am_iv (f3 2702))]) rfl rfl rfl rfl rfl ?_
        refine am_raload_n rfl rfl rfl ?_
        have q9 := am_Ig2703 hI5
        refine am_rgetf (S1 := [am_iv (f3 2703)]) rfl rfl ?_
        refine am_ristore (L1 := [(0, .ref 27), (1, .ref (x1)), (2, am_iv x2), (3, am_iv x3), (4, am_iv x4), (5, am_iv (f3 2701)), (6, am_iv (f3 2702)), (7, am_iv (f3 2703))]) rfl rfl rfl rfl rfl ?_
        refine am_raload_n rfl rfl rfl ?_
        refine am_rgetf (S1 := [.ref 2]) rfl rfl ?_
        refine am_riload_n rfl rfl rfl ?_
        have q10 := am_Ig201 hI5
        refine am_evirtualV (m := am_m74) (As := [.ref 2, am_iv x3]) (S1 := []) rfl rfl rfl rfl rfl rfl rfl rfl rfl rfl (am_TE.void (am_ct74 (y1 := x3) (by omega) hI5 (by omega)) (fun f11 a11 hq12 => ?_) (fun _ _ _ h => h))
        obtain ⟨hI13, hq12⟩ := hq12
        refine am_raload_n rfl rfl rfl ?_
        refine am_rgetf (S1 := [.ref 2]) rfl rfl ?_
        have q14 := am_Ig201 hI13
        refine am_evirtualI (m := am_m78) (As := [.ref 2]) (S1 := []) rfl rfl rfl rfl rfl rfl rfl rfl rfl rfl (am_TE.int (am_ct78  (by omega) hI13) (fun b15 f15 a15 hq16 => ?_) (fun _ _ _ h => h))
        obtain ⟨hI17, hq16⟩ := hq16
        refine am_rpop rfl rfl ?_
        refine am_raload_n rfl rfl rfl ?_
        refine am_raload_n rfl rfl rfl ?_
        refine am_riload_n rfl rfl rfl ?_
        refine am_evirtualV (m := am_m56) (As := [.ref 27, .ref (x1), am_iv x2]) (S1 := []) rfl rfl rfl rfl rfl rfl rfl rfl rfl rfl (am_TE.void (am_ct56 (y1 := x1) (y2 := x2) hS (by omega) hI17 hp0 (by omega) (by omega) (by omega)) (fun f18 a18 hq19 => ?_) (fun _ _ _ h => h))
        have hI20 := hq19
        refine am_raload_n rfl rfl rfl ?_
        refine am_rgetf (S1 := [.ref 2]) rfl rfl ?_
        have q21 := am_Ig201 hI20
        refine am_evirtualI (m := am_m78) (As := [.ref 2]) (S1 := []) rfl rfl rfl rfl rfl rfl rfl rfl rfl rfl (am_TE.int (am_ct78  (by omega) hI20) (fun b22 f22 a22 hq23 => ?_) (fun _ _ _ h => h))
        obtain ⟨hI24, hq23⟩ := hq23
        refine am_rpop rfl rfl ?_
        refine am_riload_n rfl rfl rfl ?_
        refine am_rbipush rfl (by decide) ?_
        refine am_ric_ne rfl rfl (by unfold am_rg; omega) (by unfold am_rg; omega) (fun hc25 => ?_) (fun hc25 => ?_)
        · refine am_raload_n rfl rfl rfl ?_
          refine am_riload rfl rfl rfl ?_
          refine am_raload_n rfl rfl rfl ?_
          have q26 := am_Ig2701 hI24
          refine am_rgetf (S1 := [am_iv (f22 2701), am_iv (f3 2702), .ref (x1)]) rfl rfl ?_
          refine am_evirtualV (m := am_m46) (As := [.ref (x1), am_iv (f3 2702), am_iv (f22 2701)]) (S1 := []) rfl rfl rfl rfl rfl rfl rfl rfl (am_rcM hp0 rfl) rfl (am_TE.void (am_ct46 (c := x1) (y1 := (f3 2702)) (y2 := (f22 2701)) (by omega) hI24 hp0 (by omega) (by omega)) (fun f27 a27 hq28 => ?_) (fun _ _ _ h => h))
          have hI29 := hq28
          refine am_raload_n rfl rfl rfl ?_
          refine am_riload rfl rfl rfl ?_
          refine am_rif_eq rfl rfl (by unfold am_rg; omega) (fun hc30 => ?_) (fun hc30 => ?_)
          · refine am_riload rfl rfl rfl ?_
            refine am_rputf (S1 := []) (h1 := am_enc (am_ud f27 2701 (f3 2701)) a27 w e) rfl (am_pfB rfl am_ge27 rfl (am_sf2701 _)) (by rw [am_enc_len, am_enc_len]) ?_
            refine am_raload_n rfl rfl rfl ?_
            refine am_raload_n rfl rfl rfl ?_
            have q31 := am_Ig2703 hI29
            refine am_rgetf (S1 := [am_iv (f27 2703), .ref 27]) rfl rfl ?_
            refine am_rif_eq rfl rfl (by unfold am_rg; omega) (fun hc32 => ?_) (fun hc32 => ?_)
            · refine am_raload_n rfl rfl rfl ?_
              have q33 := am_Ig2702 hI29
              refine am_rgetf (S1 := [am_iv (f27 2702), .ref 27]) rfl rfl ?_
              refine am_rputf (S1 := []) (h1 := am_enc (am_ud (am_ud f27 2701 (f3 2701)) 2702 (f27 2702)) a27 w e) rfl (am_pfB rfl am_ge27 rfl (am_sf2702 _)) (by rw [am_enc_len, am_enc_len]) ?_
              refine am_raload_n rfl rfl rfl ?_
              refine am_rdup rfl rfl ?_
              refine am_rgetf (S1 := [am_iv (f27 2703), .ref 27]) rfl rfl ?_
              refine am_riload rfl rfl rfl ?_
              have q34 := am_and_rg (f27 2703) (f3 2703)
              refine am_riand rfl ?_
              have hB35 : am_and (f27 2703) (f3 2703) = 0 ∨ am_and (f27 2703) (f3 2703) = 1 := am_and_b (by omega) (by omega)
              refine am_rputf (S1 := []) (h1 := am_enc (am_ud (am_ud (am_ud f27 2701 (f3 2701)) 2702 (f27 2702)) 2703 (am_and (f27 2703) (f3 2703))) a27 w e) rfl (am_pfB rfl am_ge27 (by rcases hB35 with h9 | h9 <;> rw [h9] <;> rfl) (am_sf2703 _)) (by rw [am_enc_len, am_enc_len]) ?_
              refine am_riinc (L1 := [(0, .ref 27), (1, .ref (x1)), (2, am_iv x2), (3, am_iv x3), (4, am_iv (x4 + 1)), (5, am_iv (f3 2701)), (6, am_iv (f3 2702)), (7, am_iv (f3 2703))]) rfl rfl rfl rfl rfl ?_
              refine am_rgoto rfl rfl ?_
              have J36 := am_If2701 (v := f3 2701) hI29 (by omega) (by omega)
              have J37 := am_If2702 (v := f27 2702) J36 (by omega) (by omega)
              have J38 := am_If2703 (v := am_and (f27 2703) (f3 2703)) J37 (by omega) (by omega)
              exact am_T.drop (L1 := [(0, .ref 27), (1, .ref (x1)), (2, am_iv x2), (3, am_iv x3), (4, am_iv (x4 + 1))]) (ih (show (1000000 - (x4 + 1)).toNat < n by omega) J38 hp0 (show (-2147483648 ≤ x2 ∧ x2 ≤ 2147483647) by omega) (show (-2147483648 ≤ x3 ∧ x3 ≤ 2147483647) by omega) (show (-2147483648 ≤ (x4 + 1) ∧ (x4 + 1) ≤ 2147483647) by omega) (show 0 ≤ (x4 + 1) by omega) (show x2 ≤ 8 by omega) (show 8 - x2 < (j : Int) by omega)) (by simp)
            · refine am_riload rfl rfl rfl ?_
              refine am_raload_n rfl rfl rfl ?_
              have q39 := am_Ig2702 hI29
              refine am_rgetf (S1 := [am_iv (f27 2702), am_iv (f3 2702), .ref 27]) rfl rfl ?_
              have q40 := am_or_rg (f3 2702) (f27 2702)
              refine am_rior rfl ?_
              refine am_rgoto rfl rfl ?_
              refine am_rputf (S1 := []) (h1 := am_enc (am_ud (am_ud f27 2701 (f3 2701)) 2702 (am_or (f3 2702) (f27 2702))) a27 w e) rfl (am_pfB rfl am_ge27 rfl (am_sf2702 _)) (by rw [am_enc_len, am_enc_len]) ?_
              refine am_raload_n rfl rfl rfl ?_
              refine am_rdup rfl rfl ?_
              refine am_rgetf (S1 := [am_iv (f27 2703), .ref 27]) rfl rfl ?_
              refine am_riload rfl rfl rfl ?_
              have q41 := am_and_rg (f27 2703) (f3 2703)
              refine am_riand rfl ?_
              have hB42 : am_and (f27 2703) (f3 2703) = 0 ∨ am_and (f27 2703) (f3 2703) = 1 := am_and_b (by omega) (by omega)
              refine am_rputf (S1 := []) (h1 := am_enc (am_ud (am_ud (am_ud f27 2701 (f3 2701)) 2702 (am_or (f3 2702) (f27 2702))) 2703 (am_and (f27 2703) (f3 2703))) a27 w e) rfl (am_pfB rfl am_ge27 (by rcases hB42 with h9 | h9 <;> rw [h9] <;> rfl) (am_sf2703 _)) (by rw [am_enc_len, am_enc_len]) ?_
              refine am_riinc (L1 := [(0, .ref 27), (1, .ref (x1)), (2, am_iv x2), (3, am_iv x3), (4, am_iv (x4 + 1)), (5, am_iv (f3 2701)), (6, am_iv (f3 2702)), (7, am_iv (f3 2703))]) rfl rfl rfl rfl rfl ?_
              refine am_rgoto rfl rfl ?_
              have J43 := am_If2701 (v := f3 2701) hI29 (by omega) (by omega)
              have J44 := am_If2702 (v := am_or (f3 2702) (f27 2702)) J43 (by omega) (by omega)
              have J45 := am_If2703 (v := am_and (f27 2703) (f3 2703)) J44 (by omega) (by omega)
              exact am_T.drop (L1 := [(0, .ref 27), (1, .ref (x1)), (2, am_iv x2), (3, am_iv x3), (4, am_iv (x4 + 1))]) (ih (show (1000000 - (x4 + 1)).toNat < n by omega) J45 hp0 (show (-2147483648 ≤ x2 ∧ x2 ≤ 2147483647) by omega) (show (-2147483648 ≤ x3 ∧ x3 ≤ 2147483647) by omega) (show (-2147483648 ≤ (x4 + 1) ∧ (x4 + 1) ≤ 2147483647) by omega) (show 0 ≤ (x4 + 1) by omega) (show x2 ≤ 8 by omega) (show 8 - x2 < (j : Int) by omega)) (by simp)
          · refine am_riload rfl rfl rfl ?_
            refine am_raload_n rfl rfl rfl ?_
            have q46 := am_Ig2701 hI29
            refine am_rgetf (S1 := [am_iv (f27 2701), am_iv (f3 2701), .ref 27]) rfl rfl ?_
            have q47 := am_or_rg (f3 2701) (f27 2701)
            refine am_rior rfl ?_
            refine am_rgoto rfl rfl ?_
            refine am_rputf (S1 := []) (h1 := am_enc (am_ud f27 2701 (am_or (f3 2701) (f27 2701))) a27 w e) rfl (am_pfB rfl am_ge27 rfl (am_sf2701 _)) (by rw [am_enc_len, am_enc_len]) ?_
            refine am_raload_n rfl rfl rfl ?_
            refine am_raload_n rfl rfl rfl ?_
            have q48 := am_Ig2703 hI29
            refine am_rgetf (S1 := [am_iv (f27 2703), .ref 27]) rfl rfl ?_
            refine am_rif_eq rfl rfl (by unfold am_rg; omega) (fun hc49 => ?_) (fun hc49 => ?_)
            · refine am_raload_n rfl rfl rfl ?_
              have q50 := am_Ig2702 hI29
              refine am_rgetf (S1 := [am_iv (f27 2702), .ref 27]) rfl rfl ?_
              refine am_rputf (S1 := []) (h1 := am_enc (am_ud (am_ud f27 2701 (am_or (f3 2701) (f27 2701))) 2702 (f27 2702)) a27 w e) rfl (am_pfB rfl am_ge27 rfl (am_sf2702 _)) (by rw [am_enc_len, am_enc_len]) ?_
              refine am_raload_n rfl rfl rfl ?_
              refine am_rdup rfl rfl ?_
              refine am_rgetf (S1 := [am_iv (f27 2703), .ref 27]) rfl rfl ?_
              refine am_riload rfl rfl rfl ?_
              have q51 := am_and_rg (f27 2703) (f3 2703)
              refine am_riand rfl ?_
              have hB52 : am_and (f27 2703) (f3 2703) = 0 ∨ am_and (f27 2703) (f3 2703) = 1 := am_and_b (by omega) (by omega)
              refine am_rputf (S1 := []) (h1 := am_enc (am_ud (am_ud (am_ud f27 2701 (am_or (f3 2701) (f27 2701))) 2702 (f27 2702)) 2703 (am_and (f27 2703) (f3 2703))) a27 w e) rfl (am_pfB rfl am_ge27 (by rcases hB52 with h9 | h9 <;> rw [h9] <;> rfl) (am_sf2703 _)) (by rw [am_enc_len, am_enc_len]) ?_
              refine am_riinc (L1 := [(0, .ref 27), (1, .ref (x1)), (2, am_iv x2), (3, am_iv x3), (4, am_iv (x4 + 1)), (5, am_iv (f3 2701)), (6, am_iv (f3 2702)), (7, am_iv (f3 2703))]) rfl rfl rfl rfl rfl ?_
              refine am_rgoto rfl rfl ?_
              have J53 := am_If2701 (v := am_or (f3 2701) (f27 2701)) hI29 (by omega) (by omega)
              have J54 := am_If2702 (v := f27 2702) J53 (by omega) (by omega)
              have J55 := am_If2703 (v := am_and (f27 2703) (f3 2703)) J54 (by omega) (by omega)
              exact am_T.drop (L1 := [(0, .ref 27), (1, .ref (x1)), (2, am_iv x2), (3, am_iv x3), (4, am_iv (x4 + 1))]) (ih (show (1000000 - (x4 + 1)).toNat < n by omega) J55 hp0 (show (-2147483648 ≤ x2 ∧ x2 ≤ 2147483647) by omega) (show (-2147483648 ≤ x3 ∧ x3 ≤ 2147483647) by omega) (show (-2147483648 ≤ (x4 + 1) ∧ (x4 + 1) ≤ 2147483647) by omega) (show 0 ≤ (x4 + 1) by omega) (show x2 ≤ 8 by omega) (show 8 - x2 < (j : Int) by omega)) (by simp)
            · refine am_riload rfl rfl rfl ?_
              refine am_raload_n rfl rfl rfl ?_
              have q56 := am_Ig2702 hI29
              refine am_rgetf (S1 := [am_iv (f27 2702), am_iv (f3 2702), .ref 27]) rfl rfl ?_
              have q57 := am_or_rg (f3 2702) (f27 2702)
              refine am_rior rfl ?_
              refine am_rgoto rfl rfl ?_
              refine am_rputf (S1 := []) (h1 := am_enc (am_ud (am_ud f27 2701 (am_or (f3 2701) (f27 2701))) 2702 (am_or (f3 2702) (f27 2702))) a27 w e) rfl (am_pfB rfl am_ge27 rfl (am_sf2702 _)) (by rw [am_enc_len, am_enc_len]) ?_
              refine am_raload_n rfl rfl rfl ?_
              refine am_rdup rfl rfl ?_
              refine am_rgetf (S1 := [am_iv (f27 2703), .ref 27]) rfl rfl ?_
              refine am_riload rfl rfl rfl ?_
              have q58 := am_and_rg (f27 2703) (f3 2703)
              refine am_riand rfl ?_
              have hB59 : am_and (f27 2703) (f3 2703) = 0 ∨ am_and (f27 2703) (f3 2703) = 1 := am_and_b (by omega) (by omega)
              refine am_rputf (S1 := []) (h1 := am_enc (am_ud (am_ud (am_ud f27 2701 (am_or (f3 2701) (f27 2701))) 2702 (am_or (f3 2702) (f27 2702))) 2703 (am_and (f27 2703) (f3 2703))) a27 w e) rfl (am_pfB rfl am_ge27 (by rcases hB59 with h9 | h9 <;> rw [h9] <;> rfl) (am_sf2703 _)) (by rw [am_enc_len, am_enc_len]) ?_
              refine am_riinc (L1 := [(0, .ref 27), (1, .ref (x1)), (2, am_iv x2), (3, am_iv x3), (4, am_iv (x4 + 1)), (5, am_iv (f3 2701)), (6, am_iv (f3 2702)), (7, am_iv (f3 2703))]) rfl rfl rfl rfl rfl ?_
              refine am_rgoto rfl rfl ?_
              have J60 := am_If2701 (v := am_or (f3 2701) (f27 2701)) hI29 (by omega) (by omega)
              have J61 := am_If2702 (v := am_or (f3 2702) (f27 2702)) J60 (by omega) (by omega)
              have J62 := am_If2703 (v := am_and (f27 2703) (f3 2703)) J61 (by omega) (by omega)
              exact am_T.drop (L1 := [(0, .ref 27), (1, .ref (x1)), (2, am_iv x2), (3, am_iv x3), (4, am_iv (x4 + 1))]) (ih (show (1000000 - (x4 + 1)).toNat < n by omega) J62 hp0 (show (-2147483648 ≤ x2 ∧ x2 ≤ 2147483647) by omega) (show (-2147483648 ≤ x3 ∧ x3 ≤ 2147483647) by omega) (show (-2147483648 ≤ (x4 + 1) ∧ (x4 + 1) ≤ 2147483647) by omega) (show 0 ≤ (x4 + 1) by omega) (show x2 ≤ 8 by omega) (show 8 - x2 < (j : Int) by omega)) (by simp)
        · refine am_raload_n rfl rfl rfl ?_
          refine am_rdup rfl rfl ?_
          have q63 := am_Ig2701 hI24
          refine am_rgetf (S1 := [am_iv (f22 2701), .ref 27]) rfl rfl ?_
          refine am_riload rfl rfl rfl ?_
          have q64 := am_or_rg (f22 2701) (f3 2701)
          refine am_rior rfl ?_
          refine am_rputf (S1 := []) (h1 := am_enc (am_ud f22 2701 (am_or (f22 2701) (f3 2701))) a22 w e) rfl (am_pfB rfl am_ge27 rfl (am_sf2701 _)) (by rw [am_enc_len, am_enc_len]) ?_
          refine am_raload_n rfl rfl rfl ?_
          refine am_rdup rfl rfl ?_
          have q65 := am_Ig2702 hI24
          refine am_rgetf (S1 := [am_iv (f22 2702), .ref 27]) rfl rfl ?_
          refine am_riload rfl rfl rfl ?_
          have q66 := am_or_rg (f22 2702) (f3 2702)
          refine am_rior rfl ?_
          refine am_rputf (S1 := []) (h1 := am_enc (am_ud (am_ud f22 2701 (am_or (f22 2701) (f3 2701))) 2702 (am_or (f22 2702) (f3 2702))) a22 w e) rfl (am_pfB rfl am_ge27 rfl (am_sf2702 _)) (by rw [am_enc_len, am_enc_len]) ?_
          refine am_raload_n rfl rfl rfl ?_
          refine am_rdup rfl rfl ?_
          have q67 := am_Ig2703 hI24
          refine am_rgetf (S1 := [am_iv (f22 2703), .ref 27]) rfl rfl ?_
          refine am_riload rfl rfl rfl ?_
          have q68 := am_or_rg (f22 2703) (f3 2703)
          refine am_rior rfl ?_
          have hB69 : am_or (f22 2703) (f3 2703) = 0 ∨ am_or (f22 2703) (f3 2703) = 1 := am_or_b (by omega) (by omega)
          refine am_rputf (S1 := []) (h1 := am_enc (am_ud (am_ud (am_ud f22 2701 (am_or (f22 2701) (f3 2701))) 2702 (am_or (f22 2702) (f3 2702))) 2703 (am_or (f22 2703) (f3 2703))) a22 w e) rfl (am_pfB rfl am_ge27 (by rcases hB69 with h9 | h9 <;> rw [h9] <;> rfl) (am_sf2703 _)) (by rw [am_enc_len, am_enc_len]) ?_
          refine am_rgoto rfl rfl ?_
          refine am_riinc (L1 := [(0, .ref 27), (1, .ref (x1)), (2, am_iv x2), (3, am_iv x3), (4, am_iv (x4 + 1)), (5, am_iv (f3 2701)), (6, am_iv (f3 2702)), (7, am_iv (f3 2703))]) rfl rfl rfl rfl rfl ?_
          refine am_rgoto rfl rfl ?_
          have J70 := am_If2701 (v := am_or (f22 2701) (f3 2701)) hI24 (by omega) (by omega)
          have J71 := am_If2702 (v := am_or (f22 2702) (f3 2702)) J70 (by omega) (by omega)
          have J72 := am_If2703 (v := am_or (f22 2703) (f3 2703)) J71 (by omega) (by omega)
          exact am_T.drop (L1 := [(0, .ref 27), (1, .ref (x1)), (2, am_iv x2), (3, am_iv x3), (4, am_iv (x4 + 1))]) (ih (show (1000000 - (x4 + 1)).toNat < n by omega) J72 hp0 (show (-2147483648 ≤ x2 ∧ x2 ≤ 2147483647) by omega) (show (-2147483648 ≤ x3 ∧ x3 ≤ 2147483647) by omega) (show (-2147483648 ≤ (x4 + 1) ∧ (x4 + 1) ≤ 2147483647) by omega) (show 0 ≤ (x4 + 1) by omega) (show x2 ≤ 8 by omega) (show 8 - x2 < (j : Int) by omega)) (by simp)
set_option maxRecDepth 100000 in
set_option maxHeartbeats 4000000 in
theorem am_ct55s {X : List Value} {w : Value} {e : Nat} {g : aF} {h : aA} {p : Bool} {d : Nat} {y1 : Nat} {y2 : Int} {j : Nat} (hS : am_S55 X w e p g h j) {f : aF} {a : aA} (hd : 4 + 2 * (j + 1) ≤ d) (hI : am_IV p g h f a) (hp0 : am_isM y1) (hp1 : (-2147483648 ≤ y2 ∧ y2 ≤ 2147483647)) (hp2 : y2 ≤ 9) (hp3 : 9 - y2 < (j : Int) + 1) :
    am_TE X d am_m55 0 (lv_args 0 [.ref 27, .ref (y1), am_iv y2]) [] f a w e (am_QV (fun f1 a1 => am_IV p g h f1 a1)) (am_EC g h) := by
  obtain ⟨d, rfl⟩ : ∃ d0, d = d0 + 1 := ⟨d - 1, by omega⟩
  refine am_riload_n rfl rfl rfl ?_
  refine am_rbipush rfl (by decide) ?_
  refine am_ric_le rfl rfl (by unfold am_rg; omega) (by unfold am_rg; omega) (fun hc1 => ?_) (fun hc1 => ?_)
  · refine am_raload_n rfl rfl rfl ?_
    refine am_rgetf (S1 := [.ref 2]) rfl rfl ?_
    have q2 := am_Ig201 hI
    refine am_evirtualI (m := am_m78) (As := [.ref 2]) (S1 := []) rfl rfl rfl rfl rfl rfl rfl rfl rfl rfl (am_TE.int (am_ct78  (by omega) hI) (fun b3 f3 a3 hq4 => ?_) (fun _ _ _ h => h))
    obtain ⟨hI5, hq4⟩ := hq4
    refine am_rpop rfl rfl ?_
    refine am_raload_n rfl rfl rfl ?_
    refine am_raload_n rfl rfl rfl ?_
    refine am_riload_n rfl rfl rfl ?_
    refine am_evirtualV (m := am_m56) (As := [.ref 27, .ref (y1), am_iv y2]) (S1 := []) rfl rfl rfl rfl rfl rfl rfl rfl rfl rfl (am_TE.void (am_ct56 (y1 := y1) (y2 := y2) hS (by omega) hI5 hp0 (by omega) (by omega) (by omega)) (fun f6 a6 hq7 => ?_) (fun _ _ _ h => h))
    have hI8 := hq7
    refine am_raload_n rfl rfl rfl ?_
    refine am_rgetf (S1 := [.ref 2]) rfl rfl ?_
    have q9 := am_Ig201 hI8
    refine am_evirtualI (m := am_m78) (As := [.ref 2]) (S1 := []) rfl rfl rfl rfl rfl rfl rfl rfl rfl rfl (am_TE.int (am_ct78  (by omega) hI8) (fun b10 f10 a10 hq11 => ?_) (fun _ _ _ h => h))
    obtain ⟨hI12, hq11⟩ := hq11
    refine am_rpop rfl rfl ?_
    refine am_raload_n rfl rfl rfl ?_
    refine am_rgetf (S1 := [.ref 2]) rfl rfl ?_
    refine am_evirtualI (m := am_m72) (As := [.ref 2]) (S1 := []) rfl rfl rfl rfl rfl rfl rfl rfl rfl rfl (am_TE.int (am_ct72  (by omega) hI12) (fun b13 f13 a13 hq14 => ?_) (fun _ _ _ h => h))
    obtain ⟨rfl, rfl, hq14⟩ := hq14
    refine am_ristore_n (L1 := [(0, .ref 27), (1, .ref (y1)), (2, am_iv y2), (3, am_iv b13)]) rfl rfl rfl rfl rfl ?_
    refine am_riload_n rfl rfl rfl ?_
    refine am_rbipush rfl (by decide) ?_
    refine am_ric_eq rfl rfl (by unfold am_rg; omega) (by unfold am_rg; omega) (fun hc15 => ?_) (fun hc15 => ?_)
    · refine am_riconst rfl ?_
      refine am_ristore (L1 := [(0, .ref 27), (1, .ref (y1)), (2, am_iv y2), (3, am_iv b13), (4, am_iv 0)]) rfl rfl rfl rfl rfl ?_
      exact am_ct55s_73 hS hd (_ + 1) (Nat.lt_succ_self _) hI12 hp0 (by omega) (by omega) (by omega) (by omega) (by omega) (by omega)
    · refine am_riload_n rfl rfl rfl ?_
      refine am_rbipush rfl (by decide) ?_
      refine am_ric_eq rfl rfl (by unfold am_rg; omega) (by unfold am_rg; omega) (fun hc16 => ?_) (fun hc16 => ?_)
      · refine am_riconst rfl ?_
        refine am_ristore (L1 := [(0, .ref 27), (1, .ref (y1)), (2, am_iv y2), (3, am_iv b13), (4, am_iv 0)]) rfl rfl rfl rfl rfl ?_
        exact am_ct55s_73 hS hd (_ + 1) (Nat.lt_succ_self _) hI12 hp0 (by omega) (by omega) (by omega) (by omega) (by omega) (by omega)
      · refine am_riload_n rfl rfl rfl ?_
        refine am_rbipush rfl (by decide) ?_
        refine am_ric_eq rfl rfl (by unfold am_rg; omega) (by unfold am_rg; omega) (fun hc17 => ?_) (fun hc17 => ?_)
        · refine am_riconst rfl ?_
          refine am_ristore (L1 := [(0, .ref 27), (1, .ref (y1)), (2, am_iv y2), (3, am_iv b13), (4, am_iv 0)]) rfl rfl rfl rfl rfl ?_
          exact am_ct55s_73 hS hd (_ + 1) (Nat.lt_succ_self _) hI12 hp0 (by omega) (by omega) (by omega) (by omega) (by omega) (by omega)
        · exact am_ethrow rfl rfl rfl rfl ⟨by decide, hI12.weak⟩
  · exact am_ethrow rfl rfl rfl rfl ⟨by decide, hI.weak⟩
theorem am_S55_all {X : List Value} {w : Value} {e : Nat} {p : Bool} {g : aF} {h : aA} : ∀ j : Nat, am_S55 X w e p g h j := by
  intro j
  induction j with
  | zero => intro d y1 y2 f a hd hI hp0 hp1 hp2 hp3; omega
  | succ j ih => intro d y1 y2 f a hd hI hp0 hp1 hp2 hp3; exact am_ct55s ih hd hI hp0 hp1 hp2 (by omega)
theorem am_ct55 {X : List Value} {w : Value} {e : Nat} {g : aF} {h : aA} {p : Bool} {d : Nat} {y1 : Nat} {y2 : Int} {f : aF} {a : aA} (hd : 22 ≤ d) (hI : am_IV p g h f a) (hp0 : am_isM y1) (hp1 : (-2147483648 ≤ y2 ∧ y2 ≤ 2147483647)) (hp2 : y2 ≤ 9) (hp3 : 1 ≤ y2) :
    am_TE X d am_m55 0 (lv_args 0 [.ref 27, .ref y1, am_iv y2]) [] f a w e (am_QV (fun f1 a1 => am_IV p g h f1 a1)) (am_EC g h) :=
  am_S55_all 9 (by omega) hI hp0 hp1 hp2 (by omega)
set_option maxRecDepth 100000 in
set_option maxHeartbeats 4000000 in
theorem am_ct53 {X : List Value} {w : Value} {e : Nat} {g : aF} {h : aA} {p : Bool} {d : Nat} {y1 : Nat} {f : aF} {a : aA} (hd : 23 ≤ d) (hI : am_IV p g h f a) (hp0 : am_isM y1) :
    am_TE X d am_m53 0 (lv_args 0 [.ref 27, .ref (y1)]) [] f a w e (am_QV (fun f1 a1 => am_IV p g h f1 a1)) (am_EC g h) := by
  obtain ⟨d, rfl⟩ : ∃ d0, d = d0 + 1 := ⟨d - 1, by omega⟩
  refine am_raload_n rfl rfl rfl ?_
  refine am_rgetf (S1 := [.ref 2]) rfl rfl ?_
  refine am_rldcs rfl rfl rfl ?_
  have q1 := am_Ig201 hI
  refine am_evirtualI (m := am_m77) (As := [.ref 2, .ref (1000000 + 10)]) (S1 := []) rfl rfl rfl rfl rfl rfl rfl rfl rfl rfl (am_TE.int (am_ct77  (by omega) hI (by decide)) (fun b2 f2 a2 hq3 => ?_) (fun _ _ _ h => h))
  obtain ⟨hI4, hq3⟩ := hq3
  refine am_rif_eq rfl rfl (by unfold am_rg; omega) (fun hc5 => ?_) (fun hc5 => ?_)
  · refine am_raload_n rfl rfl rfl ?_
    refine am_rgetf (S1 := [.ref 2]) rfl rfl ?_
    refine am_rldcs rfl rfl rfl ?_
    have q6 := am_Ig201 hI4
    refine am_evirtualI (m := am_m77) (As := [.ref 2, .ref (1000000 + 11)]) (S1 := []) rfl rfl rfl rfl rfl rfl rfl rfl rfl rfl (am_TE.int (am_ct77  (by omega) hI4 (by decide)) (fun b7 f7 a7 hq8 => ?_) (fun _ _ _ h => h))
    obtain ⟨hI9, hq8⟩ := hq8
    refine am_rif_eq rfl rfl (by unfold am_rg; omega) (fun hc10 => ?_) (fun hc10 => ?_)
    · refine am_raload_n rfl rfl rfl ?_
      refine am_rgetf (S1 := [.ref 2]) rfl rfl ?_
      refine am_rbipush rfl (by decide) ?_
      have q11 := am_Ig201 hI9
      refine am_evirtualV (m := am_m74) (As := [.ref 2, am_iv 40]) (S1 := []) rfl rfl rfl rfl rfl rfl rfl rfl rfl rfl (am_TE.void (am_ct74 (y1 := 40) (by omega) hI9 (by omega)) (fun f12 a12 hq13 => ?_) (fun _ _ _ h => h))
      obtain ⟨hI14, hq13⟩ := hq13
      refine am_raload_n rfl rfl rfl ?_
      refine am_rgetf (S1 := [.ref 2]) rfl rfl ?_
      have q15 := am_Ig201 hI14
      refine am_evirtualI (m := am_m78) (As := [.ref 2]) (S1 := []) rfl rfl rfl rfl rfl rfl rfl rfl rfl rfl (am_TE.int (am_ct78  (by omega) hI14) (fun b16 f16 a16 hq17 => ?_) (fun _ _ _ h => h))
      obtain ⟨hI18, hq17⟩ := hq17
      refine am_rpop rfl rfl ?_
      refine am_raload_n rfl rfl rfl ?_
      refine am_rgetf (S1 := [.ref 2]) rfl rfl ?_
      refine am_rldcs rfl rfl rfl ?_
      have q19 := am_Ig201 hI18
      refine am_evirtualI (m := am_m77) (As := [.ref 2, .ref (1000000 + 12)]) (S1 := []) rfl rfl rfl rfl rfl rfl rfl rfl rfl rfl (am_TE.int (am_ct77  (by omega) hI18 (by decide)) (fun b20 f20 a20 hq21 => ?_) (fun _ _ _ h => h))
      obtain ⟨hI22, hq21⟩ := hq21
      refine am_rif_eq rfl rfl (by unfold am_rg; omega) (fun hc23 => ?_) (fun hc23 => ?_)
      · refine am_raload_n rfl rfl rfl ?_
        refine am_riconst rfl ?_
        refine am_evirtualV (m := am_m44) (As := [.ref (y1), am_iv 4]) (S1 := []) rfl rfl rfl rfl rfl rfl rfl rfl (am_rcM hp0 rfl) rfl (am_TE.void (am_ct44 (c := y1) (y1 := 4) (by omega) hI22 hp0 (by omega)) (fun f24 a24 hq25 => ?_) (fun _ _ _ h => h))
        have hI26 := hq25
        refine am_raload_n rfl rfl rfl ?_
        refine am_raload_n rfl rfl rfl ?_
        refine am_riconst rfl ?_
        refine am_evirtualV (m := am_m55) (As := [.ref 27, .ref (y1), am_iv 1]) (S1 := []) rfl rfl rfl rfl rfl rfl rfl rfl rfl rfl (am_TE.void (am_ct55 (y1 := y1) (y2 := 1) (by omega) hI26 hp0 (by omega) (by omega) (by omega)) (fun f27 a27 hq28 => ?_) (fun _ _ _ h => h))
        have hI29 := hq28
        refine am_raload_n rfl rfl rfl ?_
        refine am_raload_n rfl rfl rfl ?_
        refine am_evirtualV (m := am_m57) (As := [.ref 27, .ref (y1)]) (S1 := []) rfl rfl rfl rfl rfl rfl rfl rfl rfl rfl (am_TE.void (am_ct57 (y1 := y1) (by omega) hI29 hp0) (fun f30 a30 hq31 => ?_) (fun _ _ _ h => h))
        have hI32 := hq31
        refine am_raload_n rfl rfl rfl ?_
        refine am_riconst rfl ?_
        refine am_raload_n rfl rfl rfl ?_
        have q33 := am_Ig2701 hI32
        refine am_rgetf (S1 := [am_iv (f30 2701), am_iv 1, .ref (y1)]) rfl rfl ?_
        refine am_evirtualV (m := am_m46) (As := [.ref (y1), am_iv 1, am_iv (f30 2701)]) (S1 := []) rfl rfl rfl rfl rfl rfl rfl rfl (am_rcM hp0 rfl) rfl (am_TE.void (am_ct46 (c := y1) (y1 := 1) (y2 := (f30 2701)) (by omega) hI32 hp0 (by omega) (by omega)) (fun f34 a34 hq35 => ?_) (fun _ _ _ h => h))
        have hI36 := hq35
        refine am_raload_n rfl rfl rfl ?_
        refine am_raload_n rfl rfl rfl ?_
        have q37 := am_Ig2703 hI36
        refine am_rgetf (S1 := [am_iv (f34 2703), .ref (y1)]) rfl rfl ?_
        refine am_rif_eq rfl rfl (by unfold am_rg; omega) (fun hc38 => ?_) (fun hc38 => ?_)
        · refine am_raload_n rfl rfl rfl ?_
          have q39 := am_Ig2702 hI36
          refine am_rgetf (S1 := [am_iv (f34 2702), .ref (y1)]) rfl rfl ?_
          refine am_rputf rfl (am_pfM5 hp0 rfl) (by rw [am_enc_len, am_enc_len]) ?_
          have J40 := am_IfM5 (v := f34 2702) hp0 hI36 (by omega) (by omega)
          exact am_eret rfl rfl J40
        · refine am_raload_n rfl rfl rfl ?_
          have q41 := am_Ig2702 hI36
          refine am_rgetf (S1 := [am_iv (f34 2702), .ref (y1)]) rfl rfl ?_
          refine am_riconst rfl ?_
          have q42 := am_or_rg (f34 2702) 1
          refine am_rior rfl ?_
          refine am_rgoto rfl rfl ?_
          refine am_rputf rfl (am_pfM5 hp0 rfl) (by rw [am_enc_len, am_enc_len]) ?_
          have J43 := am_IfM5 (v := am_or (f34 2702) 1) hp0 hI36 (by omega) (by omega)
          exact am_eret rfl rfl J43
      · refine am_raload_n rfl rfl rfl ?_
        refine am_raload_n rfl rfl rfl ?_
        refine am_evirtualV (m := am_m54) (As := [.ref 27, .ref (y1)]) (S1 := []) rfl rfl rfl rfl rfl rfl rfl rfl rfl rfl (am_TE.void (am_ct54 (y1 := y1) (by omega) hI22 hp0) (fun f44 a44 hq45 => ?_) (fun _ _ _ h => h))
        have hI46 := hq45
        refine am_rgoto rfl rfl ?_
        exact am_eret rfl rfl hI46
    · refine am_raload_n rfl rfl rfl ?_
      refine am_riconst rfl ?_
      refine am_evirtualV (m := am_m44) (As := [.ref (y1), am_iv 2]) (S1 := []) rfl rfl rfl rfl rfl rfl rfl rfl (am_rcM hp0 rfl) rfl (am_TE.void (am_ct44 (c := y1) (y1 := 2) (by omega) hI9 hp0 (by omega)) (fun f47 a47 hq48 => ?_) (fun _ _ _ h => h))
      have hI49 := hq48
      refine am_rgoto rfl rfl ?_
      exact am_eret rfl rfl hI49
  · refine am_raload_n rfl rfl rfl ?_
    refine am_riconst rfl ?_
    refine am_evirtualV (m := am_m44) (As := [.ref (y1), am_iv 1]) (S1 := []) rfl rfl rfl rfl rfl rfl rfl rfl (am_rcM hp0 rfl) rfl (am_TE.void (am_ct44 (c := y1) (y1 := 1) (by omega) hI4 hp0 (by omega)) (fun f50 a50 hq51 => ?_) (fun _ _ _ h => h))
    have hI52 := hq51
    refine am_rgoto rfl rfl ?_
    exact am_eret rfl rfl hI52
set_option maxRecDepth 100000 in
set_option maxHeartbeats 4000000 in
theorem am_ct35 {X : List Value} {w : Value} {e : Nat} {g : aF} {h : aA} {p : Bool} {d : Nat} {f : aF} {a : aA} (hd : 24 ≤ d) (hI : am_IV p g h f a) :
    am_TE X d am_m35 0 (lv_args 0 [.ref 12]) [] f a w e (am_QV (fun f1 a1 => am_IV p g h f1 a1)) (am_EC g h) := by
  obtain ⟨d, rfl⟩ : ∃ d0, d = d0 + 1 := ⟨d - 1, by omega⟩
  refine am_raload_n rfl rfl rfl ?_
  refine am_rgetf (S1 := [.ref 2]) rfl rfl ?_
  have q1 := am_Ig201 hI
  refine am_evirtualV (m := am_m79) (As := [.ref 2]) (S1 := []) rfl rfl rfl rfl rfl rfl rfl rfl rfl rfl (am_TE.void (am_ct79  (by omega) hI) (fun f2 a2 hq3 => ?_) (fun _ _ _ h => h))
  obtain ⟨hI4, hq3⟩ := hq3
  refine am_raload_n rfl rfl rfl ?_
  refine am_rgetf (S1 := [.ref 13]) rfl rfl ?_
  refine am_raload_n rfl rfl rfl ?_
  refine am_rgetf (S1 := [.ref 2, .ref 13]) rfl rfl ?_
  have q5 := am_Ig201 hI4
  refine am_evirtualI (m := am_m75) (As := [.ref 2]) (S1 := [.ref 13]) rfl rfl rfl rfl rfl rfl rfl rfl rfl rfl (am_TE.int (am_ct75  (by omega) hI4) (fun b6 f6 a6 hq7 => ?_) (fun _ _ _ h => h))
  obtain ⟨hI8, hq7⟩ := hq7
  refine am_rbipush rfl (by decide) ?_
  refine am_risub rfl ?_
  have hx10 : 0 ≤ (b6 - 97) ∧ (b6 - 97) < 26 := by omega
  have hM9 := am_isMx hx10.1 hx10.2
  refine am_raaload rfl (am_mods hx10.1 hx10.2) ?_
  refine am_rastore_n (L1 := [(0, .ref 12), (1, .ref (28 + 3 * (b6 - 97).toNat))]) rfl rfl rfl rfl rfl ?_
  refine am_raload_n rfl rfl rfl ?_
  refine am_rgetf (S1 := [.ref 2]) rfl rfl ?_
  have q11 := am_Ig201 hI8
  refine am_evirtualV (m := am_m79) (As := [.ref 2]) (S1 := []) rfl rfl rfl rfl rfl rfl rfl rfl rfl rfl (am_TE.void (am_ct79  (by omega) hI8) (fun f12 a12 hq13 => ?_) (fun _ _ _ h => h))
  obtain ⟨hI14, hq13⟩ := hq13
  refine am_raload_n rfl rfl rfl ?_
  have q15 := am_IgM0 hM9 hI14
  refine am_rgetf rfl (am_gfM0 hM9 rfl) ?_
  refine am_rif_ne rfl rfl (by unfold am_rg; omega) (fun hc16 => ?_) (fun hc16 => ?_)
  · refine am_raload_n rfl rfl rfl ?_
    refine am_rgetf (S1 := [.ref 27]) rfl rfl ?_
    refine am_raload_n rfl rfl rfl ?_
    refine am_rgetf (S1 := [.ref 14, .ref 27]) rfl rfl ?_
    refine am_evirtualV (m := am_m53) (As := [.ref 27, .ref 14]) (S1 := []) rfl rfl rfl rfl rfl rfl rfl rfl rfl rfl (am_TE.void (am_ct53 (y1 := 14) (by omega) hI14 (Or.inl rfl)) (fun f17 a17 hq18 => ?_) (fun _ _ _ h => h))
    have hI19 := hq18
    refine am_raload_n rfl rfl rfl ?_
    refine am_riconst rfl ?_
    refine am_rputf (S1 := []) (h1 := am_enc (am_ud f17 1208 1) a17 w e) rfl (am_pfB rfl am_ge12 rfl (am_sf1208 _)) (by rw [am_enc_len, am_enc_len]) ?_
    refine am_raload_n rfl rfl rfl ?_
    have J20 := am_If1208 (v := 1) hI19 (by omega) (by omega)
    refine am_evirtualV (m := am_m42) (As := [.ref 12]) (S1 := []) rfl rfl rfl rfl rfl rfl rfl rfl rfl rfl (am_TE.void (am_ct42  (by omega) J20) (fun f21 a21 hq22 => ?_) (fun _ _ _ h => h))
    have hI23 := hq22
    exact am_eret rfl rfl hI23
  · refine am_raload_n rfl rfl rfl ?_
    refine am_rgetf (S1 := [.ref 27]) rfl rfl ?_
    refine am_raload_n rfl rfl rfl ?_
    refine am_evirtualV (m := am_m53) (As := [.ref 27, .ref (28 + 3 * (b6 - 97).toNat)]) (S1 := []) rfl rfl rfl rfl rfl rfl rfl rfl rfl rfl (am_TE.void (am_ct53 (y1 := (28 + 3 * (b6 - 97).toNat)) (by omega) hI14 hM9) (fun f24 a24 hq25 => ?_) (fun _ _ _ h => h))
    have hI26 := hq25
    refine am_rgoto rfl rfl ?_
    refine am_raload_n rfl rfl rfl ?_
    refine am_evirtualV (m := am_m42) (As := [.ref 12]) (S1 := []) rfl rfl rfl rfl rfl rfl rfl rfl rfl rfl (am_TE.void (am_ct42  (by omega) hI26) (fun f27 a27 hq28 => ?_) (fun _ _ _ h => h))
    have hI29 := hq28
    exact am_eret rfl rfl hI29
set_option maxRecDepth 100000 in
set_option maxHeartbeats 4000000 in
theorem am_ct31_33 {X : List Value} {w : Value} {e : Nat} {g : aF} {h : aA} {d : Nat} (hd : 25 ≤ d + 1) (n : Nat) :
    ∀ {f : aF} {a : aA} {x1 : Int}, (1000000 - x1).toNat < n → am_IV true g h f a → (-2147483648 ≤ x1 ∧ x1 ≤ 2147483647) → 0 ≤ x1 → am_TE X (d + 1) am_m31 33 [(0, .ref 12), (1, am_iv x1)] [] f a w e (am_QV (fun f1 a1 => am_IV true g h f1 a1)) (am_EC g h) := by
  induction n with
  | zero => intros; omega
  | succ n ih =>
    intro f a x1 hn hI hp0 hp1
    refine am_riload_n rfl rfl rfl ?_
    refine am_rldc (x := 1000000) rfl rfl (by decide) ?_
    refine am_ric_ge rfl rfl (by unfold am_rg; omega) (by unfold am_rg; omega) (fun hc1 => ?_) (fun hc1 => ?_)
    · refine am_raload_n rfl rfl rfl ?_
      refine am_rgetf (S1 := [.ref 2]) rfl rfl ?_
      have q2 := am_Ig201 hI
      refine am_evirtualI (m := am_m78) (As := [.ref 2]) (S1 := []) rfl rfl rfl rfl rfl rfl rfl rfl rfl rfl (am_TE.int (am_ct78  (by omega) hI) (fun b3 f3 a3 hq4 => ?_) (fun _ _ _ h => h))
      obtain ⟨hI5, hq4⟩ := hq4
      refine am_rpop rfl rfl ?_
      refine am_raload_n rfl rfl rfl ?_
      refine am_rgetf (S1 := [.ref 2]) rfl rfl ?_
      refine am_rbipush rfl (by decide) ?_
      have q6 := am_Ig201 hI5
      refine am_evirtualV (m := am_m74) (As := [.ref 2, am_iv 62]) (S1 := []) rfl rfl rfl rfl rfl rfl rfl rfl rfl rfl (am_TE.void (am_ct74 (y1 := 62) (by omega) hI5 (by omega)) (fun f7 a7 hq8 => ?_) (fun _ _ _ h => h))
      obtain ⟨hI9, hq8⟩ := hq8
      refine am_raload_n rfl rfl rfl ?_
      refine am_rgetf (S1 := [.ref 2]) rfl rfl ?_
      have q10 := am_Ig201 hI9
      refine am_evirtualV (m := am_m82) (As := [.ref 2]) (S1 := []) rfl rfl rfl rfl rfl rfl rfl rfl rfl rfl (am_TE.void (am_ct82  (by omega) hI9) (fun f11 a11 hq12 => ?_) (fun _ _ _ h => h))
      obtain ⟨hI13, hq12⟩ := hq12
      exact am_eret rfl rfl hI13
    · refine am_raload_n rfl rfl rfl ?_
      refine am_rgetf (S1 := [.ref 2]) rfl rfl ?_
      refine am_rldcs rfl rfl rfl ?_
      have q14 := am_Ig201 hI
      refine am_evirtualI (m := am_m77) (As := [.ref 2, .ref (1000000 + 8)]) (S1 := []) rfl rfl rfl rfl rfl rfl rfl rfl rfl rfl (am_TE.int (am_ct77  (by omega) hI (by decide)) (fun b15 f15 a15 hq16 => ?_) (fun _ _ _ h => h))
      obtain ⟨hI17, hq16⟩ := hq16
      refine am_rif_ne rfl rfl (by unfold am_rg; omega) (fun hc18 => ?_) (fun hc18 => ?_)
      · refine am_raload_n rfl rfl rfl ?_
        refine am_rgetf (S1 := [.ref 2]) rfl rfl ?_
        have q19 := am_Ig201 hI17
        refine am_evirtualI (m := am_m78) (As := [.ref 2]) (S1 := []) rfl rfl rfl rfl rfl rfl rfl rfl rfl rfl (am_TE.int (am_ct78  (by omega) hI17) (fun b20 f20 a20 hq21 => ?_) (fun _ _ _ h => h))
        obtain ⟨hI22, hq21⟩ := hq21
        refine am_rpop rfl rfl ?_
        refine am_raload_n rfl rfl rfl ?_
        refine am_rgetf (S1 := [.ref 2]) rfl rfl ?_
        refine am_rbipush rfl (by decide) ?_
        have q23 := am_Ig201 hI22
        refine am_evirtualV (m := am_m74) (As := [.ref 2, am_iv 62]) (S1 := []) rfl rfl rfl rfl rfl rfl rfl rfl rfl rfl (am_TE.void (am_ct74 (y1 := 62) (by omega) hI22 (by omega)) (fun f24 a24 hq25 => ?_) (fun _ _ _ h => h))
        obtain ⟨hI26, hq25⟩ := hq25
        refine am_raload_n rfl rfl rfl ?_
        refine am_rgetf (S1 := [.ref 2]) rfl rfl ?_
        have q27 := am_Ig201 hI26
        refine am_evirtualV (m := am_m82) (As := [.ref 2]) (S1 := []) rfl rfl rfl rfl rfl rfl rfl rfl rfl rfl (am_TE.void (am_ct82  (by omega) hI26) (fun f28 a28 hq29 => ?_) (fun _ _ _ h => h))
        obtain ⟨hI30, hq29⟩ := hq29
        exact am_eret rfl rfl hI30
      · refine am_raload_n rfl rfl rfl ?_
        refine am_rgetf (S1 := [.ref 2]) rfl rfl ?_
        refine am_rldcs rfl rfl rfl ?_
        have q31 := am_Ig201 hI17
        refine am_evirtualI (m := am_m77) (As := [.ref 2, .ref (1000000 + 9)]) (S1 := []) rfl rfl rfl rfl rfl rfl rfl rfl rfl rfl (am_TE.int (am_ct77  (by omega) hI17 (by decide)) (fun b32 f32 a32 hq33 => ?_) (fun _ _ _ h => h))
        obtain ⟨hI34, hq33⟩ := hq33
        refine am_rif_eq rfl rfl (by unfold am_rg; omega) (fun hc35 => ?_) (fun hc35 => ?_)
        · refine am_raload_n rfl rfl rfl ?_
          refine am_rgetf (S1 := [.ref 2]) rfl rfl ?_
          refine am_rldcs rfl rfl rfl ?_
          have q36 := am_Ig201 hI34
          refine am_evirtualI (m := am_m77) (As := [.ref 2, .ref (1000000 + 16)]) (S1 := []) rfl rfl rfl rfl rfl rfl rfl rfl rfl rfl (am_TE.int (am_ct77  (by omega) hI34 (by decide)) (fun b37 f37 a37 hq38 => ?_) (fun _ _ _ h => h))
          obtain ⟨hI39, hq38⟩ := hq38
          refine am_rif_eq rfl rfl (by unfold am_rg; omega) (fun hc40 => ?_) (fun hc40 => ?_)
          · refine am_raload_n rfl rfl rfl ?_
            refine am_rgetf (S1 := [.ref 2]) rfl rfl ?_
            refine am_rldcs rfl rfl rfl ?_
            have q41 := am_Ig201 hI39
            refine am_evirtualI (m := am_m77) (As := [.ref 2, .ref (1000000 + 28)]) (S1 := []) rfl rfl rfl rfl rfl rfl rfl rfl rfl rfl (am_TE.int (am_ct77  (by omega) hI39 (by decide)) (fun b42 f42 a42 hq43 => ?_) (fun _ _ _ h => h))
            obtain ⟨hI44, hq43⟩ := hq43
            refine am_rif_eq rfl rfl (by unfold am_rg; omega) (fun hc45 => ?_) (fun hc45 => ?_)
            · refine am_raload_n rfl rfl rfl ?_
              refine am_rgetf (S1 := [.ref 2]) rfl rfl ?_
              have q46 := am_Ig201 hI44
              refine am_evirtualI (m := am_m81) (As := [.ref 2]) (S1 := []) rfl rfl rfl rfl rfl rfl rfl rfl rfl rfl (am_TE.int (am_ct81  (by omega) hI44) (fun b47 f47 a47 hq48 => ?_) (fun _ _ _ h => h))
              obtain ⟨hI49, hq48⟩ := hq48
              refine am_rif_ne rfl rfl (by unfold am_rg; omega) (fun hc50 => ?_) (fun hc50 => ?_)
              · refine am_riinc (L1 := [(0, .ref 12), (1, am_iv (x1 + 1))]) rfl rfl rfl rfl rfl ?_
                refine am_rgoto rfl rfl ?_
                exact ih (by omega) hI49 (by omega) (by omega)
              · refine am_raload_n rfl rfl rfl ?_
                refine am_rgetf (S1 := [.ref 2]) rfl rfl ?_
                have q51 := am_Ig201 hI49
                refine am_evirtualV (m := am_m79) (As := [.ref 2]) (S1 := []) rfl rfl rfl rfl rfl rfl rfl rfl rfl rfl (am_TE.void (am_ct79  (by omega) hI49) (fun f52 a52 hq53 => ?_) (fun _ _ _ h => h))
                obtain ⟨hI54, hq53⟩ := hq53
                refine am_riinc (L1 := [(0, .ref 12), (1, am_iv (x1 + 1))]) rfl rfl rfl rfl rfl ?_
                refine am_rgoto rfl rfl ?_
                exact ih (by omega) hI54 (by omega) (by omega)
            · refine am_raload_n rfl rfl rfl ?_
              refine am_evirtualV (m := am_m36) (As := [.ref 12]) (S1 := []) rfl rfl rfl rfl rfl rfl rfl rfl rfl rfl (am_TE.void (am_ct36  (by omega) hI44) (fun f55 a55 hq56 => ?_) (fun _ _ _ h => h))
              have hI57 := hq56
              refine am_rgoto rfl rfl ?_
              refine am_riinc (L1 := [(0, .ref 12), (1, am_iv (x1 + 1))]) rfl rfl rfl rfl rfl ?_
              refine am_rgoto rfl rfl ?_
              exact ih (by omega) hI57 (by omega) (by omega)
          · refine am_raload_n rfl rfl rfl ?_
            refine am_evirtualV (m := am_m37) (As := [.ref 12]) (S1 := []) rfl rfl rfl rfl rfl rfl rfl rfl rfl rfl (am_TE.void (am_ct37  (by omega) hI39) (fun f58 a58 hq59 => ?_) (fun _ _ _ h => h))
            have hI60 := hq59
            refine am_rgoto rfl rfl ?_
            refine am_riinc (L1 := [(0, .ref 12), (1, am_iv (x1 + 1))]) rfl rfl rfl rfl rfl ?_
            refine am_rgoto rfl rfl ?_
            exact ih (by omega) hI60 (by omega) (by omega)
        · refine am_raload_n rfl rfl rfl ?_
          refine am_evirtualV (m := am_m35) (As := [.ref 12]) (S1 := []) rfl rfl rfl rfl rfl rfl rfl rfl rfl rfl (am_TE.void (am_ct35  (by omega) hI34) (fun f61 a61 hq62 => ?_) (fun _ _ _ h => h))
          have hI63 := hq62
          refine am_rgoto rfl rfl ?_
          refine am_riinc (L1 := [(0, .ref 12), (1, am_iv (x1 + 1))]) rfl rfl rfl rfl rfl ?_
          refine am_rgoto rfl rfl ?_
          exact ih (by omega) hI63 (by omega) (by omega)
set_option maxRecDepth 100000 in
set_option maxHeartbeats 4000000 in
theorem am_ct31 {X : List Value} {w : Value} {e : Nat} {g : aF} {h : aA} {d : Nat} {f : aF} {a : aA} (hd : 25 ≤ d) (hI : am_IV true g h f a) :
    am_TE X d am_m31 0 (lv_args 0 [.ref 12]) [] f a w e (am_QV (fun f1 a1 => am_IV true g h f1 a1)) (am_EC g h) := by
  obtain ⟨d, rfl⟩ : ∃ d0, d = d0 + 1 := ⟨d - 1, by omega⟩
  refine am_raload_n rfl rfl rfl ?_
  refine am_evirtualV (m := am_m32) (As := [.ref 12]) (S1 := []) rfl rfl rfl rfl rfl rfl rfl rfl rfl rfl (am_TE.void (am_ct32  (by omega) hI) (fun f1 a1 hq2 => ?_) (fun _ _ _ h => h))
  have hI3 := hq2
  refine am_raload_n rfl rfl rfl ?_
  refine am_rgetf (S1 := [.ref 2]) rfl rfl ?_
  have q4 := am_Ig201 hI3
  refine am_evirtualV (m := am_m82) (As := [.ref 2]) (S1 := []) rfl rfl rfl rfl rfl rfl rfl rfl rfl rfl (am_TE.void (am_ct82  (by omega) hI3) (fun f5 a5 hq6 => ?_) (fun _ _ _ h => h))
  obtain ⟨hI7, hq6⟩ := hq6
  refine am_raload_n rfl rfl rfl ?_
  refine am_rgetf (S1 := [.ref 2]) rfl rfl ?_
  refine am_rldcs rfl rfl rfl ?_
  have q8 := am_Ig201 hI7
  refine am_evirtualI (m := am_m77) (As := [.ref 2, .ref (1000000 + 4)]) (S1 := []) rfl rfl rfl rfl rfl rfl rfl rfl rfl rfl (am_TE.int (am_ct77  (by omega) hI7 (by decide)) (fun b9 f9 a9 hq10 => ?_) (fun _ _ _ h => h))
  obtain ⟨hI11, hq10⟩ := hq10
  refine am_rif_ne rfl rfl (by unfold am_rg; omega) (fun hc12 => ?_) (fun hc12 => ?_)
  · refine am_raload_n rfl rfl rfl ?_
    refine am_evirtualI (m := am_m33) (As := [.ref 12]) (S1 := []) rfl rfl rfl rfl rfl rfl rfl rfl rfl rfl (am_TE.int (am_ct33  (by omega) hI11) (fun b13 f13 a13 hq14 => ?_) (fun _ _ _ h => h))
    obtain ⟨hI15, hq14⟩ := hq14
    refine am_rif_eq rfl rfl (by unfold am_rg; omega) (fun hc16 => ?_) (fun hc16 => ?_)
    · refine am_raload_n rfl rfl rfl ?_
      refine am_rgetf (S1 := [.ref 2]) rfl rfl ?_
      refine am_rbipush rfl (by decide) ?_
      have q17 := am_Ig201 hI15
      refine am_evirtualV (m := am_m74) (As := [.ref 2, am_iv 62]) (S1 := []) rfl rfl rfl rfl rfl rfl rfl rfl rfl rfl (am_TE.void (am_ct74 (y1 := 62) (by omega) hI15 (by omega)) (fun f18 a18 hq19 => ?_) (fun _ _ _ h => h))
      obtain ⟨hI20, hq19⟩ := hq19
      refine am_raload_n rfl rfl rfl ?_
      refine am_rgetf (S1 := [.ref 2]) rfl rfl ?_
      have q21 := am_Ig201 hI20
      refine am_evirtualV (m := am_m82) (As := [.ref 2]) (S1 := []) rfl rfl rfl rfl rfl rfl rfl rfl rfl rfl (am_TE.void (am_ct82  (by omega) hI20) (fun f22 a22 hq23 => ?_) (fun _ _ _ h => h))
      obtain ⟨hI24, hq23⟩ := hq23
      exact am_eret rfl rfl hI24
    · refine am_riconst rfl ?_
      refine am_ristore_n (L1 := [(0, .ref 12), (1, am_iv 0)]) rfl rfl rfl rfl rfl ?_
      exact am_ct31_33 hd (_ + 1) (Nat.lt_succ_self _) hI15 (by omega) (by omega)
  · exact am_eret rfl rfl hI11
