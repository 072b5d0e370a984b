/-! RULES OF THE METHODS (by program: wip/p2/lift.py) -/
set_option maxRecDepth 100000 in
set_option maxHeartbeats 4000000 in
theorem am_w113 {X : List Value} {d : Nat} {f : aF} {a : aA} {w : Value} {e : Nat} {P : Int → aF → aA → Prop} {E : Nat → aF → aA → Prop} {y1 : Int}
    (hG : P 0 (am_ud f 11700 y1) a) :
    am_TE X (d + 1) am_m112 0 [(0, .ref 117), (1, am_iv y1)] [] f a w e (am_QI P) E := by
  refine am_raload_n rfl rfl rfl ?_
  refine am_riload_n rfl rfl rfl ?_
  refine am_rputf (S1 := []) (h1 := am_enc (am_ud f 11700 y1) a w e) rfl (am_pfB rfl am_ge117 rfl (am_sf11700 _)) (by rw [am_enc_len, am_enc_len]) ?_
  refine am_riconst rfl ?_
  exact am_eiret rfl rfl hG
/-! RULES OF THE METHODS (by program: wip/p2/lift.py) -/
set_option maxRecDepth 100000 in
set_option maxHeartbeats 4000000 in
theorem am_w115 {X : List Value} {d : Nat} {f : aF} {a : aA} {w : Value} {e : Nat} {P : Int → aF → aA → Prop} {E : Nat → aF → aA → Prop} {y1 : Int64} {y2 : Int}
    (hG : (am_rg y2 ∧ (y2 < 1 → am_TE X d am_m112 0 (lv_args 0 [.ref 117, am_iv 1]) [] (am_ud f 11700 0) a w e (am_QI (fun b1 f1 a1 => P b1 f1 a1)) E) ∧ (1 ≤ y2 → (am_rg y2 ∧ (y2 ≤ 8 → (am_rg ((f 11707) + y2) ∧ (((f 11707) + y2) ≤ 360 → am_TE X (d + 1) am_m114 43 [(0, .ref 117), (1, .long (y1)), (3, am_iv y2), (4, am_iv 0)] [] (am_ud f 11700 0) a w e (am_QI P) E) ∧ (360 < ((f 11707) + y2) → am_TE X d am_m112 0 (lv_args 0 [.ref 117, am_iv 2]) [] (am_ud f 11700 0) a w e (am_QI (fun b2 f2 a2 => P b2 f2 a2)) E))) ∧ (8 < y2 → am_TE X d am_m112 0 (lv_args 0 [.ref 117, am_iv 1]) [] (am_ud f 11700 0) a w e (am_QI (fun b3 f3 a3 => P b3 f3 a3)) E))))) :
    am_TE X (d + 1) am_m114 0 [(0, .ref 117), (1, .long (y1)), (3, am_iv y2)] [] f a w e (am_QI P) E := by
  refine am_raload_n rfl rfl rfl ?_
  refine am_riconst rfl ?_
  refine am_rputf (S1 := []) (h1 := am_enc (am_ud f 11700 0) a w e) rfl (am_pfB rfl am_ge117 rfl (am_sf11700 _)) (by rw [am_enc_len, am_enc_len]) ?_
  refine am_riload_n rfl rfl rfl ?_
  refine am_riconst rfl ?_
  obtain ⟨r1, hT, hF⟩ := hG
  refine am_ric_lt rfl rfl r1 (by unfold am_rg; omega) (fun hc => ?_) (fun hc => ?_)
  · replace hG := hT hc
    refine am_raload_n rfl rfl rfl ?_
    refine am_riconst rfl ?_
    refine am_evirtualI (m := am_m112) (As := [.ref 117, am_iv 1]) (S1 := []) rfl rfl rfl rfl rfl rfl rfl rfl rfl rfl (am_TE.int hG (fun b1 f1 a1 hG => ?_) (fun _ _ _ h => h))
    exact am_eiret rfl rfl hG
  · replace hG := hF hc
    refine am_riload_n rfl rfl rfl ?_
    refine am_rbipush rfl (by decide) ?_
    obtain ⟨r1, hT, hF⟩ := hG
    refine am_ric_le rfl rfl r1 (by unfold am_rg; omega) (fun hc => ?_) (fun hc => ?_)
    · replace hG := hT hc
      refine am_raload_n rfl rfl rfl ?_
      refine am_rgetf (S1 := [am_iv (f 11707)]) rfl rfl ?_
      refine am_riload_n rfl rfl rfl ?_
      refine am_riadd rfl ?_
      refine am_rsipush rfl (by decide) ?_
      obtain ⟨r1, hT, hF⟩ := hG
      refine am_ric_le rfl rfl r1 (by unfold am_rg; omega) (fun hc => ?_) (fun hc => ?_)
      · replace hG := hT hc
        refine am_riconst rfl ?_
        refine am_ristore (L1 := [(0, .ref 117), (1, .long (y1)), (3, am_iv y2), (4, am_iv 0)]) rfl rfl rfl rfl rfl ?_
        exact hG
      · replace hG := hF hc
        refine am_raload_n rfl rfl rfl ?_
        refine am_riconst rfl ?_
        refine am_evirtualI (m := am_m112) (As := [.ref 117, am_iv 2]) (S1 := []) rfl rfl rfl rfl rfl rfl rfl rfl rfl rfl (am_TE.int hG (fun b2 f2 a2 hG => ?_) (fun _ _ _ h => h))
        exact am_eiret rfl rfl hG
    · replace hG := hF hc
      refine am_raload_n rfl rfl rfl ?_
      refine am_riconst rfl ?_
      refine am_evirtualI (m := am_m112) (As := [.ref 117, am_iv 1]) (S1 := []) rfl rfl rfl rfl rfl rfl rfl rfl rfl rfl (am_TE.int hG (fun b3 f3 a3 hG => ?_) (fun _ _ _ h => h))
      exact am_eiret rfl rfl hG
set_option maxRecDepth 100000 in
set_option maxHeartbeats 4000000 in
theorem am_w115_43 {X : List Value} {d : Nat} {f : aF} {a : aA} {w : Value} {e : Nat} {P : Int → aF → aA → Prop} {E : Nat → aF → aA → Prop} {x1 : Int64} {x3 : Int} {x4 : Int}
    (hG : (am_rg x4 ∧ am_rg x3 ∧ (x3 ≤ x4 → P ((f 11707) + x3) (am_ud f 11707 ((f 11707) + x3)) a) ∧ (x4 < x3 → (am_ib (a 119) ((f 11707) + x4) ∧ am_TE X (d + 1) am_m114 43 [(0, .ref 117), (1, .long (x1)), (3, am_iv x3), (4, am_iv (x4 + 1))] [] f (am_ud a 119 ((a 119).set ((f 11707) + x4).toNat (((x1 >>> ((Int32.ofInt (8 * x4)).toInt64 &&& 63)) &&& 255).toInt32.toInt))) w e (am_QI P) E)))) :
    am_TE X (d + 1) am_m114 43 [(0, .ref 117), (1, .long (x1)), (3, am_iv x3), (4, am_iv x4)] [] f a w e (am_QI P) E := by
  refine am_riload rfl rfl rfl ?_
  refine am_riload_n rfl rfl rfl ?_
  obtain ⟨r1, r2, hT, hF⟩ := hG
  refine am_ric_ge rfl rfl r1 r2 (fun hc => ?_) (fun hc => ?_)
  · replace hG := hT hc
    refine am_raload_n rfl rfl rfl ?_
    refine am_rdup rfl rfl ?_
    refine am_rgetf (S1 := [am_iv (f 11707), .ref 117]) rfl rfl ?_
    refine am_riload_n rfl rfl rfl ?_
    refine am_riadd rfl ?_
    refine am_rputf (S1 := []) (h1 := am_enc (am_ud f 11707 ((f 11707) + x3)) a w e) rfl (am_pfB rfl am_ge117 rfl (am_sf11707 _)) (by rw [am_enc_len, am_enc_len]) ?_
    refine am_raload_n rfl rfl rfl ?_
    refine am_rgetf (S1 := [am_iv ((f 11707) + x3)]) rfl rfl ?_
    exact am_eiret rfl rfl hG
  · replace hG := hF hc
    refine am_raload_n rfl rfl rfl ?_
    refine am_rgetf (S1 := [.ref 119]) rfl rfl ?_
    refine am_raload_n rfl rfl rfl ?_
    refine am_rgetf (S1 := [am_iv (f 11707), .ref 119]) rfl rfl ?_
    refine am_riload rfl rfl rfl ?_
    refine am_riadd rfl ?_
    refine am_rlload_n rfl rfl rfl ?_
    refine am_rbipush rfl (by decide) ?_
    refine am_riload rfl rfl rfl ?_
    refine am_rimul rfl ?_
    refine am_rlshr rfl ?_
    refine am_rldc2 rfl rfl ?_
    refine am_rland rfl ?_
    refine am_rl2i rfl ?_
    obtain ⟨hi, hG⟩ := hG
    refine am_riastore (l := a 119) (h1 := am_enc f (am_ud a 119 ((a 119).set ((f 11707) + x4).toNat (((x1 >>> ((Int32.ofInt (8 * x4)).toInt64 &&& 63)) &&& 255).toInt32.toInt))) w e) rfl am_ge119 hi (am_sa119 _) ?_
    refine am_riinc (L1 := [(0, .ref 117), (1, .long (x1)), (3, am_iv x3), (4, am_iv (x4 + 1))]) rfl rfl rfl rfl rfl ?_
    refine am_rgoto rfl rfl ?_
    exact hG
set_option maxRecDepth 100000 in
set_option maxHeartbeats 4000000 in
theorem am_w116 {X : List Value} {d : Nat} {f : aF} {a : aA} {w : Value} {e : Nat} {P : Int → aF → aA → Prop} {E : Nat → aF → aA → Prop}
    (hG : P (f 11707) (am_ud (am_ud f 11700 0) 11707 0) a) :
    am_TE X (d + 1) am_m115 0 [(0, .ref 117)] [] f a w e (am_QI P) E := by
  refine am_raload_n rfl rfl rfl ?_
  refine am_riconst rfl ?_
  refine am_rputf (S1 := []) (h1 := am_enc (am_ud f 11700 0) a w e) rfl (am_pfB rfl am_ge117 rfl (am_sf11700 _)) (by rw [am_enc_len, am_enc_len]) ?_
  refine am_raload_n rfl rfl rfl ?_
  refine am_rgetf (S1 := [am_iv (f 11707)]) rfl rfl ?_
  refine am_ristore_n (L1 := [(0, .ref 117), (1, am_iv (f 11707))]) rfl rfl rfl rfl rfl ?_
  refine am_raload_n rfl rfl rfl ?_
  refine am_riconst rfl ?_
  refine am_rputf (S1 := []) (h1 := am_enc (am_ud (am_ud f 11700 0) 11707 0) a w e) rfl (am_pfB rfl am_ge117 rfl (am_sf11707 _)) (by rw [am_enc_len, am_enc_len]) ?_
  refine am_riload_n rfl rfl rfl ?_
  exact am_eiret rfl rfl hG
/-! RULES OF THE METHODS (by program: wip/p2/lift.py) -/
set_option maxRecDepth 100000 in
set_option maxHeartbeats 4000000 in
theorem am_w173 {X : List Value} {d : Nat} {f : aF} {a : aA} {w : Value} {e : Nat} {P : aF → aA → Prop} {E : Nat → aF → aA → Prop}
    (hG : am_TE X (d + 1) am_m172 52 [(0, .ref 117), (1, am_iv 0)] [] (am_ud (am_ud (am_ud (am_ud (am_ud (am_ud (am_ud (am_ud (am_ud (am_ud f 11701 0) 11703 0) 11704 0) 11757 0) 11763 0) 11718 0) 11723 0) 11741 0) 11750 0) 11753 0) a w e (am_QV P) E) :
    am_TE X (d + 1) am_m172 0 [(0, .ref 117)] [] f a w e (am_QV P) E := by
  refine am_raload_n rfl rfl rfl ?_
  refine am_riconst rfl ?_
  refine am_rputf (S1 := []) (h1 := am_enc (am_ud f 11701 0) a w e) rfl (am_pfB rfl am_ge117 rfl (am_sf11701 _)) (by rw [am_enc_len, am_enc_len]) ?_
  refine am_raload_n rfl rfl rfl ?_
  refine am_riconst rfl ?_
  refine am_rputf (S1 := []) (h1 := am_enc (am_ud (am_ud f 11701 0) 11703 0) a w e) rfl (am_pfB rfl am_ge117 rfl (am_sf11703 _)) (by rw [am_enc_len, am_enc_len]) ?_
  refine am_raload_n rfl rfl rfl ?_
  refine am_riconst rfl ?_
  refine am_rputf (S1 := []) (h1 := am_enc (am_ud (am_ud (am_ud f 11701 0) 11703 0) 11704 0) a w e) rfl (am_pfB rfl am_ge117 rfl (am_sf11704 _)) (by rw [am_enc_len, am_enc_len]) ?_
  refine am_raload_n rfl rfl rfl ?_
  refine am_riconst rfl ?_
  refine am_rputf (S1 := []) (h1 := am_enc (am_ud (am_ud (am_ud (am_ud f 11701 0) 11703 0) 11704 0) 11757 0) a w e) rfl (am_pfB rfl am_ge117 rfl (am_sf11757 _)) (by rw [am_enc_len, am_enc_len]) ?_
  refine am_raload_n rfl rfl rfl ?_
  refine am_riconst rfl ?_
  refine am_rputf (S1 := []) (h1 := am_enc (am_ud (am_ud (am_ud (am_ud (am_ud f 11701 0) 11703 0) 11704 0) 11757 0) 11763 0) a w e) rfl (am_pfB rfl am_ge117 rfl (am_sf11763 _)) (by rw [am_enc_len, am_enc_len]) ?_
  refine am_raload_n rfl rfl rfl ?_
  refine am_riconst rfl ?_
  refine am_rputf (S1 := []) (h1 := am_enc (am_ud (am_ud (am_ud (am_ud (am_ud (am_ud f 11701 0) 11703 0) 11704 0) 11757 0) 11763 0) 11718 0) a w e) rfl (am_pfB rfl am_ge117 rfl (am_sf11718 _)) (by rw [am_enc_len, am_enc_len]) ?_
  refine am_raload_n rfl rfl rfl ?_
  refine am_riconst rfl ?_
  refine am_rputf (S1 := []) (h1 := am_enc (am_ud (am_ud (am_ud (am_ud (am_ud (am_ud (am_ud f 11701 0) 11703 0) 11704 0) 11757 0) 11763 0) 11718 0) 11723 0) a w e) rfl (am_pfB rfl am_ge117 rfl (am_sf11723 _)) (by rw [am_enc_len, am_enc_len]) ?_
  refine am_raload_n rfl rfl rfl ?_
  refine am_riconst rfl ?_
  refine am_rputf (S1 := []) (h1 := am_enc (am_ud (am_ud (am_ud (am_ud (am_ud (am_ud (am_ud (am_ud f 11701 0) 11703 0) 11704 0) 11757 0) 11763 0) 11718 0) 11723 0) 11741 0) a w e) rfl (am_pfB rfl am_ge117 rfl (am_sf11741 _)) (by rw [am_enc_len, am_enc_len]) ?_
  refine am_raload_n rfl rfl rfl ?_
  refine am_riconst rfl ?_
  refine am_rputf (S1 := []) (h1 := am_enc (am_ud (am_ud (am_ud (am_ud (am_ud (am_ud (am_ud (am_ud (am_ud f 11701 0) 11703 0) 11704 0) 11757 0) 11763 0) 11718 0) 11723 0) 11741 0) 11750 0) a w e) rfl (am_pfB rfl am_ge117 rfl (am_sf11750 _)) (by rw [am_enc_len, am_enc_len]) ?_
  refine am_raload_n rfl rfl rfl ?_
  refine am_riconst rfl ?_
  refine am_rputf (S1 := []) (h1 := am_enc (am_ud (am_ud (am_ud (am_ud (am_ud (am_ud (am_ud (am_ud (am_ud (am_ud f 11701 0) 11703 0) 11704 0) 11757 0) 11763 0) 11718 0) 11723 0) 11741 0) 11750 0) 11753 0) a w e) rfl (am_pfB rfl am_ge117 rfl (am_sf11753 _)) (by rw [am_enc_len, am_enc_len]) ?_
  refine am_riconst rfl ?_
  refine am_ristore_n (L1 := [(0, .ref 117), (1, am_iv 0)]) rfl rfl rfl rfl rfl ?_
  exact hG
set_option maxRecDepth 100000 in
set_option maxHeartbeats 4000000 in
theorem am_w173_52 {X : List Value} {d : Nat} {f : aF} {a : aA} {w : Value} {e : Nat} {P : aF → aA → Prop} {E : Nat → aF → aA → Prop} {x1 : Int}
    (hG : (am_rg x1 ∧ (26 ≤ x1 → P f a) ∧ (x1 < 26 → (am_ib (a 121) x1 ∧ (am_ib (a 123) x1 ∧ (am_ib (a 132) x1 ∧ (am_ib (a 137) x1 ∧ (am_ib (a 139) x1 ∧ am_TE X (d + 1) am_m172 52 [(0, .ref 117), (1, am_iv (x1 + 1))] [] f (am_ud (am_ud (am_ud (am_ud (am_ud a 121 ((a 121).set x1.toNat ((-1)))) 123 ((a 123).set x1.toNat 0)) 132 ((a 132).set x1.toNat 0)) 137 ((a 137).set x1.toNat 0)) 139 ((a 139).set x1.toNat 0)) w e (am_QV P) E)))))))) :
    am_TE X (d + 1) am_m172 52 [(0, .ref 117), (1, am_iv x1)] [] f a w e (am_QV P) E := by
  refine am_riload_n rfl rfl rfl ?_
  refine am_rbipush rfl (by decide) ?_
  obtain ⟨r1, hT, hF⟩ := hG
  refine am_ric_ge rfl rfl r1 (by unfold am_rg; omega) (fun hc => ?_) (fun hc => ?_)
  · replace hG := hT hc
    exact am_eret rfl rfl hG
  · replace hG := hF hc
    refine am_raload_n rfl rfl rfl ?_
    refine am_rgetf (S1 := [.ref 121]) rfl rfl ?_
    refine am_riload_n rfl rfl rfl ?_
    refine am_riconst rfl ?_
    obtain ⟨hi, hG⟩ := hG
    refine am_riastore (l := a 121) (h1 := am_enc f (am_ud a 121 ((a 121).set x1.toNat ((-1)))) w e) rfl am_ge121 hi (am_sa121 _) ?_
    refine am_raload_n rfl rfl rfl ?_
    refine am_rgetf (S1 := [.ref 123]) rfl rfl ?_
    refine am_riload_n rfl rfl rfl ?_
    refine am_riconst rfl ?_
    obtain ⟨hi, hG⟩ := hG
    refine am_rbastore (l := a 123) (h1 := am_enc f (am_ud (am_ud a 121 ((a 121).set x1.toNat ((-1)))) 123 ((a 123).set x1.toNat 0)) w e) rfl am_ge123 hi (by omega) (am_sa123 _) ?_
    refine am_raload_n rfl rfl rfl ?_
    refine am_rgetf (S1 := [.ref 132]) rfl rfl ?_
    refine am_riload_n rfl rfl rfl ?_
    refine am_riconst rfl ?_
    obtain ⟨hi, hG⟩ := hG
    refine am_riastore (l := a 132) (h1 := am_enc f (am_ud (am_ud (am_ud a 121 ((a 121).set x1.toNat ((-1)))) 123 ((a 123).set x1.toNat 0)) 132 ((a 132).set x1.toNat 0)) w e) rfl am_ge132 hi (am_sa132 _) ?_
    refine am_raload_n rfl rfl rfl ?_
    refine am_rgetf (S1 := [.ref 137]) rfl rfl ?_
    refine am_riload_n rfl rfl rfl ?_
    refine am_riconst rfl ?_
    obtain ⟨hi, hG⟩ := hG
    refine am_riastore (l := a 137) (h1 := am_enc f (am_ud (am_ud (am_ud (am_ud a 121 ((a 121).set x1.toNat ((-1)))) 123 ((a 123).set x1.toNat 0)) 132 ((a 132).set x1.toNat 0)) 137 ((a 137).set x1.toNat 0)) w e) rfl am_ge137 hi (am_sa137 _) ?_
    refine am_raload_n rfl rfl rfl ?_
    refine am_rgetf (S1 := [.ref 139]) rfl rfl ?_
    refine am_riload_n rfl rfl rfl ?_
    refine am_riconst rfl ?_
    obtain ⟨hi, hG⟩ := hG
    refine am_rbastore (l := a 139) (h1 := am_enc f (am_ud (am_ud (am_ud (am_ud (am_ud a 121 ((a 121).set x1.toNat ((-1)))) 123 ((a 123).set x1.toNat 0)) 132 ((a 132).set x1.toNat 0)) 137 ((a 137).set x1.toNat 0)) 139 ((a 139).set x1.toNat 0)) w e) rfl am_ge139 hi (by omega) (am_sa139 _) ?_
    refine am_riinc (L1 := [(0, .ref 117), (1, am_iv (x1 + 1))]) rfl rfl rfl rfl rfl ?_
    refine am_rgoto rfl rfl ?_
    exact hG
set_option maxRecDepth 100000 in
set_option maxHeartbeats 4000000 in
theorem am_w174 {X : List Value} {d : Nat} {f : aF} {a : aA} {w : Value} {e : Nat} {P : Int → aF → aA → Prop} {E : Nat → aF → aA → Prop} {y1 : Int}
    (hG : (am_rg y1 ∧ (y1 < 0 → am_TE X d am_m112 0 (lv_args 0 [.ref 117, am_iv 1]) [] (am_ud (am_ud (am_ud f 11700 0) 11757 0) 11763 0) a w e (am_QI (fun b1 f1 a1 => P b1 f1 a1)) E) ∧ (0 ≤ y1 → (am_rg y1 ∧ (y1 ≤ 2000 → am_TE X d am_m172 0 (lv_args 0 [.ref 117]) [] (am_ud f 11700 0) a w e (am_QV (fun f2 a2 => am_TE X d am_m120 0 (lv_args 0 [.ref 117]) [] (am_ud f2 11702 y1) a2 w e (am_QV (fun f3 a3 => am_TE X d am_m169 0 (lv_args 0 [.ref 117, am_iv 1]) [] f3 a3 w e (am_QV (fun f4 a4 => am_TE X (d + 1) am_m173 50 [(0, .ref 117)] [] f4 a4 w e (am_QI P) E)) E)) E)) E) ∧ (2000 < y1 → am_TE X d am_m112 0 (lv_args 0 [.ref 117, am_iv 1]) [] (am_ud (am_ud (am_ud f 11700 0) 11757 0) 11763 0) a w e (am_QI (fun b5 f5 a5 => P b5 f5 a5)) E))))) :
    am_TE X (d + 1) am_m173 0 [(0, .ref 117), (1, am_iv y1)] [] f a w e (am_QI P) E := by
  refine am_raload_n rfl rfl rfl ?_
  refine am_riconst rfl ?_
  refine am_rputf (S1 := []) (h1 := am_enc (am_ud f 11700 0) a w e) rfl (am_pfB rfl am_ge117 rfl (am_sf11700 _)) (by rw [am_enc_len, am_enc_len]) ?_
  refine am_riload_n rfl rfl rfl ?_
  obtain ⟨r1, hT, hF⟩ := hG
  refine am_rif_lt rfl rfl r1 (fun hc => ?_) (fun hc => ?_)
  · replace hG := hT hc
    refine am_raload_n rfl rfl rfl ?_
    refine am_riconst rfl ?_
    refine am_rputf (S1 := []) (h1 := am_enc (am_ud (am_ud f 11700 0) 11757 0) a w e) rfl (am_pfB rfl am_ge117 rfl (am_sf11757 _)) (by rw [am_enc_len, am_enc_len]) ?_
    refine am_raload_n rfl rfl rfl ?_
    refine am_riconst rfl ?_
    refine am_rputf (S1 := []) (h1 := am_enc (am_ud (am_ud (am_ud f 11700 0) 11757 0) 11763 0) a w e) rfl (am_pfB rfl am_ge117 rfl (am_sf11763 _)) (by rw [am_enc_len, am_enc_len]) ?_
    refine am_raload_n rfl rfl rfl ?_
    refine am_riconst rfl ?_
    refine am_evirtualI (m := am_m112) (As := [.ref 117, am_iv 1]) (S1 := []) rfl rfl rfl rfl rfl rfl rfl rfl rfl rfl (am_TE.int hG (fun b1 f1 a1 hG => ?_) (fun _ _ _ h => h))
    exact am_eiret rfl rfl hG
  · replace hG := hF hc
    refine am_riload_n rfl rfl rfl ?_
    refine am_rsipush rfl (by decide) ?_
    obtain ⟨r1, hT, hF⟩ := hG
    refine am_ric_le rfl rfl r1 (by unfold am_rg; omega) (fun hc => ?_) (fun hc => ?_)
    · replace hG := hT hc
      refine am_raload_n rfl rfl rfl ?_
      refine am_evirtualV (m := am_m172) (As := [.ref 117]) (S1 := []) rfl rfl rfl rfl rfl rfl rfl rfl rfl rfl (am_TE.void hG (fun f2 a2 hG => ?_) (fun _ _ _ h => h))
      refine am_raload_n rfl rfl rfl ?_
      refine am_riload_n rfl rfl rfl ?_
      refine am_rputf (S1 := []) (h1 := am_enc (am_ud f2 11702 y1) a2 w e) rfl (am_pfB rfl am_ge117 rfl (am_sf11702 _)) (by rw [am_enc_len, am_enc_len]) ?_
      refine am_raload_n rfl rfl rfl ?_
      refine am_evirtualV (m := am_m120) (As := [.ref 117]) (S1 := []) rfl rfl rfl rfl rfl rfl rfl rfl rfl rfl (am_TE.void hG (fun f3 a3 hG => ?_) (fun _ _ _ h => h))
      refine am_raload_n rfl rfl rfl ?_
      refine am_riconst rfl ?_
      refine am_evirtualV (m := am_m169) (As := [.ref 117, am_iv 1]) (S1 := []) rfl rfl rfl rfl rfl rfl rfl rfl rfl rfl (am_TE.void hG (fun f4 a4 hG => ?_) (fun _ _ _ h => h))
      exact am_T.drop hG (by simp)
    · replace hG := hF hc
      refine am_raload_n rfl rfl rfl ?_
      refine am_riconst rfl ?_
      refine am_rputf (S1 := []) (h1 := am_enc (am_ud (am_ud f 11700 0) 11757 0) a w e) rfl (am_pfB rfl am_ge117 rfl (am_sf11757 _)) (by rw [am_enc_len, am_enc_len]) ?_
      refine am_raload_n rfl rfl rfl ?_
      refine am_riconst rfl ?_
      refine am_rputf (S1 := []) (h1 := am_enc (am_ud (am_ud (am_ud f 11700 0) 11757 0) 11763 0) a w e) rfl (am_pfB rfl am_ge117 rfl (am_sf11763 _)) (by rw [am_enc_len, am_enc_len]) ?_
      refine am_raload_n rfl rfl rfl ?_
      refine am_riconst rfl ?_
      refine am_evirtualI (m := am_m112) (As := [.ref 117, am_iv 1]) (S1 := []) rfl rfl rfl rfl rfl rfl rfl rfl rfl rfl (am_TE.int hG (fun b5 f5 a5 hG => ?_) (fun _ _ _ h => h))
      exact am_eiret rfl rfl hG
set_option maxRecDepth 100000 in
set_option maxHeartbeats 4000000 in
theorem am_w174_50 {X : List Value} {d : Nat} {f : aF} {a : aA} {w : Value} {e : Nat} {P : Int → aF → aA → Prop} {E : Nat → aF → aA → Prop}
    (hG : (am_rg (f 11718) ∧ ((f 11718) ≤ 0 → am_TE X (d + 1) am_m173 71 [(0, .ref 117)] [] f a w e (am_QI P) E) ∧ (0 < (f 11718) → (am_rg (f 11701) ∧ ((f 11701) ≠ 0 → am_TE X (d + 1) am_m173 71 [(0, .ref 117)] [] f a w e (am_QI P) E) ∧ ((f 11701) = 0 → am_TE X d am_m168 0 (lv_args 0 [.ref 117]) [] f a w e (am_QV (fun f1 a1 => am_TE X (d + 1) am_m173 50 [(0, .ref 117)] [] f1 a1 w e (am_QI P) E)) E))))) :
    am_TE X (d + 1) am_m173 50 [(0, .ref 117)] [] f a w e (am_QI P) E := by
  refine am_raload_n rfl rfl rfl ?_
  refine am_rgetf (S1 := [am_iv (f 11718)]) rfl rfl ?_
  obtain ⟨r1, hT, hF⟩ := hG
  refine am_rif_le rfl rfl r1 (fun hc => ?_) (fun hc => ?_)
  · replace hG := hT hc
    exact hG
  · replace hG := hF hc
    refine am_raload_n rfl rfl rfl ?_
    refine am_rgetf (S1 := [am_iv (f 11701)]) rfl rfl ?_
    obtain ⟨r1, hT, hF⟩ := hG
    refine am_rif_ne rfl rfl r1 (fun hc => ?_) (fun hc => ?_)
    · replace hG := hT hc
      exact hG
    · replace hG := hF hc
      refine am_raload_n rfl rfl rfl ?_
      refine am_evirtualV (m := am_m168) (As := [.ref 117]) (S1 := []) rfl rfl rfl rfl rfl rfl rfl rfl rfl rfl (am_TE.void hG (fun f1 a1 hG => ?_) (fun _ _ _ h => h))
      refine am_rgoto rfl rfl ?_
      exact hG
set_option maxRecDepth 100000 in
set_option maxHeartbeats 4000000 in
theorem am_w174_71 {X : List Value} {d : Nat} {f : aF} {a : aA} {w : Value} {e : Nat} {P : Int → aF → aA → Prop} {E : Nat → aF → aA → Prop}
    (hG : am_TE X d am_m169 0 (lv_args 0 [.ref 117, am_iv 0]) [] f a w e (am_QV (fun f1 a1 => (am_rg (f1 11701) ∧ ((f1 11701) = 0 → am_TE X d am_m171 0 (lv_args 0 [.ref 117]) [] f1 a1 w e (am_QV (fun f2 a2 => (am_rg (f2 11723) ∧ ((f2 11723) = 0 → (((1 : Int) ≠ 0 → (am_ib (a2 118) 1 ∧ (am_ib (a2 118) 1 ∧ P 1 f2 (am_ud a2 118 ((a2 118).set (1 : Int).toNat ((am_at (a2 118) 1) + 1)))))) ∧ ((1 : Int) = 0 → (am_ib (a2 118) 0 ∧ (am_ib (a2 118) 0 ∧ P 1 f2 (am_ud a2 118 ((a2 118).set (0 : Int).toNat ((am_at (a2 118) 0) + 1)))))))) ∧ ((f2 11723) ≠ 0 → (am_rg (f2 11704) ∧ ((f2 11704) ≠ 0 → (am_ib (a2 118) 1 ∧ (am_ib (a2 118) 1 ∧ P (f2 11704) f2 (am_ud a2 118 ((a2 118).set (1 : Int).toNat ((am_at (a2 118) 1) + 1)))))) ∧ ((f2 11704) = 0 → (am_ib (a2 118) 0 ∧ (am_ib (a2 118) 0 ∧ P (f2 11704) f2 (am_ud a2 118 ((a2 118).set (0 : Int).toNat ((am_at (a2 118) 0) + 1))))))))))) E) ∧ ((f1 11701) ≠ 0 → (am_ib (a1 118) 2 ∧ (am_ib (a1 118) 2 ∧ am_TE X d am_m112 0 (lv_args 0 [.ref 117, am_iv (f1 11701)]) [] (am_ud f1 11757 0) (am_ud a1 118 ((a1 118).set (2 : Int).toNat ((am_at (a1 118) 2) + 1))) w e (am_QI (fun b3 f3 a3 => P b3 f3 a3)) E)))))) E) :
    am_TE X (d + 1) am_m173 71 [(0, .ref 117)] [] f a w e (am_QI P) E := by
  refine am_raload_n rfl rfl rfl ?_
  refine am_riconst rfl ?_
  refine am_evirtualV (m := am_m169) (As := [.ref 117, am_iv 0]) (S1 := []) rfl rfl rfl rfl rfl rfl rfl rfl rfl rfl (am_TE.void hG (fun f1 a1 hG => ?_) (fun _ _ _ h => h))
  refine am_raload_n rfl rfl rfl ?_
  refine am_rgetf (S1 := [am_iv (f1 11701)]) rfl rfl ?_
  obtain ⟨r1, hT, hF⟩ := hG
  refine am_rif_eq rfl rfl r1 (fun hc => ?_) (fun hc => ?_)
  · replace hG := hT hc
    refine am_raload_n rfl rfl rfl ?_
    refine am_evirtualV (m := am_m171) (As := [.ref 117]) (S1 := []) rfl rfl rfl rfl rfl rfl rfl rfl rfl rfl (am_TE.void hG (fun f2 a2 hG => ?_) (fun _ _ _ h => h))
    refine am_raload_n rfl rfl rfl ?_
    refine am_rgetf (S1 := [am_iv (f2 11723)]) rfl rfl ?_
    obtain ⟨r1, hT, hF⟩ := hG
    refine am_rif_eq rfl rfl r1 (fun hc => ?_) (fun hc => ?_)
    · replace hG := hT hc
      refine am_riconst rfl ?_
      refine am_ristore_n (L1 := [(0, .ref 117), (2, am_iv 1)]) rfl rfl rfl rfl rfl ?_
      refine am_raload_n rfl rfl rfl ?_
      refine am_rgetf (S1 := [.ref 118]) rfl rfl ?_
      refine am_riload_n rfl rfl rfl ?_
      obtain ⟨hT, hF⟩ := hG
      refine am_rif_ne rfl rfl (by unfold am_rg; omega) (fun hc => ?_) (fun hc => ?_)
      · replace hG := hT hc
        refine am_riconst rfl ?_
        refine am_rdup2 rfl rfl rfl ?_
        obtain ⟨hi, hG⟩ := hG
        refine am_riaload (l := a2 118) rfl am_ge118 hi ?_
        refine am_riconst rfl ?_
        refine am_riadd rfl ?_
        obtain ⟨hi, hG⟩ := hG
        refine am_riastore (l := a2 118) (h1 := am_enc f2 (am_ud a2 118 ((a2 118).set (1 : Int).toNat ((am_at (a2 118) 1) + 1))) w e) rfl am_ge118 hi (am_sa118 _) ?_
        refine am_riload_n rfl rfl rfl ?_
        exact am_eiret rfl rfl hG
      · replace hG := hF hc
        refine am_riconst rfl ?_
        refine am_rgoto rfl rfl ?_
        refine am_rdup2 rfl rfl rfl ?_
        obtain ⟨hi, hG⟩ := hG
        refine am_riaload (l := a2 118) rfl am_ge118 hi ?_
        refine am_riconst rfl ?_
        refine am_riadd rfl ?_
        obtain ⟨hi, hG⟩ := hG
        refine am_riastore (l := a2 118) (h1 := am_enc f2 (am_ud a2 118 ((a2 118).set (0 : Int).toNat ((am_at (a2 118) 0) + 1))) w e) rfl am_ge118 hi (am_sa118 _) ?_
        refine am_riload_n rfl rfl rfl ?_
        exact am_eiret rfl rfl hG
    · replace hG := hF hc
      refine am_raload_n rfl rfl rfl ?_
      refine am_rgetf (S1 := [am_iv (f2 11704)]) rfl rfl ?_
      refine am_rgoto rfl rfl ?_
      refine am_ristore_n (L1 := [(0, .ref 117), (2, am_iv (f2 11704))]) rfl rfl rfl rfl rfl ?_
      refine am_raload_n rfl rfl rfl ?_
      refine am_rgetf (S1 := [.ref 118]) rfl rfl ?_
      refine am_riload_n rfl rfl rfl ?_
      obtain ⟨r1, hT, hF⟩ := hG
      refine am_rif_ne rfl rfl r1 (fun hc => ?_) (fun hc => ?_)
      · replace hG := hT hc
        refine am_riconst rfl ?_
        refine am_rdup2 rfl rfl rfl ?_
        obtain ⟨hi, hG⟩ := hG
        refine am_riaload (l := a2 118) rfl am_ge118 hi ?_
        refine am_riconst rfl ?_
        refine am_riadd rfl ?_
        obtain ⟨hi, hG⟩ := hG
        refine am_riastore (l := a2 118) (h1 := am_enc f2 (am_ud a2 118 ((a2 118).set (1 : Int).toNat ((am_at (a2 118) 1) + 1))) w e) rfl am_ge118 hi (am_sa118 _) ?_
        refine am_riload_n rfl rfl rfl ?_
        exact am_eiret rfl rfl hG
      · replace hG := hF hc
        refine am_riconst rfl ?_
        refine am_rgoto rfl rfl ?_
        refine am_rdup2 rfl rfl rfl ?_
        obtain ⟨hi, hG⟩ := hG
        refine am_riaload (l := a2 118) rfl am_ge118 hi ?_
        refine am_riconst rfl ?_
        refine am_riadd rfl ?_
        obtain ⟨hi, hG⟩ := hG
        refine am_riastore (l := a2 118) (h1 := am_enc f2 (am_ud a2 118 ((a2 118).set (0 : Int).toNat ((am_at (a2 118) 0) + 1))) w e) rfl am_ge118 hi (am_sa118 _) ?_
        refine am_riload_n rfl rfl rfl ?_
        exact am_eiret rfl rfl hG
  · replace hG := hF hc
    refine am_raload_n rfl rfl rfl ?_
    refine am_riconst rfl ?_
    refine am_rputf (S1 := []) (h1 := am_enc (am_ud f1 11757 0) a1 w e) rfl (am_pfB rfl am_ge117 rfl (am_sf11757 _)) (by rw [am_enc_len, am_enc_len]) ?_
    refine am_raload_n rfl rfl rfl ?_
    refine am_rgetf (S1 := [.ref 118]) rfl rfl ?_
    refine am_riconst rfl ?_
    refine am_rdup2 rfl rfl rfl ?_
    obtain ⟨hi, hG⟩ := hG
    refine am_riaload (l := a1 118) rfl am_ge118 hi ?_
    refine am_riconst rfl ?_
    refine am_riadd rfl ?_
    obtain ⟨hi, hG⟩ := hG
    refine am_riastore (l := a1 118) (h1 := am_enc (am_ud f1 11757 0) (am_ud a1 118 ((a1 118).set (2 : Int).toNat ((am_at (a1 118) 2) + 1))) w e) rfl am_ge118 hi (am_sa118 _) ?_
    refine am_raload_n rfl rfl rfl ?_
    refine am_raload_n rfl rfl rfl ?_
    refine am_rgetf (S1 := [am_iv (f1 11701), .ref 117]) rfl rfl ?_
    refine am_evirtualI (m := am_m112) (As := [.ref 117, am_iv (f1 11701)]) (S1 := []) rfl rfl rfl rfl rfl rfl rfl rfl rfl rfl (am_TE.int hG (fun b3 f3 a3 hG => ?_) (fun _ _ _ h => h))
    exact am_eiret rfl rfl hG
set_option maxRecDepth 100000 in
set_option maxHeartbeats 4000000 in
theorem am_w175 {X : List Value} {d : Nat} {f : aF} {a : aA} {w : Value} {e : Nat} {P : Int → aF → aA → Prop} {E : Nat → aF → aA → Prop}
    (hG : P (f 11757) (am_ud f 11700 0) a) :
    am_TE X (d + 1) am_m174 0 [(0, .ref 117)] [] f a w e (am_QI P) E := by
  refine am_raload_n rfl rfl rfl ?_
  refine am_riconst rfl ?_
  refine am_rputf (S1 := []) (h1 := am_enc (am_ud f 11700 0) a w e) rfl (am_pfB rfl am_ge117 rfl (am_sf11700 _)) (by rw [am_enc_len, am_enc_len]) ?_
  refine am_raload_n rfl rfl rfl ?_
  refine am_rgetf (S1 := [am_iv (f 11757)]) rfl rfl ?_
  exact am_eiret rfl rfl hG
set_option maxRecDepth 100000 in
set_option maxHeartbeats 4000000 in
theorem am_w176 {X : List Value} {d : Nat} {f : aF} {a : aA} {w : Value} {e : Nat} {P : Int → aF → aA → Prop} {E : Nat → aF → aA → Prop} {y1 : Int} {y2 : Int}
    (hG : am_TE X d am_m113 0 (lv_args 0 [am_iv y1, am_iv (f 11757)]) [] (am_ud f 11700 0) a w e (am_QI (fun b1 f1 a1 => (am_rg b1 ∧ (b1 = 0 → am_TE X d am_m112 0 (lv_args 0 [.ref 117, am_iv 1]) [] f1 a1 w e (am_QI (fun b2 f2 a2 => P b2 f2 a2)) E) ∧ (b1 ≠ 0 → am_TE X d am_m113 0 (lv_args 0 [am_iv y2, am_iv 3]) [] f1 a1 w e (am_QI (fun b3 f3 a3 => (am_rg b3 ∧ (b3 ≠ 0 → (am_rg y2 ∧ (y2 ≠ 0 → (am_rg y2 ∧ (y2 ≠ 1 → (am_ib (a3 160) y1 ∧ P (am_at (a3 160) y1) f3 a3)) ∧ (y2 = 1 → (am_ib (a3 158) y1 ∧ P (am_at (a3 158) y1) f3 a3)))) ∧ (y2 = 0 → (am_ib (a3 157) y1 ∧ P (am_at (a3 157) y1) f3 a3)))) ∧ (b3 = 0 → am_TE X d am_m112 0 (lv_args 0 [.ref 117, am_iv 1]) [] f3 a3 w e (am_QI (fun b4 f4 a4 => P b4 f4 a4)) E)))) E)))) E) :
    am_TE X (d + 1) am_m175 0 [(0, .ref 117), (1, am_iv y1), (2, am_iv y2)] [] f a w e (am_QI P) E := by
  refine am_raload_n rfl rfl rfl ?_
  refine am_riconst rfl ?_
  refine am_rputf (S1 := []) (h1 := am_enc (am_ud f 11700 0) a w e) rfl (am_pfB rfl am_ge117 rfl (am_sf11700 _)) (by rw [am_enc_len, am_enc_len]) ?_
  refine am_riload_n rfl rfl rfl ?_
  refine am_raload_n rfl rfl rfl ?_
  refine am_rgetf (S1 := [am_iv (f 11757), am_iv y1]) rfl rfl ?_
  refine am_estaticI (m := am_m113) (As := [am_iv y1, am_iv (f 11757)]) (S1 := []) rfl rfl rfl rfl rfl rfl rfl rfl (am_TE.int hG (fun b1 f1 a1 hG => ?_) (fun _ _ _ h => h))
  obtain ⟨r1, hT, hF⟩ := hG
  refine am_rif_eq rfl rfl r1 (fun hc => ?_) (fun hc => ?_)
  · replace hG := hT hc
    refine am_raload_n rfl rfl rfl ?_
    refine am_riconst rfl ?_
    refine am_evirtualI (m := am_m112) (As := [.ref 117, am_iv 1]) (S1 := []) rfl rfl rfl rfl rfl rfl rfl rfl rfl rfl (am_TE.int hG (fun b2 f2 a2 hG => ?_) (fun _ _ _ h => h))
    exact am_eiret rfl rfl hG
  · replace hG := hF hc
    refine am_riload_n rfl rfl rfl ?_
    refine am_riconst rfl ?_
    refine am_estaticI (m := am_m113) (As := [am_iv y2, am_iv 3]) (S1 := []) rfl rfl rfl rfl rfl rfl rfl rfl (am_TE.int hG (fun b3 f3 a3 hG => ?_) (fun _ _ _ h => h))
    obtain ⟨r1, hT, hF⟩ := hG
    refine am_rif_ne rfl rfl r1 (fun hc => ?_) (fun hc => ?_)
    · replace hG := hT hc
      refine am_riload_n rfl rfl rfl ?_
      obtain ⟨r1, hT, hF⟩ := hG
      refine am_rif_ne rfl rfl r1 (fun hc => ?_) (fun hc => ?_)
      · replace hG := hT hc
        refine am_riload_n rfl rfl rfl ?_
        refine am_riconst rfl ?_
        obtain ⟨r1, hT, hF⟩ := hG
        refine am_ric_ne rfl rfl r1 (by unfold am_rg; omega) (fun hc => ?_) (fun hc => ?_)
        · replace hG := hT hc
          refine am_raload_n rfl rfl rfl ?_
          refine am_rgetf (S1 := [.ref 160]) rfl rfl ?_
          refine am_riload_n rfl rfl rfl ?_
          obtain ⟨hi, hG⟩ := hG
          refine am_riaload (l := a3 160) rfl am_ge160 hi ?_
          exact am_eiret rfl rfl hG
        · replace hG := hF hc
          refine am_raload_n rfl rfl rfl ?_
          refine am_rgetf (S1 := [.ref 158]) rfl rfl ?_
          refine am_riload_n rfl rfl rfl ?_
          obtain ⟨hi, hG⟩ := hG
          refine am_riaload (l := a3 158) rfl am_ge158 hi ?_
          refine am_rgoto rfl rfl ?_
          exact am_eiret rfl rfl hG
      · replace hG := hF hc
        refine am_raload_n rfl rfl rfl ?_
        refine am_rgetf (S1 := [.ref 157]) rfl rfl ?_
        refine am_riload_n rfl rfl rfl ?_
        obtain ⟨hi, hG⟩ := hG
        refine am_riaload (l := a3 157) rfl am_ge157 hi ?_
        refine am_rgoto rfl rfl ?_
        exact am_eiret rfl rfl hG
    · replace hG := hF hc
      refine am_raload_n rfl rfl rfl ?_
      refine am_riconst rfl ?_
      refine am_evirtualI (m := am_m112) (As := [.ref 117, am_iv 1]) (S1 := []) rfl rfl rfl rfl rfl rfl rfl rfl rfl rfl (am_TE.int hG (fun b4 f4 a4 hG => ?_) (fun _ _ _ h => h))
      exact am_eiret rfl rfl hG
set_option maxRecDepth 100000 in
set_option maxHeartbeats 4000000 in
theorem am_w177 {X : List Value} {d : Nat} {f : aF} {a : aA} {w : Value} {e : Nat} {P : Int → aF → aA → Prop} {E : Nat → aF → aA → Prop} {y1 : Int} {y2 : Int}
    (hG : am_TE X d am_m113 0 (lv_args 0 [am_iv y1, am_iv (f 11757)]) [] (am_ud f 11700 0) a w e (am_QI (fun b1 f1 a1 => (am_rg b1 ∧ (b1 = 0 → am_TE X d am_m112 0 (lv_args 0 [.ref 117, am_iv 1]) [] f1 a1 w e (am_QI (fun b2 f2 a2 => P b2 f2 a2)) E) ∧ (b1 ≠ 0 → (am_ib (a1 160) y1 ∧ am_TE X d am_m113 0 (lv_args 0 [am_iv y2, am_iv (am_at (a1 160) y1)]) [] f1 a1 w e (am_QI (fun b3 f3 a3 => (am_rg b3 ∧ (b3 ≠ 0 → (am_ib (a3 159) y1 ∧ (am_ib (a3 162) ((am_at (a3 159) y1) + y2) ∧ P (am_at (a3 162) ((am_at (a3 159) y1) + y2)) f3 a3))) ∧ (b3 = 0 → am_TE X d am_m112 0 (lv_args 0 [.ref 117, am_iv 1]) [] f3 a3 w e (am_QI (fun b4 f4 a4 => P b4 f4 a4)) E)))) E))))) E) :
    am_TE X (d + 1) am_m176 0 [(0, .ref 117), (1, am_iv y1), (2, am_iv y2)] [] f a w e (am_QI P) E := by
  refine am_raload_n rfl rfl rfl ?_
  refine am_riconst rfl ?_
  refine am_rputf (S1 := []) (h1 := am_enc (am_ud f 11700 0) a w e) rfl (am_pfB rfl am_ge117 rfl (am_sf11700 _)) (by rw [am_enc_len, am_enc_len]) ?_
  refine am_riload_n rfl rfl rfl ?_
  refine am_raload_n rfl rfl rfl ?_
  refine am_rgetf (S1 := [am_iv (f 11757), am_iv y1]) rfl rfl ?_
  refine am_estaticI (m := am_m113) (As := [am_iv y1, am_iv (f 11757)]) (S1 := []) rfl rfl rfl rfl rfl rfl rfl rfl (am_TE.int hG (fun b1 f1 a1 hG => ?_) (fun _ _ _ h => h))
  obtain ⟨r1, hT, hF⟩ := hG
  refine am_rif_eq rfl rfl r1 (fun hc => ?_) (fun hc => ?_)
  · replace hG := hT hc
    refine am_raload_n rfl rfl rfl ?_
    refine am_riconst rfl ?_
    refine am_evirtualI (m := am_m112) (As := [.ref 117, am_iv 1]) (S1 := []) rfl rfl rfl rfl rfl rfl rfl rfl rfl rfl (am_TE.int hG (fun b2 f2 a2 hG => ?_) (fun _ _ _ h => h))
    refine am_rgoto rfl rfl ?_
    exact am_eiret rfl rfl hG
  · replace hG := hF hc
    refine am_riload_n rfl rfl rfl ?_
    refine am_raload_n rfl rfl rfl ?_
    refine am_rgetf (S1 := [.ref 160, am_iv y2]) rfl rfl ?_
    refine am_riload_n rfl rfl rfl ?_
    obtain ⟨hi, hG⟩ := hG
    refine am_riaload (l := a1 160) rfl am_ge160 hi ?_
    refine am_estaticI (m := am_m113) (As := [am_iv y2, am_iv (am_at (a1 160) y1)]) (S1 := []) rfl rfl rfl rfl rfl rfl rfl rfl (am_TE.int hG (fun b3 f3 a3 hG => ?_) (fun _ _ _ h => h))
    obtain ⟨r1, hT, hF⟩ := hG
    refine am_rif_ne rfl rfl r1 (fun hc => ?_) (fun hc => ?_)
    · replace hG := hT hc
      refine am_raload_n rfl rfl rfl ?_
      refine am_rgetf (S1 := [.ref 162]) rfl rfl ?_
      refine am_raload_n rfl rfl rfl ?_
      refine am_rgetf (S1 := [.ref 159, .ref 162]) rfl rfl ?_
      refine am_riload_n rfl rfl rfl ?_
      obtain ⟨hi, hG⟩ := hG
      refine am_riaload (l := a3 159) rfl am_ge159 hi ?_
      refine am_riload_n rfl rfl rfl ?_
      refine am_riadd rfl ?_
      obtain ⟨hi, hG⟩ := hG
      refine am_riaload (l := a3 162) rfl am_ge162 hi ?_
      exact am_eiret rfl rfl hG
    · replace hG := hF hc
      refine am_raload_n rfl rfl rfl ?_
      refine am_riconst rfl ?_
      refine am_evirtualI (m := am_m112) (As := [.ref 117, am_iv 1]) (S1 := []) rfl rfl rfl rfl rfl rfl rfl rfl rfl rfl (am_TE.int hG (fun b4 f4 a4 hG => ?_) (fun _ _ _ h => h))
      refine am_rgoto rfl rfl ?_
      exact am_eiret rfl rfl hG
set_option maxRecDepth 100000 in
set_option maxHeartbeats 4000000 in
theorem am_w178 {X : List Value} {d : Nat} {f : aF} {a : aA} {w : Value} {e : Nat} {P : Int → aF → aA → Prop} {E : Nat → aF → aA → Prop}
    (hG : P (f 11703) (am_ud f 11700 0) a) :
    am_TE X (d + 1) am_m177 0 [(0, .ref 117)] [] f a w e (am_QI P) E := by
  refine am_raload_n rfl rfl rfl ?_
  refine am_riconst rfl ?_
  refine am_rputf (S1 := []) (h1 := am_enc (am_ud f 11700 0) a w e) rfl (am_pfB rfl am_ge117 rfl (am_sf11700 _)) (by rw [am_enc_len, am_enc_len]) ?_
  refine am_raload_n rfl rfl rfl ?_
  refine am_rgetf (S1 := [am_iv (f 11703)]) rfl rfl ?_
  exact am_eiret rfl rfl hG
set_option maxRecDepth 100000 in
set_option maxHeartbeats 4000000 in
theorem am_w179 {X : List Value} {d : Nat} {f : aF} {a : aA} {w : Value} {e : Nat} {P : Int → aF → aA → Prop} {E : Nat → aF → aA → Prop} {y1 : Int}
    (hG : am_TE X d am_m113 0 (lv_args 0 [am_iv y1, am_iv 3]) [] (am_ud f 11700 0) a w e (am_QI (fun b1 f1 a1 => (am_rg b1 ∧ (b1 = 0 → P ((-1)) f1 a1) ∧ (b1 ≠ 0 → (am_ib (a1 118) y1 ∧ P (am_at (a1 118) y1) f1 a1))))) E) :
    am_TE X (d + 1) am_m178 0 [(0, .ref 117), (1, am_iv y1)] [] f a w e (am_QI P) E := by
  refine am_raload_n rfl rfl rfl ?_
  refine am_riconst rfl ?_
  refine am_rputf (S1 := []) (h1 := am_enc (am_ud f 11700 0) a w e) rfl (am_pfB rfl am_ge117 rfl (am_sf11700 _)) (by rw [am_enc_len, am_enc_len]) ?_
  refine am_riload_n rfl rfl rfl ?_
  refine am_riconst rfl ?_
  refine am_estaticI (m := am_m113) (As := [am_iv y1, am_iv 3]) (S1 := []) rfl rfl rfl rfl rfl rfl rfl rfl (am_TE.int hG (fun b1 f1 a1 hG => ?_) (fun _ _ _ h => h))
  obtain ⟨r1, hT, hF⟩ := hG
  refine am_rif_eq rfl rfl r1 (fun hc => ?_) (fun hc => ?_)
  · replace hG := hT hc
    refine am_riconst rfl ?_
    exact am_eiret rfl rfl hG
  · replace hG := hF hc
    refine am_raload_n rfl rfl rfl ?_
    refine am_rgetf (S1 := [.ref 118]) rfl rfl ?_
    refine am_riload_n rfl rfl rfl ?_
    obtain ⟨hi, hG⟩ := hG
    refine am_riaload (l := a1 118) rfl am_ge118 hi ?_
    refine am_rgoto rfl rfl ?_
    exact am_eiret rfl rfl hG
/-! THE REFERENCE BETWEEN TWO CALLS -/
def am_PP (f : aF) (a : aA) : Prop := am_PV f a f a ∧ (0 ≤ f 11707 ∧ f 11707 ≤ 360) ∧ (a 118).length = 3
/-- a call of the other leaves the one -/
def am_rf (f : aF) (a : aA) (f1 : aF) (a1 : aA) : Prop := (∀ k, k < 11700 → f1 k = f k) ∧ (∀ k, k < 117 → a1 k = a k)
section AmRTop
variable {g : aF} {h : aA} {f f1 f2 : aF} {a a1 a2 : aA} {k : Nat} {v : Int} {X : List Value} {w : Value} {e d : Nat} {y1 y2 : Int} {E : Nat → aF → aA → Prop}
theorem am_JR_self (hJ : am_JR g h f a) : am_JR f a f a := ⟨hJ.1, hJ.2.1, fun _ _ => rfl, fun _ _ => rfl⟩
theorem am_PV_self (hP : am_PV g h f a) : am_PV f a f a := ⟨am_JR_self hP.1, hP.2⟩
/-- a field of no weight -/
theorem am_PV_th (hP : am_PV f a f a) : am_PV (am_ud f 11700 v) a (am_ud f 11700 v) a := by
  refine ⟨⟨fun j h1 h2 h3 => ?_, hP.1.2.1, fun _ _ => rfl, fun _ _ => rfl⟩, hP.2⟩
  rw [am_ud_ne _ _ (by omega)]; exact hP.1.1 j h1 h2 h3
theorem am_PV_many (hP : am_PV f a f a) : am_PV (am_ud f 11707 v) a (am_ud f 11707 v) a := by
  refine ⟨⟨fun j h1 h2 h3 => ?_, hP.1.2.1, fun _ _ => rfl, fun _ _ => rfl⟩, hP.2⟩
  rw [am_ud_ne _ _ h3]; exact hP.1.1 j h1 h2 h3
theorem am_PV_oct {l : List Int} (hP : am_PV f a f a) (hl : am_LR 119 l) : am_PV f (am_ud a 119 l) f (am_ud a 119 l) := by
  refine ⟨⟨hP.1.1, fun j h1 h2 => ?_, fun _ _ => rfl, fun _ _ => rfl⟩, hP.2⟩
  by_cases he : j = 119
  · subst he; rw [am_ud_eq]; exact hl
  · rw [am_ud_ne _ _ he]; exact hP.1.2.1 j h1 h2
theorem am_PV_cnt {l : List Int} (hP : am_PV f a f a) : am_PV f (am_ud a 118 l) f (am_ud a 118 l) := by
  refine ⟨⟨hP.1.1, fun j h1 h2 => ?_, fun _ _ => rfl, fun _ _ => rfl⟩, hP.2⟩
  rw [am_ud_ne _ _ (by omega)]; exact hP.1.2.1 j h1 h2
/-- no events -/
theorem am_PV_ev0 (hP : am_PV g h f a) : am_PV g h (am_ud f 11757 0) a := ⟨am_JRf (by decide) hP.1 (show (0 : Int) ≤ 0 by omega) (show (0 : Int) ≤ 200 by omega), hP.2.1, am_R3_0 _ _ _⟩
theorem am_PV_wr0 (hP : am_PV g h f a) (h0 : f 11757 = 0) : am_PV g h (am_ud f 11763 0) a := ⟨am_JRf (by decide) hP.1 (show (0 : Int) ≤ 0 by omega) (show (0 : Int) ≤ 2000 by omega), hP.2.1, fun i i1 i2 => absurd (show i < f 11757 from i2) (by omega)⟩
theorem am_rf.refl (f : aF) (a : aA) : am_rf f a f a := ⟨fun _ _ => rfl, fun _ _ => rfl⟩
/-- fail -/
theorem am_ct113 (hd : 1 ≤ d) : am_TE X d am_m112 0 (lv_args 0 [.ref 117, am_iv y1]) [] f a w e (am_QI (fun b f1 a1 => b = 0 ∧ am_ud f 11700 y1 = f1 ∧ a = a1)) E := by
  obtain ⟨d, rfl⟩ : ∃ d0, d = d0 + 1 := ⟨d - 1, by omega⟩
  exact am_w113 ⟨rfl, rfl, rfl⟩
theorem am_l255 (z : Int64) : 0 ≤ (z &&& 255).toInt32.toInt ∧ (z &&& 255).toInt32.toInt ≤ 255 := by
  have h2 : (z.toBitVec &&& 255#64).toNat ≤ 255 := by rw [BitVec.toNat_and]; exact Nat.and_le_right
  have h1 : (z &&& 255).toInt32.toInt = ((z.toBitVec &&& 255#64).signExtend 32).toInt := rfl
  rw [h1, BitVec.signExtend_eq_setWidth_of_le _ (by decide), BitVec.toInt_eq_toNat_of_lt (by rw [BitVec.toNat_setWidth]; omega), BitVec.toNat_setWidth]
  omega
theorem am_ct115_43 (hd : 1 ≤ d + 1) {P : Int → aF → aA → Prop} {x1 : Int64} {a0 : aA} (hP : ∀ a1, am_PV f a1 f a1 → (∀ k, k ≠ 119 → a1 k = a0 k) → P (f 11707 + y2) (am_ud f 11707 (f 11707 + y2)) a1) (hy : 1 ≤ y2 ∧ y2 ≤ 8) (h0 : 0 ≤ f 11707) (hs : f 11707 + y2 ≤ 360) (n : Nat) :
    ∀ {x4 : Int} {a : aA}, (y2 - x4).toNat < n → am_PV f a f a → (∀ k, k ≠ 119 → a k = a0 k) → 0 ≤ x4 → x4 ≤ 8 → am_TE X (d + 1) am_m114 43 [(0, .ref 117), (1, .long (x1)), (3, am_iv y2), (4, am_iv x4)] [] f a w e (am_QI P) E := by
  induction n with
  | zero => intros; omega
  | succ n ih =>
    intro x4 a hn hV hk h3 h8
    have hL := am_RL 119 rfl hV.1
    have hl : (a 119).length = 360 := am_Rl119 hL
    refine am_w115_43 ⟨by unfold am_rg; omega, by unfold am_rg; omega, fun hc => hP a hV hk, fun hc => ⟨by unfold am_ib; omega, ?_⟩⟩
    refine ih (by omega) (am_PV_oct hV (am_RS119 hL (am_l255 _).1 (am_l255 _).2)) (fun k hk1 => ?_) (by omega) (by omega)
    rw [am_ud_ne _ _ hk1]; exact hk k hk1
/-- bytes -/
theorem am_ct115 {x1 : Int64} (hd : 2 ≤ d) (hP : am_PP f a) (hy : -2147483648 ≤ y2 ∧ y2 ≤ 2147483647) :
    am_TE X d am_m114 0 (lv_args 0 [.ref 117, .long x1, am_iv y2]) [] f a w e
      (am_QI (fun b f1 a1 => ((f1 11700 = 1 ∧ f1 11707 = f 11707 ∧ (y2 < 1 ∨ 8 < y2)) ∨ (f1 11700 = 2 ∧ f1 11707 = f 11707 ∧ 1 ≤ y2 ∧ y2 ≤ 8 ∧ 360 < f 11707 + y2) ∨ (f1 11700 = 0 ∧ f1 11707 = f 11707 + y2 ∧ b = f 11707 + y2 ∧ 1 ≤ y2 ∧ y2 ≤ 8 ∧ f 11707 + y2 ≤ 360)) ∧ am_PP f1 a1 ∧ am_rf f a f1 a1)) E := by
  obtain ⟨d, rfl⟩ : ∃ d0, d = d0 + 1 := ⟨d - 1, by omega⟩
  obtain ⟨hV, hm, hc3⟩ := hP
  have hF : ∀ z : Int, am_PP (am_ud (am_ud f 11700 0) 11700 z) a := fun z => ⟨am_PV_th (am_PV_th hV), hm, hc3⟩
  have hr : ∀ z : Int, am_rf f a (am_ud (am_ud f 11700 0) 11700 z) a := fun z => ⟨fun k hk => by rw [am_ud_ne _ _ (by omega), am_ud_ne _ _ (by omega)], fun _ _ => rfl⟩
  refine am_w115 ⟨by unfold am_rg; omega, fun hc => ?_, fun hc => ⟨by unfold am_rg; omega, fun hc2 => ⟨by unfold am_rg; omega, fun hc4 => ?_, fun hc4 => ?_⟩, fun hc2 => ?_⟩⟩
  · refine am_TE.int (am_ct113 (by omega)) (fun b f1 a1 hq => ?_) (fun _ _ _ h => h)
    obtain ⟨-, rfl, rfl⟩ := hq
    exact ⟨Or.inl ⟨rfl, rfl, Or.inl hc⟩, hF 1, hr 1⟩
  · refine am_ct115_43 (f := am_ud f 11700 0) (a0 := a) (by omega) (fun a1 hV1 hk => ?_) ⟨hc, hc2⟩ hm.1 hc4 (_ + 1) (Nat.lt_succ_self _) (am_PV_th hV) (fun _ _ => rfl) (by omega) (by omega)
    refine ⟨Or.inr (Or.inr ⟨rfl, rfl, rfl, hc, hc2, hc4⟩), ⟨am_PV_many hV1, ?_, by rw [hk 118 (by decide)]; exact hc3⟩, fun k hk1 => ?_, fun k hk1 => hk k (by omega)⟩
    · show 0 ≤ f 11707 + y2 ∧ f 11707 + y2 ≤ 360
      omega
    · rw [am_ud_ne _ _ (by omega), am_ud_ne _ _ (by omega)]
  · refine am_TE.int (am_ct113 (by omega)) (fun b f1 a1 hq => ?_) (fun _ _ _ h => h)
    obtain ⟨-, rfl, rfl⟩ := hq
    exact ⟨Or.inr (Or.inl ⟨rfl, rfl, hc, hc2, hc4⟩), hF 2, hr 2⟩
  · refine am_TE.int (am_ct113 (by omega)) (fun b f1 a1 hq => ?_) (fun _ _ _ h => h)
    obtain ⟨-, rfl, rfl⟩ := hq
    exact ⟨Or.inl ⟨rfl, rfl, Or.inr hc2⟩, hF 1, hr 1⟩
/-- clear -/
theorem am_ct116 (hd : 1 ≤ d) (hP : am_PP f a) : am_TE X d am_m115 0 (lv_args 0 [.ref 117]) [] f a w e (am_QI (fun b f1 a1 => b = f 11707 ∧ f1 11707 = 0 ∧ am_PP f1 a1 ∧ am_rf f a f1 a1)) E := by
  obtain ⟨d, rfl⟩ : ∃ d0, d = d0 + 1 := ⟨d - 1, by omega⟩
  exact am_w116 ⟨rfl, rfl, ⟨am_PV_many (am_PV_th hP.1), show (0 : Int) ≤ 0 ∧ (0 : Int) ≤ 360 by omega, hP.2.2⟩, fun k hk => by rw [am_ud_ne _ _ (by omega), am_ud_ne _ _ (by omega)], fun _ _ => rfl⟩
theorem am_ct173_52 (hd : 1 ≤ d + 1) {P : aF → aA → Prop} (hP : ∀ a1, am_PV g h f a1 → (∀ i : Int, 0 ≤ i → i < 26 → am_at (a1 121) i < 0) → P f a1) (n : Nat) :
    ∀ {x1 : Int} {a : aA}, (26 - x1).toNat < n → am_PV g h f a → (∀ i : Int, 0 ≤ i → i < x1 → am_at (a 121) i < 0) → 0 ≤ x1 → x1 ≤ 26 → am_TE X (d + 1) am_m172 52 [(0, .ref 117), (1, am_iv x1)] [] f a w e (am_QV P) E := by
  induction n with
  | zero => intros; omega
  | succ n ih =>
    intro x1 a hn hV hk h0 h1
    have L1 := am_RL 121 rfl hV.1
    have L3 := am_RL 123 rfl hV.1
    have L2 := am_RL 132 rfl hV.1
    have L7 := am_RL 137 rfl hV.1
    have L9 := am_RL 139 rfl hV.1
    have l1 : (a 121).length = 26 := am_Rl121 L1
    have l3 : (a 123).length = 26 := am_Rl123 L3
    have l2 : (a 132).length = 26 := am_Rl132 L2
    have l7 : (a 137).length = 27 := am_Rl137 L7
    have l9 : (a 139).length = 27 := am_Rl139 L9
    refine am_w173_52 ⟨by unfold am_rg; omega, fun hc => hP a hV (fun i i1 i2 => hk i i1 (by omega)), fun hc => ?_⟩
    have i1 : am_ib (a 121) x1 := by unfold am_ib; omega
    refine ⟨i1, by unfold am_ib; omega, by unfold am_ib; omega, by unfold am_ib; omega, by unfold am_ib; omega, ?_⟩
    refine ih (by omega) ⟨am_JRa (by decide) (am_JRa (by decide) (am_JRa (by decide) (am_JRa (by decide) (am_JRa (by decide) hV.1 (am_RS121 L1 (by omega) (by omega))) (am_RS123 L3 (by omega) (by omega))) (am_RS132 L2 (by omega) (by omega))) (am_RS137 L7 (by omega) (by omega))) (am_RS139 L9 (by omega) (by omega)), hV.2⟩ (fun i j1 j2 => ?_) (by omega) (by omega)
    show am_at ((a 121).set x1.toNat (-1)) i < 0
    rw [am_at_set i1]
    split
    · decide
    · exact hk i j1 (by omega)
/-- begin -/
theorem am_ct173 (hd : 1 ≤ d) (hV : am_PV g h f a) (hm : 0 ≤ g 11707 ∧ g 11707 ≤ 360) : am_TE X d am_m172 0 (lv_args 0 [.ref 117]) [] f a w e (am_QV (fun f1 a1 => am_D0 g h f1 a1)) E := by
  obtain ⟨d, rfl⟩ : ∃ d0, d = d0 + 1 := ⟨d - 1, by omega⟩
  refine am_w173 (am_ct173_52 (g := g) (h := h) (by omega) (fun a1 hV1 hk => ⟨hV1, ⟨rfl, rfl, rfl, rfl, rfl⟩, hk, hm⟩) (_ + 1) (Nat.lt_succ_self _) ?_ (fun i i1 i2 => absurd i1 (by omega)) (by omega) (by omega))
  refine ⟨?_, hV.2.1, am_R3_0 _ _ _⟩
  have z : ∀ (k : Nat) (f : aF), (11701 ≤ k ∧ k < 11764 ∧ k ≠ 11707) → am_rl k ≤ 0 → 0 ≤ am_rh k → am_JR g h f a → am_JR g h (am_ud f k 0) a := fun k f hk h1 h2 hJ => am_JRf hk hJ h1 h2
  exact z _ _ (by decide) (by decide) (by decide) (z _ _ (by decide) (by decide) (by decide) (z _ _ (by decide) (by decide) (by decide) (z _ _ (by decide) (by decide) (by decide) (z _ _ (by decide) (by decide) (by decide) (z _ _ (by decide) (by decide) (by decide) (z _ _ (by decide) (by decide) (by decide) (z _ _ (by decide) (by decide) (by decide) (z _ _ (by decide) (by decide) (by decide) (z _ _ (by decide) (by decide) (by decide) hV.1)))))))))
/-- what the reference's judge leaves -/
def am_JP (f0 : aF) (a0 : aA) (f : aF) (a : aA) : Prop := am_PP f a ∧ f 11707 = f0 11707 ∧ am_rf f0 a0 f a
theorem am_ct174_71 {f0 : aF} {a0 : aA} (hd : 14 ≤ d + 1) (hI : am_RV (am_ud f0 11700 0) a0 f a) (hm : 0 ≤ f0 11707 ∧ f0 11707 ≤ 360) (hc : (a0 118).length = 3) : am_TE X (d + 1) am_m173 71 [(0, .ref 117)] [] f a w e (am_QI (fun b f1 a1 => am_JP f0 a0 f1 a1)) E := by
  have k13 := am_Rg11713 hI.1.1
  -- an end with other counts
  have hE : ∀ (f2 : aF) (a2 : aA) (l : List Int), am_PV (am_ud f0 11700 0) a0 f2 a2 → l.length = 3 → am_JP f0 a0 f2 (am_ud a2 118 l) := by
    intro f2 a2 l hV hl
    have e1 : f2 11707 = f0 11707 := hV.1.2.2.1 11707 (by omega)
    refine ⟨⟨am_PV_cnt (am_PV_self hV), by rw [e1]; exact hm, by rw [am_ud_eq]; exact hl⟩, e1, fun k hk => (hV.1.2.2.1 k (by omega)).trans (am_ud_ne _ _ (by omega)), fun k hk => (am_ud_ne _ _ (by omega)).trans (hV.1.2.2.2 k (by omega))⟩
  refine am_w174_71 (am_TE.void (am_ct170 (y1 := 0) (by omega) hI (by omega) (by omega)) (fun f1 a1 hq => ?_) (fun _ _ _ h => h))
  obtain ⟨hI1, -⟩ := hq
  have k01 := am_Rg11701 hI1.1.1
  have l1 : (a1 118).length = 3 := by rw [hI1.1.1.2.2.2 118 (by omega)]; exact hc
  refine ⟨by unfold am_rg; omega, fun hz => ?_, fun hz => ⟨by unfold am_ib; omega, by unfold am_ib; omega, ?_⟩⟩
  · refine am_TE.void (am_ct172 (by omega) hI1) (fun f2 a2 hq => ?_) (fun _ _ _ h => h)
    have hI2 := hq.1
    have k04 := am_Rg11704 hI2.1.1
    have k23 := am_Rg11723 hI2.1.1
    have l2 : (a2 118).length = 3 := by rw [hI2.1.1.2.2.2 118 (by omega)]; exact hc
    have i0 : am_ib (a2 118) 0 := by unfold am_ib; omega
    have i1 : am_ib (a2 118) 1 := by unfold am_ib; omega
    have hx : ∀ (i : Nat) (z : Int), am_JP f0 a0 f2 (am_ud a2 118 ((a2 118).set i z)) := fun i z => hE f2 a2 _ hI2.1 (by rw [List.length_set]; exact l2)
    exact ⟨by unfold am_rg; omega, fun _ => ⟨fun _ => ⟨i1, i1, hx _ _⟩, fun _ => ⟨i0, i0, hx _ _⟩⟩, fun _ => ⟨by unfold am_rg; omega, fun _ => ⟨i1, i1, hx _ _⟩, fun _ => ⟨i0, i0, hx _ _⟩⟩⟩
  · refine am_TE.int (am_ct113 (by omega)) (fun b f2 a2 hq => ?_) (fun _ _ _ h => h)
    obtain ⟨-, rfl, rfl⟩ := hq
    have hV := am_PV_ev0 hI1.1
    have e1 : f1 11707 = f0 11707 := hI1.1.1.2.2.1 11707 (by omega)
    refine ⟨⟨am_PV_th (am_PV_cnt (am_PV_self hV)), (show 0 ≤ f1 11707 ∧ f1 11707 ≤ 360 by rw [e1]; exact hm), by rw [am_ud_eq, List.length_set]; exact l1⟩, e1, fun k hk => ?_, fun k hk => (am_ud_ne _ _ (by omega)).trans (hI1.1.1.2.2.2 k (by omega))⟩
    rw [am_ud_ne _ _ (by omega), am_ud_ne _ _ (by omega)]
    exact (hI1.1.1.2.2.1 k (by omega)).trans (am_ud_ne _ _ (by omega))
theorem am_ct174_50 {f0 : aF} {a0 : aA} (hd : 14 ≤ d + 1) (hm : 0 ≤ f0 11707 ∧ f0 11707 ≤ 360) (hc : (a0 118).length = 3) (n : Nat) :
    ∀ {f : aF} {a : aA}, (200 * (3500 - am_ph f a) + 8 * f 11713 + 3 - f 11701).toNat < n → am_RV (am_ud f0 11700 0) a0 f a → am_TE X (d + 1) am_m173 50 [(0, .ref 117)] [] f a w e (am_QI (fun b f1 a1 => am_JP f0 a0 f1 a1)) E := by
  induction n with
  | zero => intros; omega
  | succ n ih =>
    intro f a hn hI
    have k18 := am_Rg11718 hI.1.1
    have k01 := am_Rg11701 hI.1.1
    have k13 := am_Rg11713 hI.1.1
    have hp := am_RV_ph hI
    refine am_w174_50 ⟨by unfold am_rg; omega, fun _ => am_ct174_71 (by omega) hI hm hc, fun h1 => ⟨by unfold am_rg; omega, fun _ => am_ct174_71 (by omega) hI hm hc, fun h2 => ?_⟩⟩
    refine am_TE.void (am_ct169 (by omega) hI (by omega) (by omega)) (fun f1 a1 hq => ?_) (fun _ _ _ h => h)
    obtain ⟨hI1, hm1, hq⟩ := hq
    have j01 := am_Rg11701 hI1.1.1
    have j13 := am_Rg11713 hI1.1.1
    have jp := am_RV_ph hI1
    exact ih (by omega) hI1
/-- judge -/
theorem am_ct174 (hd : 14 ≤ d) (hP : am_PP f a) (hy : -2147483648 ≤ y1 ∧ y1 ≤ 2147483647) : am_TE X d am_m173 0 (lv_args 0 [.ref 117, am_iv y1]) [] f a w e (am_QI (fun b f1 a1 => am_JP f a f1 a1)) E := by
  obtain ⟨d, rfl⟩ : ∃ d0, d = d0 + 1 := ⟨d - 1, by omega⟩
  obtain ⟨hV, hm, hc⟩ := hP
  have hF : am_JP f a (am_ud (am_ud (am_ud (am_ud f 11700 0) 11757 0) 11763 0) 11700 1) a := by
    refine ⟨⟨am_PV_th (am_PV_self (am_PV_wr0 (am_PV_ev0 (am_PV_th (v := 0) hV)) rfl)), hm, hc⟩, rfl, fun k hk => ?_, fun _ _ => rfl⟩
    rw [am_ud_ne _ _ (by omega), am_ud_ne _ _ (by omega), am_ud_ne _ _ (by omega), am_ud_ne _ _ (by omega)]
  refine am_w174 ⟨by unfold am_rg; omega, fun h1 => ?_, fun h1 => ⟨by unfold am_rg; omega, fun h2 => ?_, fun h2 => ?_⟩⟩
  · refine am_TE.int (am_ct113 (by omega)) (fun b f2 a2 hq => ?_) (fun _ _ _ h => h)
    obtain ⟨-, rfl, rfl⟩ := hq
    exact hF
  · refine am_TE.void (am_ct173 (g := am_ud f 11700 0) (h := a) (by omega) (am_PV_th hV) hm) (fun f2 a2 hD => ?_) (fun _ _ _ h => h)
    have hD2 : am_D0 (am_ud f 11700 0) a (am_ud f2 11702 y1) a2 := ⟨⟨am_JRf (by decide) hD.1.1 (show 0 ≤ y1 by omega) (show y1 ≤ 2000 by omega), hD.1.2⟩, hD.2⟩
    refine am_TE.void (am_ct121 (by omega) hD2) (fun f3 a3 hq => ?_) (fun _ _ _ h => h)
    obtain ⟨hI3, e13, e18⟩ := hq
    refine am_TE.void (am_ct170 (y1 := 1) (by omega) hI3 (by omega) (by omega)) (fun f4 a4 hq => ?_) (fun _ _ _ h => h)
    exact am_ct174_50 hd hm hc (_ + 1) (Nat.lt_succ_self _) hq.1
  · refine am_TE.int (am_ct113 (by omega)) (fun b f2 a2 hq => ?_) (fun _ _ _ h => h)
    obtain ⟨-, rfl, rfl⟩ := hq
    exact hF
theorem am_JP_th (hP : am_PP f a) : am_JP f a (am_ud f 11700 v) a := ⟨⟨am_PV_th hP.1, hP.2⟩, rfl, fun k hk => am_ud_ne _ _ (by omega), fun _ _ => rfl⟩
theorem am_JP_th2 {v2 : Int} (hP : am_PP f a) : am_JP f a (am_ud (am_ud f 11700 v) 11700 v2) a := ⟨⟨am_PV_th (am_PV_th hP.1), hP.2⟩, rfl, fun k hk => by rw [am_ud_ne _ _ (by omega), am_ud_ne _ _ (by omega)], fun _ _ => rfl⟩
/-- events, cost -/
theorem am_ct175 (hd : 1 ≤ d) (hP : am_PP f a) : am_TE X d am_m174 0 (lv_args 0 [.ref 117]) [] f a w e (am_QI (fun b f1 a1 => am_JP f a f1 a1)) E := by
  obtain ⟨d, rfl⟩ : ∃ d0, d = d0 + 1 := ⟨d - 1, by omega⟩
  exact am_w175 (am_JP_th hP)
theorem am_ct178 (hd : 1 ≤ d) (hP : am_PP f a) : am_TE X d am_m177 0 (lv_args 0 [.ref 117]) [] f a w e (am_QI (fun b f1 a1 => am_JP f a f1 a1)) E := by
  obtain ⟨d, rfl⟩ : ∃ d0, d = d0 + 1 := ⟨d - 1, by omega⟩
  exact am_w178 (am_JP_th hP)
/-- count -/
theorem am_ct179 (hd : 2 ≤ d) (hP : am_PP f a) (hy : -2147483648 ≤ y1 ∧ y1 ≤ 2147483647) : am_TE X d am_m178 0 (lv_args 0 [.ref 117, am_iv y1]) [] f a w e (am_QI (fun b f1 a1 => am_JP f a f1 a1)) E := by
  obtain ⟨d, rfl⟩ : ∃ d0, d = d0 + 1 := ⟨d - 1, by omega⟩
  refine am_w179 (am_TE.int (am_ct114 (y1 := y1) (y2 := 3) (by omega) hy (by omega)) (fun b f1 a1 hq => ?_) (fun _ _ _ h => h))
  obtain ⟨rfl, rfl, hb, hr⟩ := hq
  have hc := hP.2.2
  exact ⟨by unfold am_rg; omega, fun _ => am_JP_th hP, fun _ => ⟨by unfold am_ib; omega, am_JP_th hP⟩⟩
/-- event -/
theorem am_ct176 (hd : 2 ≤ d) (hP : am_PP f a) (hy : -2147483648 ≤ y1 ∧ y1 ≤ 2147483647) (hz : -2147483648 ≤ y2 ∧ y2 ≤ 2147483647) : am_TE X d am_m175 0 (lv_args 0 [.ref 117, am_iv y1, am_iv y2]) [] f a w e (am_QI (fun b f1 a1 => am_JP f a f1 a1)) E := by
  obtain ⟨d, rfl⟩ : ∃ d0, d = d0 + 1 := ⟨d - 1, by omega⟩
  have k57 := am_Rg11757 hP.1.1
  have l7 : (a 157).length = 200 := am_Rl157 (am_RL 157 rfl hP.1.1)
  have l8 : (a 158).length = 200 := am_Rl158 (am_RL 158 rfl hP.1.1)
  have l0 : (a 160).length = 200 := am_Rl160 (am_RL 160 rfl hP.1.1)
  refine am_w176 (am_TE.int (am_ct114 (y1 := y1) (y2 := f 11757) (by omega) hy (by omega)) (fun b f1 a1 hq => ?_) (fun _ _ _ h => h))
  obtain ⟨rfl, rfl, hb, hr⟩ := hq
  refine ⟨by unfold am_rg; omega, fun _ => ?_, fun hn => ?_⟩
  · refine am_TE.int (am_ct113 (by omega)) (fun b f2 a2 hq => ?_) (fun _ _ _ h => h)
    obtain ⟨-, rfl, rfl⟩ := hq
    exact am_JP_th2 hP
  · refine am_TE.int (am_ct114 (y1 := y2) (y2 := 3) (by omega) hz (by omega)) (fun b3 f1 a1 hq => ?_) (fun _ _ _ h => h)
    obtain ⟨rfl, rfl, hb3, hr3⟩ := hq
    refine ⟨by unfold am_rg; omega, fun _ => ⟨by unfold am_rg; omega, fun _ => ⟨by unfold am_rg; omega, fun _ => ⟨by unfold am_ib; omega, am_JP_th hP⟩, fun _ => ⟨by unfold am_ib; omega, am_JP_th hP⟩⟩, fun _ => ⟨by unfold am_ib; omega, am_JP_th hP⟩⟩, fun _ => ?_⟩
    refine am_TE.int (am_ct113 (by omega)) (fun b f2 a2 hq => ?_) (fun _ _ _ h => h)
    obtain ⟨-, rfl, rfl⟩ := hq
    exact am_JP_th2 hP
/-- character -/
theorem am_ct177 (hd : 2 ≤ d) (hP : am_PP f a) (hy : -2147483648 ≤ y1 ∧ y1 ≤ 2147483647) (hz : -2147483648 ≤ y2 ∧ y2 ≤ 2147483647) : am_TE X d am_m176 0 (lv_args 0 [.ref 117, am_iv y1, am_iv y2]) [] f a w e (am_QI (fun b f1 a1 => am_JP f a f1 a1)) E := by
  obtain ⟨d, rfl⟩ : ∃ d0, d = d0 + 1 := ⟨d - 1, by omega⟩
  have k57 := am_Rg11757 hP.1.1
  have k63 := am_Rg11763 hP.1.1
  have L0 := am_RL 160 rfl hP.1.1
  have L9 := am_RL 159 rfl hP.1.1
  have l0 : (a 160).length = 200 := am_Rl160 L0
  have l9 : (a 159).length = 200 := am_Rl159 L9
  have l2 : (a 162).length = 2000 := am_Rl162 (am_RL 162 rfl hP.1.1)
  refine am_w177 (am_TE.int (am_ct114 (y1 := y1) (y2 := f 11757) (by omega) hy (by omega)) (fun b f1 a1 hq => ?_) (fun _ _ _ h => h))
  obtain ⟨rfl, rfl, hb, hr⟩ := hq
  refine ⟨by unfold am_rg; omega, fun _ => ?_, fun hn => ?_⟩
  · refine am_TE.int (am_ct113 (by omega)) (fun b f2 a2 hq => ?_) (fun _ _ _ h => h)
    obtain ⟨-, rfl, rfl⟩ := hq
    exact am_JP_th2 hP
  · have i0 : am_ib (a 160) y1 := by unfold am_ib; omega
    have i9 : am_ib (a 159) y1 := by unfold am_ib; omega
    have b0 := am_Rb160 L0 i0
    have b9 := am_Rb159 L9 i9
    have r6 := hP.1.2.2 y1 (by omega) (by omega)
    refine ⟨i0, am_TE.int (am_ct114 (y1 := y2) (y2 := am_at (a 160) y1) (by omega) hz (by omega)) (fun b3 f1 a1 hq => ?_) (fun _ _ _ h => h)⟩
    obtain ⟨rfl, rfl, hb3, hr3⟩ := hq
    refine ⟨by unfold am_rg; omega, fun _ => ⟨i9, by unfold am_ib; omega, am_JP_th hP⟩, fun _ => ?_⟩
    refine am_TE.int (am_ct113 (by omega)) (fun b f2 a2 hq => ?_) (fun _ _ _ h => h)
    obtain ⟨-, rfl, rfl⟩ := hq
    exact am_JP_th2 hP
end AmRTop
