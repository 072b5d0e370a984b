/-! RULES OF THE METHODS (by program: wip/p2/lift.py) -/
set_option maxRecDepth 100000 in
set_option maxHeartbeats 4000000 in
theorem am_w98 {X : List Value} {d : Nat} {f : aF} {a : aA} {w : Value} {e : Nat} {P : Int → aF → aA → Prop} {E : Nat → aF → aA → Prop} {y1 : Int64} {y2 : Int}
    (hG : (am_rg y2 ∧ (y2 < 1 → E 0 f a) ∧ (1 ≤ y2 → (am_rg y2 ∧ (y2 ≤ 8 → (am_rg ((f 1) + y2) ∧ (((f 1) + y2) ≤ 360 → am_TE X (d + 1) am_m98 42 [(0, .ref 0), (1, .long (y1)), (3, am_iv y2), (4, am_iv 0)] [] f a w e (am_QI P) E) ∧ (360 < ((f 1) + y2) → E 1 f a))) ∧ (8 < y2 → E 0 f a))))) :
    am_TE X (d + 1) am_m98 0 [(0, .ref 0), (1, .long (y1)), (3, am_iv y2)] [] f a w e (am_QI P) E := by
  refine am_riload_n rfl rfl rfl ?_
  refine am_riconst rfl ?_
  obtain ⟨r1, hT, hF⟩ := hG
  refine am_ric_lt rfl rfl r1 (by unfold am_rg; omega) (fun hc => ?_) (fun hc => ?_)
  · replace hG := hT hc
    exact am_ethrow rfl rfl rfl rfl hG
  · replace hG := hF hc
    refine am_riload_n rfl rfl rfl ?_
    refine am_rbipush rfl (by decide) ?_
    obtain ⟨r1, hT, hF⟩ := hG
    refine am_ric_le rfl rfl r1 (by unfold am_rg; omega) (fun hc => ?_) (fun hc => ?_)
    · replace hG := hT hc
      refine am_raload_n rfl rfl rfl ?_
      refine am_rgetf (S1 := [am_iv (f 1)]) rfl rfl ?_
      refine am_riload_n rfl rfl rfl ?_
      refine am_riadd rfl ?_
      refine am_rsipush rfl (by decide) ?_
      obtain ⟨r1, hT, hF⟩ := hG
      refine am_ric_le rfl rfl r1 (by unfold am_rg; omega) (fun hc => ?_) (fun hc => ?_)
      · replace hG := hT hc
        refine am_riconst rfl ?_
        refine am_ristore (L1 := [(0, .ref 0), (1, .long (y1)), (3, am_iv y2), (4, am_iv 0)]) rfl rfl rfl rfl rfl ?_
        exact hG
      · replace hG := hF hc
        exact am_ethrow rfl rfl rfl rfl hG
    · replace hG := hF hc
      exact am_ethrow rfl rfl rfl rfl hG
set_option maxRecDepth 100000 in
set_option maxHeartbeats 4000000 in
theorem am_w98_42 {X : List Value} {d : Nat} {f : aF} {a : aA} {w : Value} {e : Nat} {P : Int → aF → aA → Prop} {E : Nat → aF → aA → Prop} {x1 : Int64} {x3 : Int} {x4 : Int}
    (hG : (am_rg x4 ∧ am_rg x3 ∧ (x3 ≤ x4 → P ((f 1) + x3) (am_ud f 1 ((f 1) + x3)) a) ∧ (x4 < x3 → (am_ib (a 1) ((f 1) + x4) ∧ am_TE X (d + 1) am_m98 42 [(0, .ref 0), (1, .long (x1)), (3, am_iv x3), (4, am_iv (x4 + 1))] [] f (am_ud a 1 ((a 1).set ((f 1) + x4).toNat (am_and ((x1 >>> ((Int32.ofInt (8 * x4)).toInt64 &&& 63)).toInt32.toInt) 255))) w e (am_QI P) E)))) :
    am_TE X (d + 1) am_m98 42 [(0, .ref 0), (1, .long (x1)), (3, am_iv x3), (4, am_iv x4)] [] f a w e (am_QI P) E := by
  refine am_riload rfl rfl rfl ?_
  refine am_riload_n rfl rfl rfl ?_
  obtain ⟨r1, r2, hT, hF⟩ := hG
  refine am_ric_ge rfl rfl r1 r2 (fun hc => ?_) (fun hc => ?_)
  · replace hG := hT hc
    refine am_raload_n rfl rfl rfl ?_
    refine am_rdup rfl rfl ?_
    refine am_rgetf (S1 := [am_iv (f 1), .ref 0]) rfl rfl ?_
    refine am_riload_n rfl rfl rfl ?_
    refine am_riadd rfl ?_
    refine am_rputf (S1 := []) (h1 := am_enc (am_ud f 1 ((f 1) + x3)) a w e) rfl (am_pfB rfl am_ge0 rfl (am_sf1 _)) (by rw [am_enc_len, am_enc_len]) ?_
    refine am_raload_n rfl rfl rfl ?_
    refine am_rgetf (S1 := [am_iv ((f 1) + x3)]) rfl rfl ?_
    exact am_eiret rfl rfl hG
  · replace hG := hF hc
    refine am_raload_n rfl rfl rfl ?_
    refine am_rgetf (S1 := [.ref 1]) rfl rfl ?_
    refine am_raload_n rfl rfl rfl ?_
    refine am_rgetf (S1 := [am_iv (f 1), .ref 1]) rfl rfl ?_
    refine am_riload rfl rfl rfl ?_
    refine am_riadd rfl ?_
    refine am_rlload_n rfl rfl rfl ?_
    refine am_rbipush rfl (by decide) ?_
    refine am_riload rfl rfl rfl ?_
    refine am_rimul rfl ?_
    refine am_rlshr rfl ?_
    refine am_rl2i rfl ?_
    refine am_rsipush rfl (by decide) ?_
    refine am_riand rfl ?_
    obtain ⟨hi, hG⟩ := hG
    refine am_riastore (l := a 1) (h1 := am_enc f (am_ud a 1 ((a 1).set ((f 1) + x4).toNat (am_and ((x1 >>> ((Int32.ofInt (8 * x4)).toInt64 &&& 63)).toInt32.toInt) 255))) w e) rfl am_ge1 hi (am_sa1 _) ?_
    refine am_riinc (L1 := [(0, .ref 0), (1, .long (x1)), (3, am_iv x3), (4, am_iv (x4 + 1))]) rfl rfl rfl rfl rfl ?_
    refine am_rgoto rfl rfl ?_
    exact hG
set_option maxRecDepth 100000 in
set_option maxHeartbeats 4000000 in
theorem am_w99 {X : List Value} {d : Nat} {f : aF} {a : aA} {w : Value} {e : Nat} {P : Int → aF → aA → Prop} {E : Nat → aF → aA → Prop}
    (hG : P (f 1) (am_ud f 1 0) a) :
    am_TE X (d + 1) am_m99 0 [(0, .ref 0)] [] f a w e (am_QI P) E := by
  refine am_raload_n rfl rfl rfl ?_
  refine am_rgetf (S1 := [am_iv (f 1)]) rfl rfl ?_
  refine am_ristore_n (L1 := [(0, .ref 0), (1, am_iv (f 1))]) rfl rfl rfl rfl rfl ?_
  refine am_raload_n rfl rfl rfl ?_
  refine am_riconst rfl ?_
  refine am_rputf (S1 := []) (h1 := am_enc (am_ud f 1 0) a w e) rfl (am_pfB rfl am_ge0 rfl (am_sf1 _)) (by rw [am_enc_len, am_enc_len]) ?_
  refine am_riload_n rfl rfl rfl ?_
  exact am_eiret rfl rfl hG
set_option maxRecDepth 100000 in
set_option maxHeartbeats 4000000 in
theorem am_w100 {X : List Value} {d : Nat} {f : aF} {a : aA} {w : Value} {e : Nat} {P : Int → aF → aA → Prop} {E : Nat → aF → aA → Prop} {y1 : Int}
    (hG : am_TE X d am_m59 0 (lv_args 0 [.ref 4, am_iv y1]) [] (am_ud f 2 0) a w e (am_QV (fun f1 a1 => (am_rg y1 ∧ (y1 < 0 → E 0 f1 a1) ∧ (0 ≤ y1 → (am_rg y1 ∧ (y1 ≤ 2000 → am_TE X d am_m68 0 (lv_args 0 [.ref 2, .ref 1, am_iv (f1 1)]) [] (am_ud f1 5 ((f1 5) + 1)) a1 w e (am_QV (fun f2 a2 => am_TE X d am_m31 0 (lv_args 0 [.ref 12]) [] f2 a2 w e (am_QV (fun f3 a3 => am_TE X d am_m86 0 (lv_args 0 [.ref 113]) [] f3 a3 w e (am_QV (fun f4 a4 => am_TE X d am_m17 0 (lv_args 0 [.ref 114]) [] f4 a4 w e (am_QI (fun b5 f5 a5 => (am_rg b5 ∧ (b5 ≠ 0 → P b5 (am_ud (am_ud (am_ud f5 5 ((f5 5) - 1)) 2 (f5 10606)) 4 ((f5 4) + 1)) a5) ∧ (b5 = 0 → P b5 (am_ud (am_ud (am_ud f5 5 ((f5 5) - 1)) 2 (f5 10606)) 3 ((f5 3) + 1)) a5)))) E)) E)) E)) E) ∧ (2000 < y1 → E 0 f1 a1)))))) E) :
    am_TE X (d + 1) am_m100 0 [(0, .ref 0), (1, am_iv y1)] [] f a w e (am_QI P) E := by
  refine am_raload_n rfl rfl rfl ?_
  refine am_riconst rfl ?_
  refine am_rputf (S1 := []) (h1 := am_enc (am_ud f 2 0) a w e) rfl (am_pfB rfl am_ge0 rfl (am_sf2 _)) (by rw [am_enc_len, am_enc_len]) ?_
  refine am_raload_n rfl rfl rfl ?_
  refine am_rgetf (S1 := [.ref 4]) rfl rfl ?_
  refine am_riload_n rfl rfl rfl ?_
  refine am_evirtualV (m := am_m59) (As := [.ref 4, am_iv y1]) (S1 := []) rfl rfl rfl rfl rfl rfl rfl rfl rfl rfl (am_TE.void hG (fun f1 a1 hG => ?_) (fun _ _ _ h => h))
  refine am_riload_n rfl rfl rfl ?_
  obtain ⟨r1, hT, hF⟩ := hG
  refine am_rif_lt rfl rfl r1 (fun hc => ?_) (fun hc => ?_)
  · replace hG := hT hc
    exact am_ethrow rfl rfl rfl rfl hG
  · replace hG := hF hc
    refine am_riload_n rfl rfl rfl ?_
    refine am_rsipush rfl (by decide) ?_
    obtain ⟨r1, hT, hF⟩ := hG
    refine am_ric_le rfl rfl r1 (by unfold am_rg; omega) (fun hc => ?_) (fun hc => ?_)
    · replace hG := hT hc
      refine am_raload_n rfl rfl rfl ?_
      refine am_rdup rfl rfl ?_
      refine am_rgetf (S1 := [am_iv (f1 5), .ref 0]) rfl rfl ?_
      refine am_riconst rfl ?_
      refine am_riadd rfl ?_
      refine am_rputf (S1 := []) (h1 := am_enc (am_ud f1 5 ((f1 5) + 1)) a1 w e) rfl (am_pfB rfl am_ge0 rfl (am_sf5 _)) (by rw [am_enc_len, am_enc_len]) ?_
      refine am_raload_n rfl rfl rfl ?_
      refine am_rgetf (S1 := [.ref 2]) rfl rfl ?_
      refine am_raload_n rfl rfl rfl ?_
      refine am_rgetf (S1 := [.ref 1, .ref 2]) rfl rfl ?_
      refine am_raload_n rfl rfl rfl ?_
      refine am_rgetf (S1 := [am_iv (f1 1), .ref 1, .ref 2]) rfl rfl ?_
      refine am_evirtualV (m := am_m68) (As := [.ref 2, .ref 1, am_iv (f1 1)]) (S1 := []) rfl rfl rfl rfl rfl rfl rfl rfl rfl rfl (am_TE.void hG (fun f2 a2 hG => ?_) (fun _ _ _ h => h))
      refine am_raload_n rfl rfl rfl ?_
      refine am_rgetf (S1 := [.ref 12]) rfl rfl ?_
      refine am_evirtualV (m := am_m31) (As := [.ref 12]) (S1 := []) rfl rfl rfl rfl rfl rfl rfl rfl rfl rfl (am_TE.void hG (fun f3 a3 hG => ?_) (fun _ _ _ h => h))
      refine am_raload_n rfl rfl rfl ?_
      refine am_rgetf (S1 := [.ref 113]) rfl rfl ?_
      refine am_evirtualV (m := am_m86) (As := [.ref 113]) (S1 := []) rfl rfl rfl rfl rfl rfl rfl rfl rfl rfl (am_TE.void hG (fun f4 a4 hG => ?_) (fun _ _ _ h => h))
      refine am_raload_n rfl rfl rfl ?_
      refine am_rgetf (S1 := [.ref 114]) rfl rfl ?_
      refine am_evirtualI (m := am_m17) (As := [.ref 114]) (S1 := []) rfl rfl rfl rfl rfl rfl rfl rfl rfl rfl (am_TE.int hG (fun b5 f5 a5 hG => ?_) (fun _ _ _ h => h))
      refine am_ristore_n (L1 := [(0, .ref 0), (1, am_iv y1), (2, am_iv b5)]) rfl rfl rfl rfl rfl ?_
      refine am_raload_n rfl rfl rfl ?_
      refine am_rdup rfl rfl ?_
      refine am_rgetf (S1 := [am_iv (f5 5), .ref 0]) rfl rfl ?_
      refine am_riconst rfl ?_
      refine am_risub rfl ?_
      refine am_rputf (S1 := []) (h1 := am_enc (am_ud f5 5 ((f5 5) - 1)) a5 w e) rfl (am_pfB rfl am_ge0 rfl (am_sf5 _)) (by rw [am_enc_len, am_enc_len]) ?_
      refine am_raload_n rfl rfl rfl ?_
      refine am_raload_n rfl rfl rfl ?_
      refine am_rgetf (S1 := [.ref 106, .ref 0]) rfl rfl ?_
      refine am_rgetf (S1 := [am_iv (f5 10606), .ref 0]) rfl rfl ?_
      refine am_rputf (S1 := []) (h1 := am_enc (am_ud (am_ud f5 5 ((f5 5) - 1)) 2 (f5 10606)) a5 w e) rfl (am_pfB rfl am_ge0 rfl (am_sf2 _)) (by rw [am_enc_len, am_enc_len]) ?_
      refine am_riload_n rfl rfl rfl ?_
      obtain ⟨r1, hT, hF⟩ := hG
      refine am_rif_ne rfl rfl r1 (fun hc => ?_) (fun hc => ?_)
      · replace hG := hT hc
        refine am_raload_n rfl rfl rfl ?_
        refine am_rdup rfl rfl ?_
        refine am_rgetf (S1 := [am_iv (f5 4), .ref 0]) rfl rfl ?_
        refine am_riconst rfl ?_
        refine am_riadd rfl ?_
        refine am_rputf (S1 := []) (h1 := am_enc (am_ud (am_ud (am_ud f5 5 ((f5 5) - 1)) 2 (f5 10606)) 4 ((f5 4) + 1)) a5 w e) rfl (am_pfB rfl am_ge0 rfl (am_sf4 _)) (by rw [am_enc_len, am_enc_len]) ?_
        refine am_riload_n rfl rfl rfl ?_
        exact am_eiret rfl rfl hG
      · replace hG := hF hc
        refine am_raload_n rfl rfl rfl ?_
        refine am_rdup rfl rfl ?_
        refine am_rgetf (S1 := [am_iv (f5 3), .ref 0]) rfl rfl ?_
        refine am_riconst rfl ?_
        refine am_riadd rfl ?_
        refine am_rputf (S1 := []) (h1 := am_enc (am_ud (am_ud (am_ud f5 5 ((f5 5) - 1)) 2 (f5 10606)) 3 ((f5 3) + 1)) a5 w e) rfl (am_pfB rfl am_ge0 rfl (am_sf3 _)) (by rw [am_enc_len, am_enc_len]) ?_
        refine am_rgoto rfl rfl ?_
        refine am_riload_n rfl rfl rfl ?_
        exact am_eiret rfl rfl hG
    · replace hG := hF hc
      exact am_ethrow rfl rfl rfl rfl hG
set_option maxRecDepth 100000 in
set_option maxHeartbeats 4000000 in
theorem am_w101 {X : List Value} {d : Nat} {f : aF} {a : aA} {w : Value} {e : Nat} {P : Int → aF → aA → Prop} {E : Nat → aF → aA → Prop}
    (hG : P (f 2) f a) :
    am_TE X (d + 1) am_m101 0 [(0, .ref 0)] [] f a w e (am_QI P) E := by
  refine am_raload_n rfl rfl rfl ?_
  refine am_rgetf (S1 := [am_iv (f 2)]) rfl rfl ?_
  exact am_eiret rfl rfl hG
set_option maxRecDepth 100000 in
set_option maxHeartbeats 4000000 in
theorem am_w102 {X : List Value} {d : Nat} {f : aF} {a : aA} {w : Value} {e : Nat} {P : Int → aF → aA → Prop} {E : Nat → aF → aA → Prop} {y1 : Int} {y2 : Int}
    (hG : (am_rg y1 ∧ (y1 < 0 → E 3 f a) ∧ (0 ≤ y1 → (am_rg y1 ∧ am_rg (f 2) ∧ ((f 2) ≤ y1 → E 3 f a) ∧ (y1 < (f 2) → (am_rg y2 ∧ (y2 < 0 → E 3 f a) ∧ (0 ≤ y2 → (am_rg y2 ∧ (y2 ≤ 2 → (am_rg y2 ∧ (y2 ≠ 0 → (am_rg y2 ∧ (y2 ≠ 1 → (am_ib (a 110) y1 ∧ P (am_at (a 110) y1) f a)) ∧ (y2 = 1 → (am_ib (a 108) y1 ∧ P (am_at (a 108) y1) f a)))) ∧ (y2 = 0 → (am_ib (a 107) y1 ∧ P (am_at (a 107) y1) f a)))) ∧ (2 < y2 → E 3 f a))))))))) :
    am_TE X (d + 1) am_m102 0 [(0, .ref 0), (1, am_iv y1), (2, am_iv y2)] [] f a w e (am_QI P) E := by
  refine am_riload_n rfl rfl rfl ?_
  obtain ⟨r1, hT, hF⟩ := hG
  refine am_rif_lt rfl rfl r1 (fun hc => ?_) (fun hc => ?_)
  · replace hG := hT hc
    exact am_ethrow rfl rfl rfl rfl hG
  · replace hG := hF hc
    refine am_riload_n rfl rfl rfl ?_
    refine am_raload_n rfl rfl rfl ?_
    refine am_rgetf (S1 := [am_iv (f 2), am_iv y1]) rfl rfl ?_
    obtain ⟨r1, r2, hT, hF⟩ := hG
    refine am_ric_ge rfl rfl r1 r2 (fun hc => ?_) (fun hc => ?_)
    · replace hG := hT hc
      exact am_ethrow rfl rfl rfl rfl hG
    · replace hG := hF hc
      refine am_riload_n rfl rfl rfl ?_
      obtain ⟨r1, hT, hF⟩ := hG
      refine am_rif_lt rfl rfl r1 (fun hc => ?_) (fun hc => ?_)
      · replace hG := hT hc
        exact am_ethrow rfl rfl rfl rfl hG
      · replace hG := hF hc
        refine am_riload_n rfl rfl rfl ?_
        refine am_riconst rfl ?_
        obtain ⟨r1, hT, hF⟩ := hG
        refine am_ric_le rfl rfl r1 (by unfold am_rg; omega) (fun hc => ?_) (fun hc => ?_)
        · replace hG := hT hc
          refine am_riload_n rfl rfl rfl ?_
          obtain ⟨r1, hT, hF⟩ := hG
          refine am_rif_ne rfl rfl r1 (fun hc => ?_) (fun hc => ?_)
          · replace hG := hT hc
            refine am_riload_n rfl rfl rfl ?_
            refine am_riconst rfl ?_
            obtain ⟨r1, hT, hF⟩ := hG
            refine am_ric_ne rfl rfl r1 (by unfold am_rg; omega) (fun hc => ?_) (fun hc => ?_)
            · replace hG := hT hc
              refine am_raload_n rfl rfl rfl ?_
              refine am_rgetf (S1 := [.ref 106]) rfl rfl ?_
              refine am_rgetf (S1 := [.ref 110]) rfl rfl ?_
              refine am_riload_n rfl rfl rfl ?_
              obtain ⟨hi, hG⟩ := hG
              refine am_riaload (l := a 110) rfl am_ge110 hi ?_
              exact am_eiret rfl rfl hG
            · replace hG := hF hc
              refine am_raload_n rfl rfl rfl ?_
              refine am_rgetf (S1 := [.ref 106]) rfl rfl ?_
              refine am_rgetf (S1 := [.ref 108]) rfl rfl ?_
              refine am_riload_n rfl rfl rfl ?_
              obtain ⟨hi, hG⟩ := hG
              refine am_riaload (l := a 108) rfl am_ge108 hi ?_
              refine am_rgoto rfl rfl ?_
              exact am_eiret rfl rfl hG
          · replace hG := hF hc
            refine am_raload_n rfl rfl rfl ?_
            refine am_rgetf (S1 := [.ref 106]) rfl rfl ?_
            refine am_rgetf (S1 := [.ref 107]) rfl rfl ?_
            refine am_riload_n rfl rfl rfl ?_
            obtain ⟨hi, hG⟩ := hG
            refine am_riaload (l := a 107) rfl am_ge107 hi ?_
            exact am_eiret rfl rfl hG
        · replace hG := hF hc
          exact am_ethrow rfl rfl rfl rfl hG
set_option maxRecDepth 100000 in
set_option maxHeartbeats 4000000 in
theorem am_w103 {X : List Value} {d : Nat} {f : aF} {a : aA} {w : Value} {e : Nat} {P : Int → aF → aA → Prop} {E : Nat → aF → aA → Prop} {y1 : Int} {y2 : Int}
    (hG : (am_rg y1 ∧ (y1 < 0 → E 3 f a) ∧ (0 ≤ y1 → (am_rg y1 ∧ am_rg (f 2) ∧ ((f 2) ≤ y1 → E 3 f a) ∧ (y1 < (f 2) → (am_rg y2 ∧ (y2 < 0 → E 3 f a) ∧ (0 ≤ y2 → (am_ib (a 110) y1 ∧ (am_rg y2 ∧ am_rg (am_at (a 110) y1) ∧ (y2 < (am_at (a 110) y1) → (am_ib (a 109) y1 ∧ (am_ib (a 112) ((am_at (a 109) y1) + y2) ∧ P (am_at (a 112) ((am_at (a 109) y1) + y2)) f a))) ∧ ((am_at (a 110) y1) ≤ y2 → E 3 f a)))))))))) :
    am_TE X (d + 1) am_m103 0 [(0, .ref 0), (1, am_iv y1), (2, am_iv y2)] [] f a w e (am_QI P) E := by
  refine am_riload_n rfl rfl rfl ?_
  obtain ⟨r1, hT, hF⟩ := hG
  refine am_rif_lt rfl rfl r1 (fun hc => ?_) (fun hc => ?_)
  · replace hG := hT hc
    exact am_ethrow rfl rfl rfl rfl hG
  · replace hG := hF hc
    refine am_riload_n rfl rfl rfl ?_
    refine am_raload_n rfl rfl rfl ?_
    refine am_rgetf (S1 := [am_iv (f 2), am_iv y1]) rfl rfl ?_
    obtain ⟨r1, r2, hT, hF⟩ := hG
    refine am_ric_ge rfl rfl r1 r2 (fun hc => ?_) (fun hc => ?_)
    · replace hG := hT hc
      exact am_ethrow rfl rfl rfl rfl hG
    · replace hG := hF hc
      refine am_riload_n rfl rfl rfl ?_
      obtain ⟨r1, hT, hF⟩ := hG
      refine am_rif_lt rfl rfl r1 (fun hc => ?_) (fun hc => ?_)
      · replace hG := hT hc
        exact am_ethrow rfl rfl rfl rfl hG
      · replace hG := hF hc
        refine am_riload_n rfl rfl rfl ?_
        refine am_raload_n rfl rfl rfl ?_
        refine am_rgetf (S1 := [.ref 106, am_iv y2]) rfl rfl ?_
        refine am_rgetf (S1 := [.ref 110, am_iv y2]) rfl rfl ?_
        refine am_riload_n rfl rfl rfl ?_
        obtain ⟨hi, hG⟩ := hG
        refine am_riaload (l := a 110) rfl am_ge110 hi ?_
        obtain ⟨r1, r2, hT, hF⟩ := hG
        refine am_ric_lt rfl rfl r1 r2 (fun hc => ?_) (fun hc => ?_)
        · replace hG := hT hc
          refine am_raload_n rfl rfl rfl ?_
          refine am_rgetf (S1 := [.ref 106]) rfl rfl ?_
          refine am_rgetf (S1 := [.ref 112]) rfl rfl ?_
          refine am_raload_n rfl rfl rfl ?_
          refine am_rgetf (S1 := [.ref 106, .ref 112]) rfl rfl ?_
          refine am_rgetf (S1 := [.ref 109, .ref 112]) rfl rfl ?_
          refine am_riload_n rfl rfl rfl ?_
          obtain ⟨hi, hG⟩ := hG
          refine am_riaload (l := a 109) rfl am_ge109 hi ?_
          refine am_riload_n rfl rfl rfl ?_
          refine am_riadd rfl ?_
          obtain ⟨hi, hG⟩ := hG
          refine am_riaload (l := a 112) rfl am_ge112 hi ?_
          exact am_eiret rfl rfl hG
        · replace hG := hF hc
          exact am_ethrow rfl rfl rfl rfl hG
set_option maxRecDepth 100000 in
set_option maxHeartbeats 4000000 in
theorem am_w104 {X : List Value} {d : Nat} {f : aF} {a : aA} {w : Value} {e : Nat} {P : Int → aF → aA → Prop} {E : Nat → aF → aA → Prop}
    (hG : P (f 408) f a) :
    am_TE X (d + 1) am_m104 0 [(0, .ref 0)] [] f a w e (am_QI P) E := by
  refine am_raload_n rfl rfl rfl ?_
  refine am_rgetf (S1 := [.ref 4]) rfl rfl ?_
  refine am_rgetf (S1 := [am_iv (f 408)]) rfl rfl ?_
  exact am_eiret rfl rfl hG
set_option maxRecDepth 100000 in
set_option maxHeartbeats 4000000 in
theorem am_w105 {X : List Value} {d : Nat} {f : aF} {a : aA} {w : Value} {e : Nat} {P : Int → aF → aA → Prop} {E : Nat → aF → aA → Prop} {y1 : Int}
    (hG : (am_rg y1 ∧ ((y1 < 0 ∨ 2 < y1) → P ((-1)) f a) ∧ (y1 = 0 → P (f 3) f a) ∧ (y1 = 1 → P (f 4) f a) ∧ (y1 = 2 → P (f 5) f a))) :
    am_TE X (d + 1) am_m105 0 [(0, .ref 0), (1, am_iv y1)] [] f a w e (am_QI P) E := by
  refine am_riload_n rfl rfl rfl ?_
  obtain ⟨r1, hD, hS0, hS1, hS2⟩ := hG
  refine am_rsw rfl r1 rfl (fun hc => ?_) (fun h8 h9 => ?_)
  · replace hG := hD hc
    refine am_riconst rfl ?_
    exact am_eiret rfl rfl hG
  · rcases (show y1 = 0 ∨ y1 = 1 ∨ y1 = 2 by omega) with hc | hc | hc
    · refine ⟨_, _, by rw [hc]; rfl, rfl, ?_⟩
      replace hG := hS0 hc
      refine am_raload_n rfl rfl rfl ?_
      refine am_rgetf (S1 := [am_iv (f 3)]) rfl rfl ?_
      exact am_eiret rfl rfl hG
    · refine ⟨_, _, by rw [hc]; rfl, rfl, ?_⟩
      replace hG := hS1 hc
      refine am_raload_n rfl rfl rfl ?_
      refine am_rgetf (S1 := [am_iv (f 4)]) rfl rfl ?_
      exact am_eiret rfl rfl hG
    · refine ⟨_, _, by rw [hc]; rfl, rfl, ?_⟩
      replace hG := hS2 hc
      refine am_raload_n rfl rfl rfl ?_
      refine am_rgetf (S1 := [am_iv (f 5)]) rfl rfl ?_
      exact am_eiret rfl rfl hG
/-! THE CLASS BETWEEN TWO CALLS -/
def am_CP (f : aF) (a : aA) : Prop := am_IV false f a f a ∧ (0 ≤ f 1 ∧ f 1 ≤ 360) ∧ (0 ≤ f 2 ∧ f 2 ≤ f 10606)
/-- a call of the one leaves the other -/
def am_cf (f : aF) (a : aA) (f1 : aF) (a1 : aA) : Prop := (∀ k, 11700 ≤ k → f1 k = f k) ∧ (∀ k, 117 ≤ k → a1 k = a k)
section AmTop
variable {p q : Bool} {g : aF} {h : aA} {f f1 f2 : aF} {a a1 a2 : aA} {k : Nat} {v : Int} {X : List Value} {w : Value} {e d : Nat} {y1 y2 : Int}
theorem am_cf.refl (f : aF) (a : aA) : am_cf f a f a := ⟨fun _ _ => rfl, fun _ _ => rfl⟩
theorem am_IV_self (hI : am_IV p g h f a) (hr : am_RU q f) : am_IV q f a f a := ⟨⟨hI.1.1, hI.1.2.1, fun _ _ => rfl, fun _ _ => rfl, hr⟩, hI.2⟩
theorem am_RU_f (f : aF) : am_RU false f := fun z => absurd z (by decide)
theorem am_IV_top (hk : k < 200) (hR : am_KR f a → am_KR (am_ud f k v) a) (hu : am_RU p f → am_RU p (am_ud f k v)) (hI : am_IV p f a f a) : am_IV p (am_ud f k v) a (am_ud f k v) a := by
  refine ⟨⟨fun j h1 h2 => ?_, hI.1.2.1, fun _ _ => rfl, fun _ _ => rfl, hu hI.1.2.2.2.2⟩, hR hI.2⟩
  rw [am_ud_ne _ _ (by omega)]; exact hI.1.1 j h1 h2
theorem am_ct98_42 (hd : 1 ≤ d + 1) {P : Int → aF → aA → Prop} {E : Nat → aF → aA → Prop} {x1 : Int64} {a0 : aA} (hP : ∀ a1, am_CP f a1 → (∀ k, k ≠ 1 → a1 k = a0 k) → P (f 1 + y2) (am_ud f 1 (f 1 + y2)) a1) (hy : 1 ≤ y2 ∧ y2 ≤ 8) (hs : f 1 + y2 ≤ 360) (n : Nat) :
    ∀ {x4 : Int} {a : aA}, (y2 - x4).toNat < n → am_CP f a → (∀ k, k ≠ 1 → a k = a0 k) → 0 ≤ x4 → x4 ≤ 8 → am_TE X (d + 1) am_m98 42 [(0, .ref 0), (1, .long (x1)), (3, am_iv y2), (4, am_iv x4)] [] f a w e (am_QI P) E := by
  induction n with
  | zero => intros; omega
  | succ n ih =>
    intro x4 a hn hC hk h0 h8
    obtain ⟨hI, h1, h2⟩ := hC
    have hl : (a 1).length = 360 := am_Ll1 (am_IL 1 rfl hI)
    refine am_w98_42 ⟨by unfold am_rg; omega, ?_, fun hc => ?_, fun hc => ⟨?_, ?_⟩⟩
    · unfold am_rg; omega
    · exact hP a ⟨hI, h1, h2⟩ hk
    · unfold am_ib; omega
    · refine ih (by omega) ⟨⟨⟨hI.1.1, fun j j1 j2 => ?_, fun _ _ => rfl, fun _ _ => rfl, am_RU_f _⟩, hI.2⟩, h1, h2⟩ (fun k hk1 => ?_) (by omega) (by omega)
      · by_cases he : j = 1
        · subst he; rw [am_ud_eq]
          have hb := am_and_255 ((x1 >>> ((Int32.ofInt (8 * x4)).toInt64 &&& 63)).toInt32.toInt)
          exact am_LS1 (am_IL 1 rfl hI) hb.1 hb.2
        · rw [am_ud_ne _ _ he]; exact hI.1.2.1 j j1 j2
      · rw [am_ud_ne _ _ hk1]; exact hk k hk1

/-- bytes -/
theorem am_ct98 {x1 : Int64} (hd : 1 ≤ d) (hC : am_CP f a) (hy : -2147483648 ≤ y2 ∧ y2 ≤ 2147483647) :
    am_TE X d am_m98 0 (lv_args 0 [.ref 0, .long x1, am_iv y2]) [] f a w e
      (am_QI (fun b f1 a1 => b = f 1 + y2 ∧ (1 ≤ y2 ∧ y2 ≤ 8 ∧ f 1 + y2 ≤ 360) ∧ am_CP f1 a1 ∧ f1 1 = f 1 + y2 ∧ am_cf f a f1 a1))
      (fun x f1 a1 => ((x = 0 ∧ (y2 < 1 ∨ 8 < y2)) ∨ (x = 1 ∧ 1 ≤ y2 ∧ y2 ≤ 8 ∧ 360 < f 1 + y2)) ∧ f = f1 ∧ a = a1) := by
  obtain ⟨d, rfl⟩ : ∃ d0, d = d0 + 1 := ⟨d - 1, by omega⟩
  have h1 := hC.2.1
  refine am_w98 ⟨by unfold am_rg; omega, fun hc => ⟨Or.inl ⟨rfl, Or.inl hc⟩, rfl, rfl⟩, fun hc => ⟨by unfold am_rg; omega, fun hc2 => ⟨by unfold am_rg; omega, fun hc3 => ?_, fun hc3 => ⟨Or.inr ⟨rfl, hc, hc2, hc3⟩, rfl, rfl⟩⟩, fun hc2 => ⟨Or.inl ⟨rfl, Or.inr hc2⟩, rfl, rfl⟩⟩⟩
  refine am_ct98_42 (a0 := a) (by omega) (fun a1 hC1 hk => ?_) ⟨hc, hc2⟩ hc3 (_ + 1) (Nat.lt_succ_self _) hC (fun _ _ => rfl) (by omega) (by omega)
  refine ⟨rfl, ⟨hc, hc2, hc3⟩, ⟨am_IV_top (by decide) (fun z => z) (fun _ => am_RU_f _) hC1.1, ?_, hC1.2.2⟩, rfl, fun k h => am_ud_ne _ _ (by omega), fun k h => hk k (by omega)⟩
  show 0 ≤ f 1 + y2 ∧ f 1 + y2 ≤ 360
  omega
/-- clear -/
theorem am_ct99 (hd : 1 ≤ d) (hC : am_CP f a) {E : Nat → aF → aA → Prop} :
    am_TE X d am_m99 0 (lv_args 0 [.ref 0]) [] f a w e (am_QI (fun b f1 a1 => b = f 1 ∧ am_CP f1 a1 ∧ f1 1 = 0 ∧ am_cf f a f1 a1)) E := by
  obtain ⟨d, rfl⟩ : ∃ d0, d = d0 + 1 := ⟨d - 1, by omega⟩
  exact am_w99 ⟨rfl, ⟨am_IV_top (by decide) (fun z => z) (fun _ => am_RU_f _) hC.1, show (0 : Int) ≤ 0 ∧ (0 : Int) ≤ 360 by omega, hC.2.2⟩, rfl, fun k h => am_ud_ne _ _ (by omega), fun _ _ => rfl⟩
/-- judge -/
theorem am_ct100 (hd : 27 ≤ d) (hC : am_CP f a) (hy : -2147483648 ≤ y1 ∧ y1 ≤ 2147483647) :
    am_TE X d am_m100 0 (lv_args 0 [.ref 0, am_iv y1]) [] f a w e (am_QI (fun b f1 a1 => (-2147483648 ≤ b ∧ b ≤ 2147483647) ∧ am_CP f1 a1 ∧ f1 1 = f 1 ∧ am_cf f a f1 a1)) (fun x f1 a1 => x < 3 ∧ am_CP f1 a1 ∧ f1 1 = f 1 ∧ am_cf f a f1 a1) := by
  obtain ⟨d, rfl⟩ : ∃ d0, d = d0 + 1 := ⟨d - 1, by omega⟩
  obtain ⟨hI, h1, h2⟩ := hC
  have hI0 : am_IV false (am_ud f 2 0) a (am_ud f 2 0) a := am_IV_top (by decide) (fun z => z) (fun _ => am_RU_f _) hI
  -- what an end within leaves
  have hE : ∀ (g : aF) (h : aA) (f1 : aF) (a1 : aA) (p : Bool), am_IV p g h f1 a1 → g 1 = f 1 → g 2 = 0 → (∀ k, 11700 ≤ k → g k = f k) → (∀ k, 117 ≤ k → h k = a k) → am_CP f1 a1 ∧ f1 1 = f 1 ∧ am_cf f a f1 a1 := by
    intro g h f1 a1 p hI1 e1 e2 e3 e4
    have z1 : f1 1 = g 1 := hI1.1.2.2.1 1 (by omega)
    have z2 : f1 2 = g 2 := hI1.1.2.2.1 2 (by omega)
    have z3 := am_Ig10606 hI1
    refine ⟨⟨am_IV_self hI1 (am_RU_f _), by rw [z1, e1]; exact h1, by rw [z2, e2]; exact ⟨by decide, z3.1⟩⟩, z1.trans e1, fun k hk => (hI1.1.2.2.1 k (by omega)).trans (e3 k hk), fun k hk => (hI1.1.2.2.2.1 k (by omega)).trans (e4 k hk)⟩
  have g2 : ∀ k, 11700 ≤ k → am_ud f 2 0 k = f k := fun k hk => am_ud_ne _ _ (by omega)
  refine am_w100 (am_TE.void (am_ct59 (by omega) hI0 hy) (fun f1 a1 hq => ?_) (fun x f1 a1 hx => ⟨hx.1, hE _ _ _ _ _ hx.2 rfl rfl g2 (fun _ _ => rfl)⟩))
  obtain ⟨hI1, hq1, hq2⟩ := hq
  have hE1 := hE _ _ _ _ _ hI1 rfl rfl g2 (fun _ _ => rfl)
  have s1 : f1 1 = f 1 := hE1.2.1
  have s2 : f1 2 = 0 := hI1.1.2.2.1 2 (by omega)
  refine ⟨by unfold am_rg; omega, fun hc => ⟨by decide, hE1⟩, fun hc => ⟨by unfold am_rg; omega, fun hc2 => ?_, fun hc2 => ⟨by decide, hE1⟩⟩⟩
  have hI2 : am_IV true (am_ud f1 5 (f1 5 + 1)) a1 (am_ud f1 5 (f1 5 + 1)) a1 := am_IV_top (by decide) (fun z => z) (fun z => z) (am_IV_self hI1 (fun _ => ⟨⟨by omega, by omega⟩, by omega⟩))
  have g5 : ∀ k, 11700 ≤ k → am_ud f1 5 (f1 5 + 1) k = f k := fun k hk => (am_ud_ne _ _ (by omega)).trans (hE1.2.2.1 k hk)
  have hX : ∀ x f a, am_EC (am_ud f1 5 (f1 5 + 1)) a1 x f a → x < 3 ∧ am_CP f a ∧ f 1 = _ ∧ am_cf _ _ f a := fun x f2 a2 hx => ⟨hx.1, hE _ _ _ _ _ hx.2 s1 s2 g5 hE1.2.2.2⟩
  refine am_TE.void (am_ct68 (y2 := f1 1) (by omega) hI2 (by omega) (by omega)) (fun f2 a2 hI3 => ?_) hX
  refine am_TE.void (am_ct31 (by omega) hI3) (fun f3 a3 hI4 => ?_) hX
  refine am_TE.void (am_ct86 (by omega) hI4) (fun f4 a4 hI5 => ?_) hX
  refine am_TE.int (am_ct17 (by omega) hI5) (fun b5 f5 a5 hq => ?_) hX
  obtain ⟨hI6, hb⟩ := hq
  have hE6 := hE _ _ _ _ _ hI6 s1 s2 g5 hE1.2.2.2
  have k06 := am_Ig10606 hI6
  have hI7 : am_IV false (am_ud (am_ud f5 5 (f5 5 - 1)) 2 (f5 10606)) a5 (am_ud (am_ud f5 5 (f5 5 - 1)) 2 (f5 10606)) a5 := am_IV_top (by decide) (fun z => z) (fun z => z) (am_IV_top (by decide) (fun z => z) (fun z => z) (am_IV_self hI6 (am_RU_f _)))
  refine ⟨by unfold am_rg; omega, fun hc => ⟨hb, ⟨am_IV_top (by decide) (fun z => z) (fun z => z) hI7, ?_, k06.1, Int.le_refl _⟩, hE6.2.1, fun k hk => ?_, hE6.2.2.2⟩, fun hc => ⟨hb, ⟨am_IV_top (by decide) (fun z => z) (fun z => z) hI7, ?_, k06.1, Int.le_refl _⟩, hE6.2.1, fun k hk => ?_, hE6.2.2.2⟩⟩
  · exact hE6.1.2.1
  · rw [am_ud_ne _ _ (by omega), am_ud_ne _ _ (by omega), am_ud_ne _ _ (by omega)]; exact hE6.2.2.1 k hk
  · exact hE6.1.2.1
  · rw [am_ud_ne _ _ (by omega), am_ud_ne _ _ (by omega), am_ud_ne _ _ (by omega)]; exact hE6.2.2.1 k hk
/-- events, cost, count -/
theorem am_ct101 (hd : 1 ≤ d) {E : Nat → aF → aA → Prop} : am_TE X d am_m101 0 (lv_args 0 [.ref 0]) [] f a w e (am_QI (fun b f1 a1 => f = f1 ∧ a = a1)) E := by
  obtain ⟨d, rfl⟩ : ∃ d0, d = d0 + 1 := ⟨d - 1, by omega⟩
  exact am_w101 ⟨rfl, rfl⟩
theorem am_ct104 (hd : 1 ≤ d) {E : Nat → aF → aA → Prop} : am_TE X d am_m104 0 (lv_args 0 [.ref 0]) [] f a w e (am_QI (fun b f1 a1 => f = f1 ∧ a = a1)) E := by
  obtain ⟨d, rfl⟩ : ∃ d0, d = d0 + 1 := ⟨d - 1, by omega⟩
  exact am_w104 ⟨rfl, rfl⟩
theorem am_ct105 (hd : 1 ≤ d) (hy : -2147483648 ≤ y1 ∧ y1 ≤ 2147483647) {E : Nat → aF → aA → Prop} : am_TE X d am_m105 0 (lv_args 0 [.ref 0, am_iv y1]) [] f a w e (am_QI (fun b f1 a1 => f = f1 ∧ a = a1)) E := by
  obtain ⟨d, rfl⟩ : ∃ d0, d = d0 + 1 := ⟨d - 1, by omega⟩
  exact am_w105 ⟨by unfold am_rg; omega, fun _ => ⟨rfl, rfl⟩, fun _ => ⟨rfl, rfl⟩, fun _ => ⟨rfl, rfl⟩, fun _ => ⟨rfl, rfl⟩⟩
/-- event -/
theorem am_ct102 (hd : 1 ≤ d) (hC : am_CP f a) (hy : -2147483648 ≤ y1 ∧ y1 ≤ 2147483647) (hz : -2147483648 ≤ y2 ∧ y2 ≤ 2147483647) : am_TE X d am_m102 0 (lv_args 0 [.ref 0, am_iv y1, am_iv y2]) [] f a w e (am_QI (fun b f1 a1 => f = f1 ∧ a = a1)) (fun x f1 a1 => x = 3 ∧ f = f1 ∧ a = a1) := by
  obtain ⟨d, rfl⟩ : ∃ d0, d = d0 + 1 := ⟨d - 1, by omega⟩
  have k06 := am_Ig10606 hC.1
  have h2 := hC.2.2
  have l7 : (a 107).length = 200 := am_Ll107 (am_IL 107 rfl hC.1)
  have l8 : (a 108).length = 200 := am_Ll108 (am_IL 108 rfl hC.1)
  have l0 : (a 110).length = 200 := am_Ll110 (am_IL 110 rfl hC.1)
  exact am_w102 ⟨by unfold am_rg; omega, fun _ => ⟨rfl, rfl, rfl⟩, fun h3 => ⟨by unfold am_rg; omega, by unfold am_rg; omega, fun _ => ⟨rfl, rfl, rfl⟩, fun h4 => ⟨by unfold am_rg; omega, fun _ => ⟨rfl, rfl, rfl⟩, fun h5 => ⟨by unfold am_rg; omega, fun h6 => ⟨by unfold am_rg; omega, fun h7 => ⟨by unfold am_rg; omega, fun _ => ⟨by unfold am_ib; omega, rfl, rfl⟩, fun _ => ⟨by unfold am_ib; omega, rfl, rfl⟩⟩, fun _ => ⟨by unfold am_ib; omega, rfl, rfl⟩⟩, fun _ => ⟨rfl, rfl, rfl⟩⟩⟩⟩⟩
/-- character -/
theorem am_ct103 (hd : 1 ≤ d) (hC : am_CP f a) (hy : -2147483648 ≤ y1 ∧ y1 ≤ 2147483647) (hz : -2147483648 ≤ y2 ∧ y2 ≤ 2147483647) : am_TE X d am_m103 0 (lv_args 0 [.ref 0, am_iv y1, am_iv y2]) [] f a w e (am_QI (fun b f1 a1 => f = f1 ∧ a = a1)) (fun x f1 a1 => x = 3 ∧ f = f1 ∧ a = a1) := by
  obtain ⟨d, rfl⟩ : ∃ d0, d = d0 + 1 := ⟨d - 1, by omega⟩
  have k06 := am_Ig10606 hC.1
  have k07 := am_Ig10607 hC.1
  have h2 := hC.2.2
  have l9 : (a 109).length = 200 := am_Ll109 (am_IL 109 rfl hC.1)
  have l0 : (a 110).length = 200 := am_Ll110 (am_IL 110 rfl hC.1)
  have l2 : (a 112).length = 2000 := am_Ll112 (am_IL 112 rfl hC.1)
  refine am_w103 ⟨by unfold am_rg; omega, fun _ => ⟨rfl, rfl, rfl⟩, fun h3 => ⟨by unfold am_rg; omega, by unfold am_rg; omega, fun _ => ⟨rfl, rfl, rfl⟩, fun h4 => ⟨by unfold am_rg; omega, fun _ => ⟨rfl, rfl, rfl⟩, fun h5 => ?_⟩⟩⟩
  have i0 : am_ib (a 110) y1 := by unfold am_ib; omega
  have i9 : am_ib (a 109) y1 := by unfold am_ib; omega
  have b0 := am_Lb110 (am_IL 110 rfl hC.1) i0
  have b9 := am_Lb109 (am_IL 109 rfl hC.1) i9
  have r := hC.1.2.2.2.1 y1 (by omega) (by omega)
  exact ⟨i0, by unfold am_rg; omega, by unfold am_rg; omega, fun h6 => ⟨i9, by unfold am_ib; omega, rfl, rfl⟩, fun _ => ⟨rfl, rfl, rfl⟩⟩
end AmTop
