set_option maxRecDepth 100000 in
set_option maxHeartbeats 4000000 in
theorem am_ct59_17 {X : List Value} {w : Value} {e : Nat} {g : aF} {h : aA} {d : Nat} {z407 : Int} (hd : 1 ≤ d + 1) (n : Nat) :
    ∀ {f : aF} {a : aA} {x2 : Int}, (26 - x2).toNat < n → am_IV false g h f a → (-2147483648 ≤ x2 ∧ x2 ≤ 2147483647) → 0 ≤ x2 → f 407 = z407 → f 408 = 0 → am_TE X (d + 1) am_m59 17 [(0, .ref 4), (2, am_iv x2)] [] f a w e (am_QV (fun f1 a1 => am_IV false g h f1 a1 ∧ f1 407 = z407 ∧ f1 408 = 0)) (am_EC g h) := by
  induction n with
  | zero => intros; omega
  | succ n ih =>
    intro f a x2 hn hI hp0 hp1 hp2 hp3
    have q1 := am_Ig407 hI
    have q2 := am_Ig408 hI
    refine am_riload_n rfl rfl rfl ?_
    refine am_rbipush rfl (by decide) ?_
    refine am_ric_ge rfl rfl (by unfold am_rg; omega) (by unfold am_rg; omega) (fun hc3 => ?_) (fun hc3 => ?_)
    · exact am_eret rfl rfl ⟨hI, (show f 407 = z407 by omega), (show f 408 = 0 by omega)⟩
    · refine am_raload_n rfl rfl rfl ?_
      refine am_rgetf (S1 := [.ref 5]) rfl rfl ?_
      refine am_riload_n rfl rfl rfl ?_
      refine am_riconst rfl ?_
      have q4 : (a 5).length = 26 := am_Ll5 (am_IL 5 rfl hI)
      have i5 : am_ib (a 5) x2 := by unfold am_ib; omega
      have hl6 : am_LN 5 ((a 5).set x2.toNat ((-1))) := am_LS5 (am_IL 5 rfl hI) (by omega) (by omega)
      refine am_riastore (l := a 5) (h1 := am_enc f (am_ud a 5 ((a 5).set x2.toNat ((-1)))) w e) rfl am_ge5 i5 (am_sa5 _) ?_
      refine am_raload_n rfl rfl rfl ?_
      refine am_rgetf (S1 := [.ref 6]) rfl rfl ?_
      refine am_riload_n rfl rfl rfl ?_
      refine am_riconst rfl ?_
      have q7 : (a 6).length = 26 := am_Ll6 (am_IL 6 rfl hI)
      have i8 : am_ib (a 6) x2 := by unfold am_ib; omega
      have hl9 : am_LN 6 ((a 6).set x2.toNat ((-1))) := am_LS6 (am_IL 6 rfl hI) (by omega) (by omega)
      refine am_riastore (l := a 6) (h1 := am_enc f (am_ud (am_ud a 5 ((a 5).set x2.toNat ((-1)))) 6 ((a 6).set x2.toNat ((-1)))) w e) rfl am_ge6 i8 (am_sa6 _) ?_
      refine am_riinc (L1 := [(0, .ref 4), (2, am_iv (x2 + 1))]) rfl rfl rfl rfl rfl ?_
      refine am_rgoto rfl rfl ?_
      have J10 := am_Ja5 hI.1 hl6
      have J11 := am_Ja6 J10 hl9
      have J12 : am_IV false g h f (am_ud (am_ud a 5 ((a 5).set x2.toNat ((-1)))) 6 ((a 6).set x2.toNat ((-1)))) := ⟨J11, by
          first
          | exact hI.2
          | exact ⟨am_R1_set hI.2.1 (by assumption) (by assumption) (by omega), hI.2.2⟩
        ⟩
      exact ih (show (26 - (x2 + 1)).toNat < n by omega) J12 (show (-2147483648 ≤ (x2 + 1) ∧ (x2 + 1) ≤ 2147483647) by omega) (show 0 ≤ (x2 + 1) by omega) (show (f 407) = z407 by omega) (show (f 408) = 0 by omega)
set_option maxRecDepth 100000 in
set_option maxHeartbeats 4000000 in
theorem am_ct59 {X : List Value} {w : Value} {e : Nat} {g : aF} {h : aA} {d : Nat} {y1 : Int} {f : aF} {a : aA} (hd : 1 ≤ d) (hI : am_IV false g h f a) (hp0 : (-2147483648 ≤ y1 ∧ y1 ≤ 2147483647)) :
    am_TE X d am_m59 0 (lv_args 0 [.ref 4, am_iv y1]) [] f a w e (am_QV (fun f1 a1 => am_IV false g h f1 a1 ∧ f1 407 = (y1) ∧ f1 408 = 0)) (am_EC g h) := by
  obtain ⟨d, rfl⟩ : ∃ d0, d = d0 + 1 := ⟨d - 1, by omega⟩
  refine am_raload_n rfl rfl rfl ?_
  refine am_riload_n rfl rfl rfl ?_
  refine am_rputf (S1 := []) (h1 := am_enc (am_ud f 407 y1) a w e) rfl (am_pfB rfl am_ge4 rfl (am_sf407 _)) (by rw [am_enc_len, am_enc_len]) ?_
  refine am_raload_n rfl rfl rfl ?_
  refine am_riconst rfl ?_
  refine am_rputf (S1 := []) (h1 := am_enc (am_ud (am_ud f 407 y1) 408 0) a w e) rfl (am_pfB rfl am_ge4 rfl (am_sf408 _)) (by rw [am_enc_len, am_enc_len]) ?_
  refine am_raload_n rfl rfl rfl ?_
  refine am_riconst rfl ?_
  refine am_rputf (S1 := []) (h1 := am_enc (am_ud (am_ud (am_ud f 407 y1) 408 0) 406 0) a w e) rfl (am_pfB rfl am_ge4 rfl (am_sf406 _)) (by rw [am_enc_len, am_enc_len]) ?_
  refine am_riconst rfl ?_
  refine am_ristore_n (L1 := [(0, .ref 4), (1, am_iv y1), (2, am_iv 0)]) rfl rfl rfl rfl rfl ?_
  have J1 := am_Jf407 (v := y1) hI.1 (by omega) (by omega)
  have J2 := am_Jf408 (v := 0) J1 (by omega) (by omega)
  have J3 := am_Jf406 (v := 0) J2 (by omega) (by omega)
  have J4 : am_IV false g h (am_ud (am_ud (am_ud f 407 y1) 408 0) 406 0) a := ⟨J3, by
      first
      | exact hI.2
      | exact ⟨am_R1_set hI.2.1 (by assumption) (by assumption) (by omega), hI.2.2⟩
    ⟩
  exact am_T.drop (L1 := [(0, .ref 4), (2, am_iv 0)]) (am_ct59_17 hd (_ + 1) (Nat.lt_succ_self _) J4 (show (-2147483648 ≤ 0 ∧ 0 ≤ 2147483647) by omega) (show 0 ≤ 0 by omega) (show (y1) = (y1) by omega) (show (0) = 0 by omega)) (by simp)
set_option maxRecDepth 100000 in
set_option maxHeartbeats 4000000 in
theorem am_ct60 {X : List Value} {w : Value} {e : Nat} {g : aF} {h : aA} {p : Bool} {d : Nat} {y1 : Int} {y2 : Int} {f : aF} {a : aA} (hd : 1 ≤ d) (hI : am_IV p g h f a) (hp0 : (-2147483648 ≤ y1 ∧ y1 ≤ 2147483647)) (hp1 : (-2147483648 ≤ y2 ∧ y2 ≤ 2147483647)) (hp2 : 97 ≤ y1) (hp3 : y1 ≤ 122) (hp4 : 0 ≤ y2) (hp5 : y2 ≤ f 201) :
    am_TE X d am_m60 0 (lv_args 0 [.ref 4, am_iv y1, am_iv y2]) [] f a w e (am_QV (fun f1 a1 => am_IV p g h f1 a1)) (am_EC g h) := by
  obtain ⟨d, rfl⟩ : ∃ d0, d = d0 + 1 := ⟨d - 1, by omega⟩
  have q1 := am_Ig201 hI
  refine am_riload_n rfl rfl rfl ?_
  refine am_rbipush rfl (by decide) ?_
  refine am_risub rfl ?_
  refine am_ristore_n (L1 := [(0, .ref 4), (1, am_iv y1), (2, am_iv y2), (3, am_iv (y1 - 97))]) rfl rfl rfl rfl rfl ?_
  refine am_raload_n rfl rfl rfl ?_
  refine am_rgetf (S1 := [.ref 5]) rfl rfl ?_
  refine am_riload_n rfl rfl rfl ?_
  have q2 : (a 5).length = 26 := am_Ll5 (am_IL 5 rfl hI)
  have i3 : am_ib (a 5) (y1 - 97) := by unfold am_ib; omega
  have q4 := am_Lb5 (am_IL 5 rfl hI) i3
  refine am_riaload (l := a 5) rfl am_ge5 i3 ?_
  refine am_riconst rfl ?_
  refine am_ric_ne rfl rfl (by unfold am_rg; omega) (by unfold am_rg; omega) (fun hc5 => ?_) (fun hc5 => ?_)
  · exact am_eret rfl rfl hI
  · refine am_raload_n rfl rfl rfl ?_
    refine am_rgetf (S1 := [.ref 5]) rfl rfl ?_
    refine am_riload_n rfl rfl rfl ?_
    refine am_riload_n rfl rfl rfl ?_
    have i6 : am_ib (a 5) (y1 - 97) := by unfold am_ib; omega
    have hl7 : am_LN 5 ((a 5).set (y1 - 97).toNat y2) := am_LS5 (am_IL 5 rfl hI) (by omega) (by omega)
    refine am_riastore (l := a 5) (h1 := am_enc f (am_ud a 5 ((a 5).set (y1 - 97).toNat y2)) w e) rfl am_ge5 i6 (am_sa5 _) ?_
    refine am_raload_n rfl rfl rfl ?_
    refine am_rgetf (S1 := [.ref 6]) rfl rfl ?_
    refine am_riload_n rfl rfl rfl ?_
    refine am_raload_n rfl rfl rfl ?_
    refine am_rgetf (S1 := [.ref 2, am_iv (y1 - 97), .ref 6]) rfl rfl ?_
    refine am_rgetf (S1 := [am_iv (f 201), am_iv (y1 - 97), .ref 6]) rfl rfl ?_
    have q8 : (a 6).length = 26 := am_Ll6 (am_IL 6 rfl hI)
    have i9 : am_ib (a 6) (y1 - 97) := by unfold am_ib; omega
    have hl10 : am_LN 6 ((a 6).set (y1 - 97).toNat (f 201)) := am_LS6 (am_IL 6 rfl hI) (by omega) (by omega)
    refine am_riastore (l := a 6) (h1 := am_enc f (am_ud (am_ud a 5 ((a 5).set (y1 - 97).toNat y2)) 6 ((a 6).set (y1 - 97).toNat (f 201))) w e) rfl am_ge6 i9 (am_sa6 _) ?_
    have J11 := am_Ja5 hI.1 hl7
    have J12 := am_Ja6 J11 hl10
    have J13 : am_IV p g h f (am_ud (am_ud a 5 ((a 5).set (y1 - 97).toNat y2)) 6 ((a 6).set (y1 - 97).toNat (f 201))) := ⟨J12, by
        exact ⟨am_R1_set hI.2.1 (by assumption) (by assumption) (by omega), hI.2.2⟩
      ⟩
    exact am_eret rfl rfl J13
set_option maxRecDepth 100000 in
set_option maxHeartbeats 4000000 in
theorem am_ct65 {X : List Value} {w : Value} {e : Nat} {g : aF} {h : aA} {p : Bool} {d : Nat} {y1 : Int} {f : aF} {a : aA} (hd : 1 ≤ d) (hI : am_IV p g h f a) (hp0 : (-2147483648 ≤ y1 ∧ y1 ≤ 2147483647)) (hp1 : -122 ≤ y1) (hp2 : y1 ≤ 122) :
    am_TE X d am_m65 0 (lv_args 0 [.ref 4, am_iv y1]) [] f a w e (am_QV (fun f1 a1 => am_IV p g h f1 a1 ∧ a1 5 = (a 5))) (am_EC g h) := by
  obtain ⟨d, rfl⟩ : ∃ d0, d = d0 + 1 := ⟨d - 1, by omega⟩
  refine am_raload_n rfl rfl rfl ?_
  have q1 := am_Ig406 hI
  refine am_rgetf (S1 := [am_iv (f 406)]) rfl rfl ?_
  refine am_rbipush rfl (by decide) ?_
  refine am_ric_lt rfl rfl (by unfold am_rg; omega) (by unfold am_rg; omega) (fun hc2 => ?_) (fun hc2 => ?_)
  · refine am_raload_n rfl rfl rfl ?_
    refine am_rgetf (S1 := [.ref 7]) rfl rfl ?_
    refine am_raload_n rfl rfl rfl ?_
    refine am_rgetf (S1 := [am_iv (f 406), .ref 7]) rfl rfl ?_
    refine am_riload_n rfl rfl rfl ?_
    have q3 : (a 7).length = 16 := am_Ll7 (am_IL 7 rfl hI)
    have i4 : am_ib (a 7) (f 406) := by unfold am_ib; omega
    have hl5 : am_LN 7 ((a 7).set (f 406).toNat y1) := am_LS7 (am_IL 7 rfl hI) (by omega) (by omega)
    refine am_riastore (l := a 7) (h1 := am_enc f (am_ud a 7 ((a 7).set (f 406).toNat y1)) w e) rfl am_ge7 i4 (am_sa7 _) ?_
    refine am_raload_n rfl rfl rfl ?_
    refine am_rgetf (S1 := [.ref 8]) rfl rfl ?_
    refine am_raload_n rfl rfl rfl ?_
    refine am_rgetf (S1 := [am_iv (f 406), .ref 8]) rfl rfl ?_
    refine am_raload_n rfl rfl rfl ?_
    refine am_rgetf (S1 := [.ref 2, am_iv (f 406), .ref 8]) rfl rfl ?_
    have q6 := am_Ig202 hI
    refine am_rgetf (S1 := [am_iv (f 202), am_iv (f 406), .ref 8]) rfl rfl ?_
    have q7 : (a 8).length = 16 := am_Ll8 (am_IL 8 rfl hI)
    have i8 : am_ib (a 8) (f 406) := by unfold am_ib; omega
    have hl9 : am_LN 8 ((a 8).set (f 406).toNat (f 202)) := am_LS8 (am_IL 8 rfl hI) (by omega) (by omega)
    refine am_riastore (l := a 8) (h1 := am_enc f (am_ud (am_ud a 7 ((a 7).set (f 406).toNat y1)) 8 ((a 8).set (f 406).toNat (f 202))) w e) rfl am_ge8 i8 (am_sa8 _) ?_
    refine am_raload_n rfl rfl rfl ?_
    refine am_rgetf (S1 := [.ref 9]) rfl rfl ?_
    refine am_raload_n rfl rfl rfl ?_
    refine am_rgetf (S1 := [am_iv (f 406), .ref 9]) rfl rfl ?_
    refine am_raload_n rfl rfl rfl ?_
    refine am_rgetf (S1 := [.ref 2, am_iv (f 406), .ref 9]) rfl rfl ?_
    have q10 := am_Ig203 hI
    refine am_rgetf (S1 := [am_iv (f 203), am_iv (f 406), .ref 9]) rfl rfl ?_
    have q11 : (a 9).length = 16 := am_Ll9 (am_IL 9 rfl hI)
    have i12 : am_ib (a 9) (f 406) := by unfold am_ib; omega
    have hl13 : am_LN 9 ((a 9).set (f 406).toNat (f 203)) := am_LS9 (am_IL 9 rfl hI) (by omega) (by omega)
    refine am_riastore (l := a 9) (h1 := am_enc f (am_ud (am_ud (am_ud a 7 ((a 7).set (f 406).toNat y1)) 8 ((a 8).set (f 406).toNat (f 202))) 9 ((a 9).set (f 406).toNat (f 203))) w e) rfl am_ge9 i12 (am_sa9 _) ?_
    refine am_raload_n rfl rfl rfl ?_
    refine am_rdup rfl rfl ?_
    refine am_rgetf (S1 := [am_iv (f 406), .ref 4]) rfl rfl ?_
    refine am_riconst rfl ?_
    refine am_riadd rfl ?_
    refine am_rputf (S1 := []) (h1 := am_enc (am_ud f 406 ((f 406) + 1)) (am_ud (am_ud (am_ud a 7 ((a 7).set (f 406).toNat y1)) 8 ((a 8).set (f 406).toNat (f 202))) 9 ((a 9).set (f 406).toNat (f 203))) w e) rfl (am_pfB rfl am_ge4 rfl (am_sf406 _)) (by rw [am_enc_len, am_enc_len]) ?_
    have J14 := am_If406 (v := (f 406) + 1) hI (by omega) (by omega)
    have J15 := am_Ia7 J14 hl5
    have J16 := am_Ia8 J15 hl9
    have J17 := am_Ia9 J16 hl13
    exact am_eret rfl rfl ⟨J17, rfl⟩
  · exact am_ethrow rfl rfl rfl rfl ⟨by decide, hI.weak⟩
set_option maxRecDepth 100000 in
set_option maxHeartbeats 4000000 in
theorem am_ct61 {X : List Value} {w : Value} {e : Nat} {g : aF} {h : aA} {p : Bool} {d : Nat} {y1 : Int} {f : aF} {a : aA} (hd : 2 ≤ d) (hI : am_IV p g h f a) (hp0 : (-2147483648 ≤ y1 ∧ y1 ≤ 2147483647)) (hp1 : 0 ≤ y1) (hp2 : y1 ≤ 122) :
    am_TE X d am_m61 0 (lv_args 0 [.ref 4, am_iv y1]) [] f a w e (am_QV (fun f1 a1 => am_IV p g h f1 a1)) (am_EC g h) := by
  obtain ⟨d, rfl⟩ : ∃ d0, d = d0 + 1 := ⟨d - 1, by omega⟩
  refine am_raload_n rfl rfl rfl ?_
  refine am_riload_n rfl rfl rfl ?_
  refine am_evirtualV (m := am_m65) (As := [.ref 4, am_iv y1]) (S1 := []) rfl rfl rfl rfl rfl rfl rfl rfl rfl rfl (am_TE.void (am_ct65 (y1 := y1) (by omega) hI (by omega) (by omega) (by omega)) (fun f1 a1 hq2 => ?_) (fun _ _ _ h => h))
  obtain ⟨hI3, hq2⟩ := hq2
  exact am_eret rfl rfl hI3
set_option maxRecDepth 100000 in
set_option maxHeartbeats 4000000 in
theorem am_ct62 {X : List Value} {w : Value} {e : Nat} {g : aF} {h : aA} {p : Bool} {d : Nat} {y1 : Int} {f : aF} {a : aA} (hd : 1 ≤ d) (hI : am_IV p g h f a) (hp0 : (-2147483648 ≤ y1 ∧ y1 ≤ 2147483647)) :
    am_TE X d am_m62 0 (lv_args 0 [.ref 4, am_iv y1]) [] f a w e (am_QV (fun f1 a1 => am_IV p g h f1 a1)) (am_EC g h) := by
  obtain ⟨d, rfl⟩ : ∃ d0, d = d0 + 1 := ⟨d - 1, by omega⟩
  refine am_raload_n rfl rfl rfl ?_
  have q1 := am_Ig406 hI
  refine am_rgetf (S1 := [am_iv (f 406)]) rfl rfl ?_
  refine am_rif_eq rfl rfl (by unfold am_rg; omega) (fun hc2 => ?_) (fun hc2 => ?_)
  · exact am_ethrow rfl rfl rfl rfl ⟨by decide, hI.weak⟩
  · refine am_raload_n rfl rfl rfl ?_
    refine am_rgetf (S1 := [.ref 7]) rfl rfl ?_
    refine am_raload_n rfl rfl rfl ?_
    refine am_rgetf (S1 := [am_iv (f 406), .ref 7]) rfl rfl ?_
    refine am_riconst rfl ?_
    refine am_risub rfl ?_
    have q3 : (a 7).length = 16 := am_Ll7 (am_IL 7 rfl hI)
    have i4 : am_ib (a 7) ((f 406) - 1) := by unfold am_ib; omega
    have q5 := am_Lb7 (am_IL 7 rfl hI) i4
    refine am_riaload (l := a 7) rfl am_ge7 i4 ?_
    refine am_riload_n rfl rfl rfl ?_
    refine am_ric_eq rfl rfl (by unfold am_rg; omega) (by unfold am_rg; omega) (fun hc6 => ?_) (fun hc6 => ?_)
    · refine am_raload_n rfl rfl rfl ?_
      refine am_rdup rfl rfl ?_
      refine am_rgetf (S1 := [am_iv (f 406), .ref 4]) rfl rfl ?_
      refine am_riconst rfl ?_
      refine am_risub rfl ?_
      refine am_rputf (S1 := []) (h1 := am_enc (am_ud f 406 ((f 406) - 1)) a w e) rfl (am_pfB rfl am_ge4 rfl (am_sf406 _)) (by rw [am_enc_len, am_enc_len]) ?_
      have J7 := am_If406 (v := (f 406) - 1) hI (by omega) (by omega)
      exact am_eret rfl rfl J7
    · exact am_ethrow rfl rfl rfl rfl ⟨by decide, hI.weak⟩
set_option maxRecDepth 100000 in
set_option maxHeartbeats 4000000 in
theorem am_ct66_2 {X : List Value} {w : Value} {e : Nat} {g : aF} {h : aA} {p : Bool} {E : Nat → aF → aA → Prop} {d : Nat} (hd : 1 ≤ d + 1) (n : Nat) :
    ∀ {f : aF} {a : aA} {x1 : Int} {x2 : Int}, (f 406 - x2).toNat < n → am_IV p g h f a → (-2147483648 ≤ x1 ∧ x1 ≤ 2147483647) → (-2147483648 ≤ x2 ∧ x2 ≤ 2147483647) → 0 ≤ x2 → 0 ≤ x1 → x1 ≤ 122 → am_TE X (d + 1) am_m66 2 [(0, .ref 4), (1, am_iv x1), (2, am_iv x2)] [] f a w e (am_QI (fun b f1 a1 => f = f1 ∧ a = a1 ∧ (b = 0 ∨ b = 1))) E := by
  induction n with
  | zero => intros; omega
  | succ n ih =>
    intro f a x1 x2 hn hI hp0 hp1 hp2 hp3 hp4
    have q1 := am_Ig406 hI
    refine am_riload_n rfl rfl rfl ?_
    refine am_raload_n rfl rfl rfl ?_
    refine am_rgetf (S1 := [am_iv (f 406), am_iv x2]) rfl rfl ?_
    refine am_ric_ge rfl rfl (by unfold am_rg; omega) (by unfold am_rg; omega) (fun hc2 => ?_) (fun hc2 => ?_)
    · refine am_riconst rfl ?_
      exact am_ebret rfl rfl (by omega) ⟨rfl, rfl, (show ((0 : Int) = 0 ∨ (0 : Int) = 1) by omega)⟩
    · refine am_raload_n rfl rfl rfl ?_
      refine am_rgetf (S1 := [.ref 7]) rfl rfl ?_
      refine am_riload_n rfl rfl rfl ?_
      have q3 : (a 7).length = 16 := am_Ll7 (am_IL 7 rfl hI)
      have i4 : am_ib (a 7) x2 := by unfold am_ib; omega
      have q5 := am_Lb7 (am_IL 7 rfl hI) i4
      refine am_riaload (l := a 7) rfl am_ge7 i4 ?_
      refine am_riload_n rfl rfl rfl ?_
      refine am_rineg rfl ?_
      refine am_ric_ne rfl rfl (by unfold am_rg; omega) (by unfold am_rg; omega) (fun hc6 => ?_) (fun hc6 => ?_)
      · refine am_riinc (L1 := [(0, .ref 4), (1, am_iv x1), (2, am_iv (x2 + 1))]) rfl rfl rfl rfl rfl ?_
        refine am_rgoto rfl rfl ?_
        exact ih (by omega) hI (by omega) (by omega) (by omega) (by omega) (by omega)
      · refine am_riconst rfl ?_
        exact am_ebret rfl rfl (by omega) ⟨rfl, rfl, (show ((1 : Int) = 0 ∨ (1 : Int) = 1) by omega)⟩
set_option maxRecDepth 100000 in
set_option maxHeartbeats 4000000 in
theorem am_ct66 {X : List Value} {w : Value} {e : Nat} {g : aF} {h : aA} {p : Bool} {E : Nat → aF → aA → Prop} {d : Nat} {y1 : Int} {f : aF} {a : aA} (hd : 1 ≤ d) (hI : am_IV p g h f a) (hp0 : (-2147483648 ≤ y1 ∧ y1 ≤ 2147483647)) (hp1 : 0 ≤ y1) (hp2 : y1 ≤ 122) :
    am_TE X d am_m66 0 (lv_args 0 [.ref 4, am_iv y1]) [] f a w e (am_QI (fun b f1 a1 => f = f1 ∧ a = a1 ∧ (b = 0 ∨ b = 1))) E := by
  obtain ⟨d, rfl⟩ : ∃ d0, d = d0 + 1 := ⟨d - 1, by omega⟩
  refine am_riconst rfl ?_
  refine am_ristore_n (L1 := [(0, .ref 4), (1, am_iv y1), (2, am_iv 0)]) rfl rfl rfl rfl rfl ?_
  exact am_ct66_2 hd (_ + 1) (Nat.lt_succ_self _) hI (by omega) (by omega) (by omega) (by omega) (by omega)
set_option maxRecDepth 100000 in
set_option maxHeartbeats 4000000 in
theorem am_ct63 {X : List Value} {w : Value} {e : Nat} {g : aF} {h : aA} {d : Nat} {f : aF} {a : aA} (hd : 3 ≤ d) (hI : am_IV true g h f a) :
    am_TE X d am_m63 0 (lv_args 0 [.ref 4]) [] f a w e (am_QV (fun f1 a1 => am_IV true g h f1 a1)) (am_EC g h) := by
  obtain ⟨d, rfl⟩ : ∃ d0, d = d0 + 1 := ⟨d - 1, by omega⟩
  refine am_raload_n rfl rfl rfl ?_
  refine am_rgetf (S1 := [.ref 2]) rfl rfl ?_
  have q1 := am_Ig201 hI
  refine am_evirtualI (m := am_m75) (As := [.ref 2]) (S1 := []) rfl rfl rfl rfl rfl rfl rfl rfl rfl rfl (am_TE.int (am_ct75  (by omega) hI) (fun b2 f2 a2 hq3 => ?_) (fun _ _ _ h => h))
  obtain ⟨hI4, hq3⟩ := hq3
  refine am_ristore_n (L1 := [(0, .ref 4), (1, am_iv b2)]) rfl rfl rfl rfl rfl ?_
  refine am_raload_n rfl rfl rfl ?_
  refine am_rgetf (S1 := [.ref 2]) rfl rfl ?_
  refine am_rbipush rfl (by decide) ?_
  have q5 := am_Ig201 hI4
  refine am_evirtualV (m := am_m74) (As := [.ref 2, am_iv 59]) (S1 := []) rfl rfl rfl rfl rfl rfl rfl rfl rfl rfl (am_TE.void (am_ct74 (y1 := 59) (by omega) hI4 (by omega)) (fun f6 a6 hq7 => ?_) (fun _ _ _ h => h))
  obtain ⟨hI8, hq7⟩ := hq7
  refine am_riload_n rfl rfl rfl ?_
  refine am_rbipush rfl (by decide) ?_
  refine am_risub rfl ?_
  refine am_ristore_n (L1 := [(0, .ref 4), (1, am_iv b2), (2, am_iv (b2 - 97))]) rfl rfl rfl rfl rfl ?_
  refine am_raload_n rfl rfl rfl ?_
  refine am_rgetf (S1 := [.ref 5]) rfl rfl ?_
  refine am_riload_n rfl rfl rfl ?_
  have q9 : (a6 5).length = 26 := am_Ll5 (am_IL 5 rfl hI8)
  have i10 : am_ib (a6 5) (b2 - 97) := by unfold am_ib; omega
  have q11 := am_Lb5 (am_IL 5 rfl hI8) i10
  try have r8 := r9 (b2 - 97)
  refine am_riaload (l := a6 5) rfl am_ge5 i10 ?_
  refine am_riconst rfl ?_
  refine am_ric_eq rfl rfl (by unfold am_rg; omega) (by unfold am_rg; omega) (fun hc12 => ?_) (fun hc12 => ?_)
  · exact am_ethrow rfl rfl rfl rfl ⟨by decide, hI8.weak⟩
  · refine am_raload_n rfl rfl rfl ?_
    refine am_riload_n rfl rfl rfl ?_
    refine am_evirtualI (m := am_m66) (As := [.ref 4, am_iv b2]) (S1 := []) rfl rfl rfl rfl rfl rfl rfl rfl rfl rfl (am_TE.int (am_ct66 (y1 := b2) (by omega) hI8 (by omega) (by omega) (by omega)) (fun b13 f13 a13 hq14 => ?_) (fun _ _ _ h => h))
    obtain ⟨rfl, rfl, hq14⟩ := hq14
    refine am_rif_eq rfl rfl (by unfold am_rg; omega) (fun hc15 => ?_) (fun hc15 => ?_)
    · refine am_raload_n rfl rfl rfl ?_
      refine am_rdup rfl rfl ?_
      have q16 := am_Ig408 hI8
      have q17 := hI8.1.2.2.2.2 rfl
      refine am_rgetf (S1 := [am_iv (f6 408), .ref 4]) rfl rfl ?_
      refine am_raload_n rfl rfl rfl ?_
      refine am_rgetf (S1 := [.ref 6, am_iv (f6 408), .ref 4]) rfl rfl ?_
      refine am_riload_n rfl rfl rfl ?_
      have q18 : (a6 6).length = 26 := am_Ll6 (am_IL 6 rfl hI8)
      have i19 : am_ib (a6 6) (b2 - 97) := by unfold am_ib; omega
      have q20 := am_Lb6 (am_IL 6 rfl hI8) i19
      have r1 := hI8.2.1 (b2 - 97) (by omega) (by omega)
      refine am_riaload (l := a6 6) rfl am_ge6 i19 ?_
      refine am_raload_n rfl rfl rfl ?_
      refine am_rgetf (S1 := [.ref 5, am_iv (am_at (a6 6) (b2 - 97)), am_iv (f6 408), .ref 4]) rfl rfl ?_
      refine am_riload_n rfl rfl rfl ?_
      have i21 : am_ib (a6 5) (b2 - 97) := by unfold am_ib; omega
      try have r8 := r9 (b2 - 97)
      refine am_riaload (l := a6 5) rfl am_ge5 i21 ?_
      refine am_risub rfl ?_
      refine am_riconst rfl ?_
      refine am_riadd rfl ?_
      refine am_riadd rfl ?_
      refine am_rputf (S1 := []) (h1 := am_enc (am_ud f6 408 ((f6 408) + (((am_at (a6 6) (b2 - 97)) - (am_at (a6 5) (b2 - 97))) + 1))) a6 w e) rfl (am_pfB rfl am_ge4 rfl (am_sf408 _)) (by rw [am_enc_len, am_enc_len]) ?_
      refine am_raload_n rfl rfl rfl ?_
      refine am_rgetf (S1 := [am_iv ((f6 408) + (((am_at (a6 6) (b2 - 97)) - (am_at (a6 5) (b2 - 97))) + 1))]) rfl rfl ?_
      refine am_raload_n rfl rfl rfl ?_
      have q22 := am_Ig407 hI8
      refine am_rgetf (S1 := [am_iv (f6 407), am_iv ((f6 408) + (((am_at (a6 6) (b2 - 97)) - (am_at (a6 5) (b2 - 97))) + 1))]) rfl rfl ?_
      refine am_ric_le rfl rfl (by unfold am_rg; omega) (by unfold am_rg; omega) (fun hc23 => ?_) (fun hc23 => ?_)
      · refine am_raload_n rfl rfl rfl ?_
        refine am_riload_n rfl rfl rfl ?_
        refine am_rineg rfl ?_
        have J24 := am_If408t (v := (f6 408) + (((am_at (a6 6) (b2 - 97)) - (am_at (a6 5) (b2 - 97))) + 1)) hI8 (by omega) (by omega)
        refine am_evirtualV (m := am_m65) (As := [.ref 4, am_iv (-b2)]) (S1 := []) rfl rfl rfl rfl rfl rfl rfl rfl rfl rfl (am_TE.void (am_ct65 (y1 := (-b2)) (by omega) J24 (by omega) (by omega) (by omega)) (fun f25 a25 hq26 => ?_) (fun _ _ _ h => h))
        obtain ⟨hI27, hq26⟩ := hq26
        have r9 : ∀ x, am_at _ x = am_at _ x := fun x => congrArg (fun q => am_at q x) hq26
        refine am_raload_n rfl rfl rfl ?_
        refine am_rgetf (S1 := [.ref 2]) rfl rfl ?_
        refine am_raload_n rfl rfl rfl ?_
        refine am_rgetf (S1 := [.ref 5, .ref 2]) rfl rfl ?_
        refine am_riload_n rfl rfl rfl ?_
        have q28 : (a25 5).length = 26 := am_Ll5 (am_IL 5 rfl hI27)
        have i29 : am_ib (a25 5) (b2 - 97) := by unfold am_ib; omega
        have q30 := am_Lb5 (am_IL 5 rfl hI27) i29
        try have r8 := r9 (b2 - 97)
        refine am_riaload (l := a25 5) rfl am_ge5 i29 ?_
        refine am_rputf (S1 := []) (h1 := am_enc (am_ud f25 202 (am_at (a25 5) (b2 - 97))) a25 w e) rfl (am_pfB rfl am_ge2 rfl (am_sf202 _)) (by rw [am_enc_len, am_enc_len]) ?_
        refine am_raload_n rfl rfl rfl ?_
        refine am_rgetf (S1 := [.ref 2]) rfl rfl ?_
        refine am_raload_n rfl rfl rfl ?_
        refine am_rgetf (S1 := [.ref 6, .ref 2]) rfl rfl ?_
        refine am_riload_n rfl rfl rfl ?_
        have q31 : (a25 6).length = 26 := am_Ll6 (am_IL 6 rfl hI27)
        have i32 : am_ib (a25 6) (b2 - 97) := by unfold am_ib; omega
        have q33 := am_Lb6 (am_IL 6 rfl hI27) i32
        have r1 := hI27.2.1 (b2 - 97) (by omega) (by omega)
        refine am_riaload (l := a25 6) rfl am_ge6 i32 ?_
        refine am_rputf (S1 := []) (h1 := am_enc (am_ud (am_ud f25 202 (am_at (a25 5) (b2 - 97))) 203 (am_at (a25 6) (b2 - 97))) a25 w e) rfl (am_pfB rfl am_ge2 rfl (am_sf203 _)) (by rw [am_enc_len, am_enc_len]) ?_
        have J34 := am_If202 (v := am_at (a25 5) (b2 - 97)) hI27 (by omega) (by omega)
        have J35 := am_If203 (v := am_at (a25 6) (b2 - 97)) J34 (by omega) (by omega)
        exact am_eret rfl rfl J35
      · have J36 := am_If408f (v := (f6 408) + (((am_at (a6 6) (b2 - 97)) - (am_at (a6 5) (b2 - 97))) + 1)) hI8 (by omega) (by omega)
        exact am_ethrow rfl rfl rfl rfl ⟨by decide, J36.weak⟩
    · exact am_ethrow rfl rfl rfl rfl ⟨by decide, hI8.weak⟩
set_option maxRecDepth 100000 in
set_option maxHeartbeats 4000000 in
theorem am_ct64 {X : List Value} {w : Value} {e : Nat} {g : aF} {h : aA} {p : Bool} {d : Nat} {f : aF} {a : aA} (hd : 1 ≤ d) (hI : am_IV p g h f a) :
    am_TE X d am_m64 0 (lv_args 0 [.ref 4]) [] f a w e (am_QV (fun f1 a1 => am_IV p g h f1 a1)) (am_EC g h) := by
  obtain ⟨d, rfl⟩ : ∃ d0, d = d0 + 1 := ⟨d - 1, by omega⟩
  refine am_raload_n rfl rfl rfl ?_
  have q1 := am_Ig406 hI
  refine am_rgetf (S1 := [am_iv (f 406)]) rfl rfl ?_
  refine am_rif_eq rfl rfl (by unfold am_rg; omega) (fun hc2 => ?_) (fun hc2 => ?_)
  · exact am_ethrow rfl rfl rfl rfl ⟨by decide, hI.weak⟩
  · refine am_raload_n rfl rfl rfl ?_
    refine am_rgetf (S1 := [.ref 7]) rfl rfl ?_
    refine am_raload_n rfl rfl rfl ?_
    refine am_rgetf (S1 := [am_iv (f 406), .ref 7]) rfl rfl ?_
    refine am_riconst rfl ?_
    refine am_risub rfl ?_
    have q3 : (a 7).length = 16 := am_Ll7 (am_IL 7 rfl hI)
    have i4 : am_ib (a 7) ((f 406) - 1) := by unfold am_ib; omega
    have q5 := am_Lb7 (am_IL 7 rfl hI) i4
    refine am_riaload (l := a 7) rfl am_ge7 i4 ?_
    refine am_rif_le rfl rfl (by unfold am_rg; omega) (fun hc6 => ?_) (fun hc6 => ?_)
    · refine am_raload_n rfl rfl rfl ?_
      refine am_rdup rfl rfl ?_
      refine am_rgetf (S1 := [am_iv (f 406), .ref 4]) rfl rfl ?_
      refine am_riconst rfl ?_
      refine am_risub rfl ?_
      refine am_rputf (S1 := []) (h1 := am_enc (am_ud f 406 ((f 406) - 1)) a w e) rfl (am_pfB rfl am_ge4 rfl (am_sf406 _)) (by rw [am_enc_len, am_enc_len]) ?_
      refine am_raload_n rfl rfl rfl ?_
      refine am_rgetf (S1 := [.ref 2]) rfl rfl ?_
      refine am_raload_n rfl rfl rfl ?_
      refine am_rgetf (S1 := [.ref 8, .ref 2]) rfl rfl ?_
      refine am_raload_n rfl rfl rfl ?_
      refine am_rgetf (S1 := [am_iv ((f 406) - 1), .ref 8, .ref 2]) rfl rfl ?_
      have q7 : (a 8).length = 16 := am_Ll8 (am_IL 8 rfl hI)
      have i8 : am_ib (a 8) ((f 406) - 1) := by unfold am_ib; omega
      have q9 := am_Lb8 (am_IL 8 rfl hI) i8
      refine am_riaload (l := a 8) rfl am_ge8 i8 ?_
      refine am_rputf (S1 := []) (h1 := am_enc (am_ud (am_ud f 406 ((f 406) - 1)) 202 (am_at (a 8) ((f 406) - 1))) a w e) rfl (am_pfB rfl am_ge2 rfl (am_sf202 _)) (by rw [am_enc_len, am_enc_len]) ?_
      refine am_raload_n rfl rfl rfl ?_
      refine am_rgetf (S1 := [.ref 2]) rfl rfl ?_
      refine am_raload_n rfl rfl rfl ?_
      refine am_rgetf (S1 := [.ref 9, .ref 2]) rfl rfl ?_
      refine am_raload_n rfl rfl rfl ?_
      refine am_rgetf (S1 := [am_iv ((f 406) - 1), .ref 9, .ref 2]) rfl rfl ?_
      have q10 : (a 9).length = 16 := am_Ll9 (am_IL 9 rfl hI)
      have i11 : am_ib (a 9) ((f 406) - 1) := by unfold am_ib; omega
      have q12 := am_Lb9 (am_IL 9 rfl hI) i11
      refine am_riaload (l := a 9) rfl am_ge9 i11 ?_
      refine am_rputf (S1 := []) (h1 := am_enc (am_ud (am_ud (am_ud f 406 ((f 406) - 1)) 202 (am_at (a 8) ((f 406) - 1))) 203 (am_at (a 9) ((f 406) - 1))) a w e) rfl (am_pfB rfl am_ge2 rfl (am_sf203 _)) (by rw [am_enc_len, am_enc_len]) ?_
      have J13 := am_If406 (v := (f 406) - 1) hI (by omega) (by omega)
      have J14 := am_If202 (v := am_at (a 8) ((f 406) - 1)) J13 (by omega) (by omega)
      have J15 := am_If203 (v := am_at (a 9) ((f 406) - 1)) J14 (by omega) (by omega)
      exact am_eret rfl rfl J15
    · exact am_ethrow rfl rfl rfl rfl ⟨by decide, hI.weak⟩
set_option maxRecDepth 100000 in
set_option maxHeartbeats 4000000 in
theorem am_ct95 {X : List Value} {w : Value} {e : Nat} {g : aF} {h : aA} {p : Bool} {d : Nat} {y1 : Int} {f : aF} {a : aA} (hd : 1 ≤ d) (hI : am_IV p g h f a) (hp0 : (-2147483648 ≤ y1 ∧ y1 ≤ 2147483647)) :
    am_TE X d am_m95 0 (lv_args 0 [.ref 10, am_iv y1]) [] f a w e (am_QV (fun f1 a1 => am_IV p g h f1 a1)) (am_EC g h) := by
  obtain ⟨d, rfl⟩ : ∃ d0, d = d0 + 1 := ⟨d - 1, by omega⟩
  refine am_raload_n rfl rfl rfl ?_
  have q1 := am_Ig1003 hI
  refine am_rgetf (S1 := [am_iv (f 1003)]) rfl rfl ?_
  refine am_raload_n rfl rfl rfl ?_
  refine am_rgetf (S1 := [.ref 11, am_iv (f 1003)]) rfl rfl ?_
  have q2 : (a 11).length = 2360 := am_Ll11 (am_IL 11 rfl hI)
  refine am_rlenI (l := a 11) rfl am_ge11 ?_
  refine am_ric_lt rfl rfl (by unfold am_rg; omega) (by unfold am_rg; omega) (fun hc3 => ?_) (fun hc3 => ?_)
  · refine am_raload_n rfl rfl rfl ?_
    refine am_rgetf (S1 := [.ref 11]) rfl rfl ?_
    refine am_raload_n rfl rfl rfl ?_
    refine am_rgetf (S1 := [am_iv (f 1003), .ref 11]) rfl rfl ?_
    refine am_riload_n rfl rfl rfl ?_
    have i4 : am_ib (a 11) (f 1003) := by unfold am_ib; omega
    have hl5 : am_LN 11 ((a 11).set (f 1003).toNat y1) := am_LS11 (am_IL 11 rfl hI) (by omega) (by omega)
    refine am_riastore (l := a 11) (h1 := am_enc f (am_ud a 11 ((a 11).set (f 1003).toNat y1)) w e) rfl am_ge11 i4 (am_sa11 _) ?_
    refine am_raload_n rfl rfl rfl ?_
    refine am_rdup rfl rfl ?_
    refine am_rgetf (S1 := [am_iv (f 1003), .ref 10]) rfl rfl ?_
    refine am_riconst rfl ?_
    refine am_riadd rfl ?_
    refine am_rputf (S1 := []) (h1 := am_enc (am_ud f 1003 ((f 1003) + 1)) (am_ud a 11 ((a 11).set (f 1003).toNat y1)) w e) rfl (am_pfB rfl am_ge10 rfl (am_sf1003 _)) (by rw [am_enc_len, am_enc_len]) ?_
    have J6 := am_If1003 (v := (f 1003) + 1) hI (by omega) (by omega)
    have J7 := am_Ia11 J6 hl5
    exact am_eret rfl rfl J7
  · exact am_ethrow rfl rfl rfl rfl ⟨by decide, hI.weak⟩
set_option maxRecDepth 100000 in
set_option maxHeartbeats 4000000 in
theorem am_ct96_4 {X : List Value} {w : Value} {e : Nat} {g : aF} {h : aA} {p : Bool} {d : Nat} (hd : 1 ≤ d + 1) (n : Nat) :
    ∀ {f : aF} {a : aA} {x1 : Int} {x2 : Int}, (f 1003 - x2).toNat < n → am_IV p g h f a → (-2147483648 ≤ x1 ∧ x1 ≤ 2147483647) → (-2147483648 ≤ x2 ∧ x2 ≤ 2147483647) → 0 ≤ x1 → x1 ≤ x2 → x2 ≤ f 1003 → am_TE X (d + 1) am_m96 4 [(0, .ref 10), (1, am_iv x1), (2, am_iv x2)] [] f a w e (am_QV (fun f1 a1 => am_IV p g h f1 a1)) (am_EC g h) := by
  induction n with
  | zero => intros; omega
  | succ n ih =>
    intro f a x1 x2 hn hI hp0 hp1 hp2 hp3 hp4
    have q1 := am_Ig1003 hI
    refine am_riload_n rfl rfl rfl ?_
    refine am_raload_n rfl rfl rfl ?_
    refine am_rgetf (S1 := [am_iv (f 1003), am_iv x2]) rfl rfl ?_
    refine am_ric_ge rfl rfl (by unfold am_rg; omega) (by unfold am_rg; omega) (fun hc2 => ?_) (fun hc2 => ?_)
    · refine am_riload_n rfl rfl rfl ?_
      refine am_rif_le rfl rfl (by unfold am_rg; omega) (fun hc3 => ?_) (fun hc3 => ?_)
      · refine am_raload_n rfl rfl rfl ?_
        refine am_riload_n rfl rfl rfl ?_
        refine am_rputf (S1 := []) (h1 := am_enc (am_ud f 1003 x1) a w e) rfl (am_pfB rfl am_ge10 rfl (am_sf1003 _)) (by rw [am_enc_len, am_enc_len]) ?_
        have J4 := am_If1003 (v := x1) hI (by omega) (by omega)
        exact am_eret rfl rfl J4
      · refine am_raload_n rfl rfl rfl ?_
        refine am_rgetf (S1 := [.ref 11]) rfl rfl ?_
        refine am_riload_n rfl rfl rfl ?_
        refine am_riconst rfl ?_
        refine am_risub rfl ?_
        have q5 : (a 11).length = 2360 := am_Ll11 (am_IL 11 rfl hI)
        have i6 : am_ib (a 11) (x1 - 1) := by unfold am_ib; omega
        have q7 := am_Lb11 (am_IL 11 rfl hI) i6
        refine am_riaload (l := a 11) rfl am_ge11 i6 ?_
        refine am_rbipush rfl (by decide) ?_
        refine am_ric_ne rfl rfl (by unfold am_rg; omega) (by unfold am_rg; omega) (fun hc8 => ?_) (fun hc8 => ?_)
        · refine am_raload_n rfl rfl rfl ?_
          refine am_riload_n rfl rfl rfl ?_
          refine am_rputf (S1 := []) (h1 := am_enc (am_ud f 1003 x1) a w e) rfl (am_pfB rfl am_ge10 rfl (am_sf1003 _)) (by rw [am_enc_len, am_enc_len]) ?_
          have J9 := am_If1003 (v := x1) hI (by omega) (by omega)
          exact am_eret rfl rfl J9
        · refine am_riinc (L1 := [(0, .ref 10), (1, am_iv (x1 + (-1))), (2, am_iv x2)]) rfl rfl rfl rfl rfl ?_
          refine am_raload_n rfl rfl rfl ?_
          refine am_riload_n rfl rfl rfl ?_
          refine am_rputf (S1 := []) (h1 := am_enc (am_ud f 1003 (x1 + (-1))) a w e) rfl (am_pfB rfl am_ge10 rfl (am_sf1003 _)) (by rw [am_enc_len, am_enc_len]) ?_
          have J10 := am_If1003 (v := x1 + (-1)) hI (by omega) (by omega)
          exact am_eret rfl rfl J10
    · refine am_raload_n rfl rfl rfl ?_
      refine am_rgetf (S1 := [.ref 11]) rfl rfl ?_
      refine am_riload_n rfl rfl rfl ?_
      have q11 : (a 11).length = 2360 := am_Ll11 (am_IL 11 rfl hI)
      have i12 : am_ib (a 11) x2 := by unfold am_ib; omega
      have q13 := am_Lb11 (am_IL 11 rfl hI) i12
      refine am_riaload (l := a 11) rfl am_ge11 i12 ?_
      refine am_rbipush rfl (by decide) ?_
      refine am_ric_ne rfl rfl (by unfold am_rg; omega) (by unfold am_rg; omega) (fun hc14 => ?_) (fun hc14 => ?_)
      · refine am_raload_n rfl rfl rfl ?_
        refine am_rgetf (S1 := [.ref 11]) rfl rfl ?_
        refine am_riload_n rfl rfl rfl ?_
        refine am_raload_n rfl rfl rfl ?_
        refine am_rgetf (S1 := [.ref 11, am_iv x1, .ref 11]) rfl rfl ?_
        refine am_riload_n rfl rfl rfl ?_
        have i15 : am_ib (a 11) x2 := by unfold am_ib; omega
        refine am_riaload (l := a 11) rfl am_ge11 i15 ?_
        have i16 : am_ib (a 11) x1 := by unfold am_ib; omega
        have hl17 : am_LN 11 ((a 11).set x1.toNat (am_at (a 11) x2)) := am_LS11 (am_IL 11 rfl hI) (by omega) (by omega)
        refine am_riastore (l := a 11) (h1 := am_enc f (am_ud a 11 ((a 11).set x1.toNat (am_at (a 11) x2))) w e) rfl am_ge11 i16 (am_sa11 _) ?_
        refine am_riinc (L1 := [(0, .ref 10), (1, am_iv (x1 + 1)), (2, am_iv x2)]) rfl rfl rfl rfl rfl ?_
        refine am_riinc (L1 := [(0, .ref 10), (1, am_iv (x1 + 1)), (2, am_iv (x2 + 1))]) rfl rfl rfl rfl rfl ?_
        refine am_rgoto rfl rfl ?_
        have J18 := am_Ia11 hI hl17
        exact ih (show ((f 1003) - (x2 + 1)).toNat < n by omega) J18 (show (-2147483648 ≤ (x1 + 1) ∧ (x1 + 1) ≤ 2147483647) by omega) (show (-2147483648 ≤ (x2 + 1) ∧ (x2 + 1) ≤ 2147483647) by omega) (show 0 ≤ (x1 + 1) by omega) (show (x1 + 1) ≤ (x2 + 1) by omega) (show (x2 + 1) ≤ (f 1003) by omega)
      · refine am_riload_n rfl rfl rfl ?_
        refine am_rif_le rfl rfl (by unfold am_rg; omega) (fun hc19 => ?_) (fun hc19 => ?_)
        · refine am_riinc (L1 := [(0, .ref 10), (1, am_iv x1), (2, am_iv (x2 + 1))]) rfl rfl rfl rfl rfl ?_
          refine am_rgoto rfl rfl ?_
          exact ih (by omega) hI (by omega) (by omega) (by omega) (by omega) (by omega)
        · refine am_raload_n rfl rfl rfl ?_
          refine am_rgetf (S1 := [.ref 11]) rfl rfl ?_
          refine am_riload_n rfl rfl rfl ?_
          refine am_riconst rfl ?_
          refine am_risub rfl ?_
          have i20 : am_ib (a 11) (x1 - 1) := by unfold am_ib; omega
          have q21 := am_Lb11 (am_IL 11 rfl hI) i20
          refine am_riaload (l := a 11) rfl am_ge11 i20 ?_
          refine am_rbipush rfl (by decide) ?_
          refine am_ric_eq rfl rfl (by unfold am_rg; omega) (by unfold am_rg; omega) (fun hc22 => ?_) (fun hc22 => ?_)
          · refine am_riinc (L1 := [(0, .ref 10), (1, am_iv x1), (2, am_iv (x2 + 1))]) rfl rfl rfl rfl rfl ?_
            refine am_rgoto rfl rfl ?_
            exact ih (by omega) hI (by omega) (by omega) (by omega) (by omega) (by omega)
          · refine am_raload_n rfl rfl rfl ?_
            refine am_rgetf (S1 := [.ref 11]) rfl rfl ?_
            refine am_riload_n rfl rfl rfl ?_
            refine am_raload_n rfl rfl rfl ?_
            refine am_rgetf (S1 := [.ref 11, am_iv x1, .ref 11]) rfl rfl ?_
            refine am_riload_n rfl rfl rfl ?_
            have i23 : am_ib (a 11) x2 := by unfold am_ib; omega
            refine am_riaload (l := a 11) rfl am_ge11 i23 ?_
            have i24 : am_ib (a 11) x1 := by unfold am_ib; omega
            have hl25 : am_LN 11 ((a 11).set x1.toNat (am_at (a 11) x2)) := am_LS11 (am_IL 11 rfl hI) (by omega) (by omega)
            refine am_riastore (l := a 11) (h1 := am_enc f (am_ud a 11 ((a 11).set x1.toNat (am_at (a 11) x2))) w e) rfl am_ge11 i24 (am_sa11 _) ?_
            refine am_riinc (L1 := [(0, .ref 10), (1, am_iv (x1 + 1)), (2, am_iv x2)]) rfl rfl rfl rfl rfl ?_
            refine am_riinc (L1 := [(0, .ref 10), (1, am_iv (x1 + 1)), (2, am_iv (x2 + 1))]) rfl rfl rfl rfl rfl ?_
            refine am_rgoto rfl rfl ?_
            have J26 := am_Ia11 hI hl25
            exact ih (show ((f 1003) - (x2 + 1)).toNat < n by omega) J26 (show (-2147483648 ≤ (x1 + 1) ∧ (x1 + 1) ≤ 2147483647) by omega) (show (-2147483648 ≤ (x2 + 1) ∧ (x2 + 1) ≤ 2147483647) by omega) (show 0 ≤ (x1 + 1) by omega) (show (x1 + 1) ≤ (x2 + 1) by omega) (show (x2 + 1) ≤ (f 1003) by omega)
set_option maxRecDepth 100000 in
set_option maxHeartbeats 4000000 in
theorem am_ct96 {X : List Value} {w : Value} {e : Nat} {g : aF} {h : aA} {p : Bool} {d : Nat} {f : aF} {a : aA} (hd : 1 ≤ d) (hI : am_IV p g h f a) :
    am_TE X d am_m96 0 (lv_args 0 [.ref 10]) [] f a w e (am_QV (fun f1 a1 => am_IV p g h f1 a1)) (am_EC g h) := by
  obtain ⟨d, rfl⟩ : ∃ d0, d = d0 + 1 := ⟨d - 1, by omega⟩
  refine am_riconst rfl ?_
  refine am_ristore_n (L1 := [(0, .ref 10), (1, am_iv 0)]) rfl rfl rfl rfl rfl ?_
  refine am_riconst rfl ?_
  refine am_ristore_n (L1 := [(0, .ref 10), (1, am_iv 0), (2, am_iv 0)]) rfl rfl rfl rfl rfl ?_
  have q1 := am_Ig1003 hI
  exact am_ct96_4 hd (_ + 1) (Nat.lt_succ_self _) hI (by omega) (by omega) (by omega) (by omega) (by omega)
set_option maxRecDepth 100000 in
set_option maxHeartbeats 4000000 in
theorem am_ct94_24 {X : List Value} {w : Value} {e : Nat} {g : aF} {h : aA} {d : Nat} (hd : 4 ≤ d + 1) (n : Nat) :
    ∀ {f : aF} {a : aA} {x1 : Int} {x2 : Int} {x3 : Int}, (1000000 - x3).toNat < n → am_IV true g h f a → (-2147483648 ≤ x1 ∧ x1 ≤ 2147483647) → (-2147483648 ≤ x2 ∧ x2 ≤ 2147483647) → (-2147483648 ≤ x3 ∧ x3 ≤ 2147483647) → 0 ≤ x3 → am_TE X (d + 1) am_m94 24 [(0, .ref 10), (1, am_iv x1), (2, am_iv x2), (3, am_iv x3)] [] f a w e (am_QV (fun f1 a1 => am_IV true g h f1 a1)) (am_EC g h) := by
  induction n with
  | zero => intros; omega
  | succ n ih =>
    intro f a x1 x2 x3 hn hI hp0 hp1 hp2 hp3
    refine am_riload_n rfl rfl rfl ?_
    refine am_rldc (x := 1000000) rfl rfl (by decide) ?_
    refine am_ric_ge rfl rfl (by unfold am_rg; omega) (by unfold am_rg; omega) (fun hc1 => ?_) (fun hc1 => ?_)
    · refine am_raload_n rfl rfl rfl ?_
      refine am_rgetf (S1 := [.ref 2]) rfl rfl ?_
      refine am_rbipush rfl (by decide) ?_
      have q2 := am_Ig201 hI
      refine am_evirtualV (m := am_m74) (As := [.ref 2, am_iv 34]) (S1 := []) rfl rfl rfl rfl rfl rfl rfl rfl rfl rfl (am_TE.void (am_ct74 (y1 := 34) (by omega) hI (by omega)) (fun f3 a3 hq4 => ?_) (fun _ _ _ h => h))
      obtain ⟨hI5, hq4⟩ := hq4
      refine am_riload_n rfl rfl rfl ?_
      refine am_rif_eq rfl rfl (by unfold am_rg; omega) (fun hc6 => ?_) (fun hc6 => ?_)
      · exact am_eret rfl rfl hI5
      · refine am_raload_n rfl rfl rfl ?_
        refine am_evirtualV (m := am_m96) (As := [.ref 10]) (S1 := []) rfl rfl rfl rfl rfl rfl rfl rfl rfl rfl (am_TE.void (am_ct96  (by omega) hI5) (fun f7 a7 hq8 => ?_) (fun _ _ _ h => h))
        have hI9 := hq8
        exact am_eret rfl rfl hI9
    · refine am_raload_n rfl rfl rfl ?_
      refine am_rgetf (S1 := [.ref 4]) rfl rfl ?_
      have q10 := am_Ig406 hI
      refine am_rgetf (S1 := [am_iv (f 406)]) rfl rfl ?_
      refine am_riload_n rfl rfl rfl ?_
      refine am_ric_gt rfl rfl (by unfold am_rg; omega) (by unfold am_rg; omega) (fun hc11 => ?_) (fun hc11 => ?_)
      · refine am_raload_n rfl rfl rfl ?_
        refine am_rgetf (S1 := [.ref 2]) rfl rfl ?_
        refine am_evirtualI (m := am_m72) (As := [.ref 2]) (S1 := []) rfl rfl rfl rfl rfl rfl rfl rfl rfl rfl (am_TE.int (am_ct72  (by omega) hI) (fun b12 f12 a12 hq13 => ?_) (fun _ _ _ h => h))
        obtain ⟨rfl, rfl, hq13⟩ := hq13
        refine am_ristore (L1 := [(0, .ref 10), (1, am_iv x1), (2, am_iv x2), (3, am_iv x3), (4, am_iv b12)]) rfl rfl rfl rfl rfl ?_
        refine am_riload rfl rfl rfl ?_
        refine am_riconst rfl ?_
        refine am_ric_ne rfl rfl (by unfold am_rg; omega) (by unfold am_rg; omega) (fun hc14 => ?_) (fun hc14 => ?_)
        · refine am_riload rfl rfl rfl ?_
          refine am_rbipush rfl (by decide) ?_
          refine am_ric_ne rfl rfl (by unfold am_rg; omega) (by unfold am_rg; omega) (fun hc15 => ?_) (fun hc15 => ?_)
          · refine am_riload rfl rfl rfl ?_
            refine am_rbipush rfl (by decide) ?_
            refine am_ric_eq rfl rfl (by unfold am_rg; omega) (by unfold am_rg; omega) (fun hc16 => ?_) (fun hc16 => ?_)
            · refine am_raload_n rfl rfl rfl ?_
              refine am_rgetf (S1 := [.ref 2]) rfl rfl ?_
              have q17 := am_Ig201 hI
              refine am_evirtualI (m := am_m83) (As := [.ref 2]) (S1 := []) rfl rfl rfl rfl rfl rfl rfl rfl rfl rfl (am_TE.int (am_ct83  (by omega) hI) (fun b18 f18 a18 hq19 => ?_) (fun _ _ _ h => h))
              obtain ⟨hI20, hq19⟩ := hq19
              refine am_ristore (L1 := [(0, .ref 10), (1, am_iv x1), (2, am_iv x2), (3, am_iv x3), (4, am_iv b12), (5, am_iv b18)]) rfl rfl rfl rfl rfl ?_
              refine am_riload rfl rfl rfl ?_
              refine am_riconst rfl ?_
              refine am_ric_ne rfl rfl (by unfold am_rg; omega) (by unfold am_rg; omega) (fun hc21 => ?_) (fun hc21 => ?_)
              · refine am_raload_n rfl rfl rfl ?_
                refine am_riload rfl rfl rfl ?_
                refine am_evirtualV (m := am_m95) (As := [.ref 10, am_iv b18]) (S1 := []) rfl rfl rfl rfl rfl rfl rfl rfl rfl rfl (am_TE.void (am_ct95 (y1 := b18) (by omega) hI20 (by omega)) (fun f22 a22 hq23 => ?_) (fun _ _ _ h => h))
                have hI24 := hq23
                refine am_riinc (L1 := [(0, .ref 10), (1, am_iv x1), (2, am_iv x2), (3, am_iv (x3 + 1)), (4, am_iv b12), (5, am_iv b18)]) rfl rfl rfl rfl rfl ?_
                refine am_rgoto rfl rfl ?_
                exact am_T.drop (L1 := [(0, .ref 10), (1, am_iv x1), (2, am_iv x2), (3, am_iv (x3 + 1))]) (ih (by omega) hI24 (by omega) (by omega) (by omega) (by omega)) (by simp)
              · refine am_raload_n rfl rfl rfl ?_
                refine am_rgetf (S1 := [.ref 4]) rfl rfl ?_
                refine am_evirtualV (m := am_m63) (As := [.ref 4]) (S1 := []) rfl rfl rfl rfl rfl rfl rfl rfl rfl rfl (am_TE.void (am_ct63  (by omega) hI20) (fun f25 a25 hq26 => ?_) (fun _ _ _ h => h))
                have hI27 := hq26
                refine am_rgoto rfl rfl ?_
                refine am_riinc (L1 := [(0, .ref 10), (1, am_iv x1), (2, am_iv x2), (3, am_iv (x3 + 1)), (4, am_iv b12), (5, am_iv b18)]) rfl rfl rfl rfl rfl ?_
                refine am_rgoto rfl rfl ?_
                exact am_T.drop (L1 := [(0, .ref 10), (1, am_iv x1), (2, am_iv x2), (3, am_iv (x3 + 1))]) (ih (by omega) hI27 (by omega) (by omega) (by omega) (by omega)) (by simp)
            · refine am_raload_n rfl rfl rfl ?_
              refine am_rgetf (S1 := [.ref 2]) rfl rfl ?_
              have q28 := am_Ig201 hI
              refine am_evirtualI (m := am_m73) (As := [.ref 2]) (S1 := []) rfl rfl rfl rfl rfl rfl rfl rfl rfl rfl (am_TE.int (am_ct73  (by omega) hI) (fun b29 f29 a29 hq30 => ?_) (fun _ _ _ h => h))
              obtain ⟨hI31, hq30⟩ := hq30
              refine am_rpop rfl rfl ?_
              refine am_raload_n rfl rfl rfl ?_
              refine am_riload rfl rfl rfl ?_
              refine am_estaticI (m := am_m107) (As := [am_iv b12]) (S1 := [.ref 10]) rfl rfl rfl rfl rfl rfl rfl rfl (am_TE.int (am_ct107 (y1 := b12) (by omega) (by omega)) (fun b32 f32 a32 hq33 => ?_) (fun _ _ _ h => h))
              obtain ⟨rfl, rfl, hq33⟩ := hq33
              refine am_rif_eq rfl rfl (by unfold am_rg; omega) (fun hc34 => ?_) (fun hc34 => ?_)
              · refine am_riload rfl rfl rfl ?_
                refine am_evirtualV (m := am_m95) (As := [.ref 10, am_iv b12]) (S1 := []) rfl rfl rfl rfl rfl rfl rfl rfl rfl rfl (am_TE.void (am_ct95 (y1 := b12) (by omega) hI31 (by omega)) (fun f35 a35 hq36 => ?_) (fun _ _ _ h => h))
                have hI37 := hq36
                refine am_rgoto rfl rfl ?_
                refine am_riinc (L1 := [(0, .ref 10), (1, am_iv x1), (2, am_iv x2), (3, am_iv (x3 + 1)), (4, am_iv b12)]) rfl rfl rfl rfl rfl ?_
                refine am_rgoto rfl rfl ?_
                exact am_T.drop (L1 := [(0, .ref 10), (1, am_iv x1), (2, am_iv x2), (3, am_iv (x3 + 1))]) (ih (by omega) hI37 (by omega) (by omega) (by omega) (by omega)) (by simp)
              · refine am_rbipush rfl (by decide) ?_
                refine am_rgoto rfl rfl ?_
                refine am_evirtualV (m := am_m95) (As := [.ref 10, am_iv 32]) (S1 := []) rfl rfl rfl rfl rfl rfl rfl rfl rfl rfl (am_TE.void (am_ct95 (y1 := 32) (by omega) hI31 (by omega)) (fun f38 a38 hq39 => ?_) (fun _ _ _ h => h))
                have hI40 := hq39
                refine am_rgoto rfl rfl ?_
                refine am_riinc (L1 := [(0, .ref 10), (1, am_iv x1), (2, am_iv x2), (3, am_iv (x3 + 1)), (4, am_iv b12)]) rfl rfl rfl rfl rfl ?_
                refine am_rgoto rfl rfl ?_
                exact am_T.drop (L1 := [(0, .ref 10), (1, am_iv x1), (2, am_iv x2), (3, am_iv (x3 + 1))]) (ih (by omega) hI40 (by omega) (by omega) (by omega) (by omega)) (by simp)
          · exact am_ethrow rfl rfl rfl rfl ⟨by decide, hI.weak⟩
        · refine am_raload_n rfl rfl rfl ?_
          refine am_rgetf (S1 := [.ref 4]) rfl rfl ?_
          refine am_evirtualV (m := am_m64) (As := [.ref 4]) (S1 := []) rfl rfl rfl rfl rfl rfl rfl rfl rfl rfl (am_TE.void (am_ct64  (by omega) hI) (fun f41 a41 hq42 => ?_) (fun _ _ _ h => h))
          have hI43 := hq42
          refine am_rgoto rfl rfl ?_
          refine am_riinc (L1 := [(0, .ref 10), (1, am_iv x1), (2, am_iv x2), (3, am_iv (x3 + 1)), (4, am_iv b12)]) rfl rfl rfl rfl rfl ?_
          refine am_rgoto rfl rfl ?_
          exact am_T.drop (L1 := [(0, .ref 10), (1, am_iv x1), (2, am_iv x2), (3, am_iv (x3 + 1))]) (ih (by omega) hI43 (by omega) (by omega) (by omega) (by omega)) (by simp)
      · refine am_raload_n rfl rfl rfl ?_
        refine am_rgetf (S1 := [.ref 2]) rfl rfl ?_
        refine am_evirtualI (m := am_m72) (As := [.ref 2]) (S1 := []) rfl rfl rfl rfl rfl rfl rfl rfl rfl rfl (am_TE.int (am_ct72  (by omega) hI) (fun b44 f44 a44 hq45 => ?_) (fun _ _ _ h => h))
        obtain ⟨rfl, rfl, hq45⟩ := hq45
        refine am_rbipush rfl (by decide) ?_
        refine am_ric_eq rfl rfl (by unfold am_rg; omega) (by unfold am_rg; omega) (fun hc46 => ?_) (fun hc46 => ?_)
        · refine am_raload_n rfl rfl rfl ?_
          refine am_rgetf (S1 := [.ref 2]) rfl rfl ?_
          refine am_rbipush rfl (by decide) ?_
          have q47 := am_Ig201 hI
          refine am_evirtualV (m := am_m74) (As := [.ref 2, am_iv 34]) (S1 := []) rfl rfl rfl rfl rfl rfl rfl rfl rfl rfl (am_TE.void (am_ct74 (y1 := 34) (by omega) hI (by omega)) (fun f48 a48 hq49 => ?_) (fun _ _ _ h => h))
          obtain ⟨hI50, hq49⟩ := hq49
          refine am_riload_n rfl rfl rfl ?_
          refine am_rif_eq rfl rfl (by unfold am_rg; omega) (fun hc51 => ?_) (fun hc51 => ?_)
          · exact am_eret rfl rfl hI50
          · refine am_raload_n rfl rfl rfl ?_
            refine am_evirtualV (m := am_m96) (As := [.ref 10]) (S1 := []) rfl rfl rfl rfl rfl rfl rfl rfl rfl rfl (am_TE.void (am_ct96  (by omega) hI50) (fun f52 a52 hq53 => ?_) (fun _ _ _ h => h))
            have hI54 := hq53
            exact am_eret rfl rfl hI54
        · refine am_raload_n rfl rfl rfl ?_
          refine am_rgetf (S1 := [.ref 2]) rfl rfl ?_
          refine am_evirtualI (m := am_m72) (As := [.ref 2]) (S1 := []) rfl rfl rfl rfl rfl rfl rfl rfl rfl rfl (am_TE.int (am_ct72  (by omega) hI) (fun b55 f55 a55 hq56 => ?_) (fun _ _ _ h => h))
          obtain ⟨rfl, rfl, hq56⟩ := hq56
          refine am_ristore (L1 := [(0, .ref 10), (1, am_iv x1), (2, am_iv x2), (3, am_iv x3), (4, am_iv b55)]) rfl rfl rfl rfl rfl ?_
          refine am_riload rfl rfl rfl ?_
          refine am_riconst rfl ?_
          refine am_ric_ne rfl rfl (by unfold am_rg; omega) (by unfold am_rg; omega) (fun hc57 => ?_) (fun hc57 => ?_)
          · refine am_riload rfl rfl rfl ?_
            refine am_rbipush rfl (by decide) ?_
            refine am_ric_ne rfl rfl (by unfold am_rg; omega) (by unfold am_rg; omega) (fun hc58 => ?_) (fun hc58 => ?_)
            · refine am_riload rfl rfl rfl ?_
              refine am_rbipush rfl (by decide) ?_
              refine am_ric_eq rfl rfl (by unfold am_rg; omega) (by unfold am_rg; omega) (fun hc59 => ?_) (fun hc59 => ?_)
              · refine am_raload_n rfl rfl rfl ?_
                refine am_rgetf (S1 := [.ref 2]) rfl rfl ?_
                have q60 := am_Ig201 hI
                refine am_evirtualI (m := am_m83) (As := [.ref 2]) (S1 := []) rfl rfl rfl rfl rfl rfl rfl rfl rfl rfl (am_TE.int (am_ct83  (by omega) hI) (fun b61 f61 a61 hq62 => ?_) (fun _ _ _ h => h))
                obtain ⟨hI63, hq62⟩ := hq62
                refine am_ristore (L1 := [(0, .ref 10), (1, am_iv x1), (2, am_iv x2), (3, am_iv x3), (4, am_iv b55), (5, am_iv b61)]) rfl rfl rfl rfl rfl ?_
                refine am_riload rfl rfl rfl ?_
                refine am_riconst rfl ?_
                refine am_ric_ne rfl rfl (by unfold am_rg; omega) (by unfold am_rg; omega) (fun hc64 => ?_) (fun hc64 => ?_)
                · refine am_raload_n rfl rfl rfl ?_
                  refine am_riload rfl rfl rfl ?_
                  refine am_evirtualV (m := am_m95) (As := [.ref 10, am_iv b61]) (S1 := []) rfl rfl rfl rfl rfl rfl rfl rfl rfl rfl (am_TE.void (am_ct95 (y1 := b61) (by omega) hI63 (by omega)) (fun f65 a65 hq66 => ?_) (fun _ _ _ h => h))
                  have hI67 := hq66
                  refine am_riinc (L1 := [(0, .ref 10), (1, am_iv x1), (2, am_iv x2), (3, am_iv (x3 + 1)), (4, am_iv b55), (5, am_iv b61)]) rfl rfl rfl rfl rfl ?_
                  refine am_rgoto rfl rfl ?_
                  exact am_T.drop (L1 := [(0, .ref 10), (1, am_iv x1), (2, am_iv x2), (3, am_iv (x3 + 1))]) (ih (by omega) hI67 (by omega) (by omega) (by omega) (by omega)) (by simp)
                · refine am_raload_n rfl rfl rfl ?_
                  refine am_rgetf (S1 := [.ref 4]) rfl rfl ?_
                  refine am_evirtualV (m := am_m63) (As := [.ref 4]) (S1 := []) rfl rfl rfl rfl rfl rfl rfl rfl rfl rfl (am_TE.void (am_ct63  (by omega) hI63) (fun f68 a68 hq69 => ?_) (fun _ _ _ h => h))
                  have hI70 := hq69
                  refine am_rgoto rfl rfl ?_
                  refine am_riinc (L1 := [(0, .ref 10), (1, am_iv x1), (2, am_iv x2), (3, am_iv (x3 + 1)), (4, am_iv b55), (5, am_iv b61)]) rfl rfl rfl rfl rfl ?_
                  refine am_rgoto rfl rfl ?_
                  exact am_T.drop (L1 := [(0, .ref 10), (1, am_iv x1), (2, am_iv x2), (3, am_iv (x3 + 1))]) (ih (by omega) hI70 (by omega) (by omega) (by omega) (by omega)) (by simp)
              · refine am_raload_n rfl rfl rfl ?_
                refine am_rgetf (S1 := [.ref 2]) rfl rfl ?_
                have q71 := am_Ig201 hI
                refine am_evirtualI (m := am_m73) (As := [.ref 2]) (S1 := []) rfl rfl rfl rfl rfl rfl rfl rfl rfl rfl (am_TE.int (am_ct73  (by omega) hI) (fun b72 f72 a72 hq73 => ?_) (fun _ _ _ h => h))
                obtain ⟨hI74, hq73⟩ := hq73
                refine am_rpop rfl rfl ?_
                refine am_raload_n rfl rfl rfl ?_
                refine am_riload rfl rfl rfl ?_
                refine am_estaticI (m := am_m107) (As := [am_iv b55]) (S1 := [.ref 10]) rfl rfl rfl rfl rfl rfl rfl rfl (am_TE.int (am_ct107 (y1 := b55) (by omega) (by omega)) (fun b75 f75 a75 hq76 => ?_) (fun _ _ _ h => h))
                obtain ⟨rfl, rfl, hq76⟩ := hq76
                refine am_rif_eq rfl rfl (by unfold am_rg; omega) (fun hc77 => ?_) (fun hc77 => ?_)
                · refine am_riload rfl rfl rfl ?_
                  refine am_evirtualV (m := am_m95) (As := [.ref 10, am_iv b55]) (S1 := []) rfl rfl rfl rfl rfl rfl rfl rfl rfl rfl (am_TE.void (am_ct95 (y1 := b55) (by omega) hI74 (by omega)) (fun f78 a78 hq79 => ?_) (fun _ _ _ h => h))
                  have hI80 := hq79
                  refine am_rgoto rfl rfl ?_
                  refine am_riinc (L1 := [(0, .ref 10), (1, am_iv x1), (2, am_iv x2), (3, am_iv (x3 + 1)), (4, am_iv b55)]) rfl rfl rfl rfl rfl ?_
                  refine am_rgoto rfl rfl ?_
                  exact am_T.drop (L1 := [(0, .ref 10), (1, am_iv x1), (2, am_iv x2), (3, am_iv (x3 + 1))]) (ih (by omega) hI80 (by omega) (by omega) (by omega) (by omega)) (by simp)
                · refine am_rbipush rfl (by decide) ?_
                  refine am_rgoto rfl rfl ?_
                  refine am_evirtualV (m := am_m95) (As := [.ref 10, am_iv 32]) (S1 := []) rfl rfl rfl rfl rfl rfl rfl rfl rfl rfl (am_TE.void (am_ct95 (y1 := 32) (by omega) hI74 (by omega)) (fun f81 a81 hq82 => ?_) (fun _ _ _ h => h))
                  have hI83 := hq82
                  refine am_rgoto rfl rfl ?_
                  refine am_riinc (L1 := [(0, .ref 10), (1, am_iv x1), (2, am_iv x2), (3, am_iv (x3 + 1)), (4, am_iv b55)]) rfl rfl rfl rfl rfl ?_
                  refine am_rgoto rfl rfl ?_
                  exact am_T.drop (L1 := [(0, .ref 10), (1, am_iv x1), (2, am_iv x2), (3, am_iv (x3 + 1))]) (ih (by omega) hI83 (by omega) (by omega) (by omega) (by omega)) (by simp)
            · exact am_ethrow rfl rfl rfl rfl ⟨by decide, hI.weak⟩
          · refine am_raload_n rfl rfl rfl ?_
            refine am_rgetf (S1 := [.ref 4]) rfl rfl ?_
            refine am_evirtualV (m := am_m64) (As := [.ref 4]) (S1 := []) rfl rfl rfl rfl rfl rfl rfl rfl rfl rfl (am_TE.void (am_ct64  (by omega) hI) (fun f84 a84 hq85 => ?_) (fun _ _ _ h => h))
            have hI86 := hq85
            refine am_rgoto rfl rfl ?_
            refine am_riinc (L1 := [(0, .ref 10), (1, am_iv x1), (2, am_iv x2), (3, am_iv (x3 + 1)), (4, am_iv b55)]) rfl rfl rfl rfl rfl ?_
            refine am_rgoto rfl rfl ?_
            exact am_T.drop (L1 := [(0, .ref 10), (1, am_iv x1), (2, am_iv x2), (3, am_iv (x3 + 1))]) (ih (by omega) hI86 (by omega) (by omega) (by omega) (by omega)) (by simp)
set_option maxRecDepth 100000 in
set_option maxHeartbeats 4000000 in
theorem am_ct94 {X : List Value} {w : Value} {e : Nat} {g : aF} {h : aA} {d : Nat} {y1 : Int} {f : aF} {a : aA} (hd : 4 ≤ d) (hI : am_IV true g h f a) (hp0 : (y1 = 0 ∨ y1 = 1)) :
    am_TE X d am_m94 0 (lv_args 0 [.ref 10, am_iv y1]) [] f a w e (am_QV (fun f1 a1 => am_IV true g h f1 a1)) (am_EC g h) := by
  obtain ⟨d, rfl⟩ : ∃ d0, d = d0 + 1 := ⟨d - 1, by omega⟩
  refine am_raload_n rfl rfl rfl ?_
  refine am_riconst rfl ?_
  refine am_rputf (S1 := []) (h1 := am_enc (am_ud f 1003 0) a w e) rfl (am_pfB rfl am_ge10 rfl (am_sf1003 _)) (by rw [am_enc_len, am_enc_len]) ?_
  refine am_raload_n rfl rfl rfl ?_
  refine am_rgetf (S1 := [.ref 2]) rfl rfl ?_
  refine am_rbipush rfl (by decide) ?_
  have J1 := am_If1003 (v := 0) hI (by omega) (by omega)
  have q2 := am_Ig201 hI
  refine am_evirtualV (m := am_m74) (As := [.ref 2, am_iv 34]) (S1 := []) rfl rfl rfl rfl rfl rfl rfl rfl rfl rfl (am_TE.void (am_ct74 (y1 := 34) (by omega) J1 (by omega)) (fun f3 a3 hq4 => ?_) (fun _ _ _ h => h))
  obtain ⟨hI5, hq4⟩ := hq4
  refine am_raload_n rfl rfl rfl ?_
  refine am_rgetf (S1 := [.ref 4]) rfl rfl ?_
  have q6 := am_Ig406 hI5
  refine am_rgetf (S1 := [am_iv (f3 406)]) rfl rfl ?_
  refine am_ristore_n (L1 := [(0, .ref 10), (1, am_iv y1), (2, am_iv (f3 406))]) rfl rfl rfl rfl rfl ?_
  refine am_riconst rfl ?_
  refine am_ristore_n (L1 := [(0, .ref 10), (1, am_iv y1), (2, am_iv (f3 406)), (3, am_iv 0)]) rfl rfl rfl rfl rfl ?_
  exact am_ct94_24 hd (_ + 1) (Nat.lt_succ_self _) hI5 (by omega) (by omega) (by omega) (by omega)
set_option maxRecDepth 100000 in
set_option maxHeartbeats 4000000 in
theorem am_ct44 {X : List Value} {w : Value} {e : Nat} {g : aF} {h : aA} {p : Bool} {d : Nat} {c : Nat} {y1 : Int} {f : aF} {a : aA} (hd : 1 ≤ d) (hI : am_IV p g h f a) (hp0 : am_isM c) (hp1 : (-2147483648 ≤ y1 ∧ y1 ≤ 2147483647)) :
    am_TE X d am_m44 0 (lv_args 0 [.ref (c), am_iv y1]) [] f a w e (am_QV (fun f1 a1 => am_IV p g h f1 a1)) (am_EC g h) := by
  obtain ⟨d, rfl⟩ : ∃ d0, d = d0 + 1 := ⟨d - 1, by omega⟩
  refine am_raload_n rfl rfl rfl ?_
  refine am_riload_n rfl rfl rfl ?_
  refine am_rputf rfl (am_pfM0 hp0 rfl) (by rw [am_enc_len, am_enc_len]) ?_
  refine am_raload_n rfl rfl rfl ?_
  refine am_riconst rfl ?_
  refine am_rputf rfl (am_pfM1 hp0 rfl) (by rw [am_enc_len, am_enc_len]) ?_
  refine am_raload_n rfl rfl rfl ?_
  refine am_riconst rfl ?_
  refine am_rputf rfl (am_pfM2 hp0 rfl) (by rw [am_enc_len, am_enc_len]) ?_
  refine am_raload_n rfl rfl rfl ?_
  refine am_rgetf rfl (am_gfM4 hp0 rfl) ?_
  refine am_riconst rfl ?_
  refine am_riconst rfl ?_
  have q1 : (a (c + 2)).length = 31 := am_LlM2 hp0 (am_ILM2 hp0 hI)
  have i2 : am_ib (a (c + 2)) 0 := by unfold am_ib; omega
  have hl3 : am_LN (c + 2) ((a (c + 2)).set (0 : Int).toNat 0) := am_LSM2 hp0 (am_ILM2 hp0 hI) (by omega) (by omega)
  refine am_riastore (l := a (c + 2)) (h1 := am_enc (am_ud (am_ud (am_ud f (100 * c) y1) (100 * c + 1) 0) (100 * c + 2) 0) (am_ud a (c + 2) ((a (c + 2)).set (0 : Int).toNat 0)) w e) rfl (am_geM2 hp0) i2 (am_saM2 hp0 _) ?_
  refine am_raload_n rfl rfl rfl ?_
  refine am_riconst rfl ?_
  refine am_rputf rfl (am_pfM5 hp0 rfl) (by rw [am_enc_len, am_enc_len]) ?_
  have J4 := am_IfM0 (v := y1) hp0 hI (by omega) (by omega)
  have J5 := am_IfM1 (v := 0) hp0 J4 (by omega) (by omega)
  have J6 := am_IfM2 (v := 0) hp0 J5 (by omega) (by omega)
  have J7 := am_IfM5 (v := 1) hp0 J6 (by omega) (by omega)
  have J8 := am_IaM2 hp0 J7 hl3
  exact am_eret rfl rfl J8
set_option maxRecDepth 100000 in
set_option maxHeartbeats 4000000 in
theorem am_ct45 {X : List Value} {w : Value} {e : Nat} {g : aF} {h : aA} {p : Bool} {d : Nat} {c : Nat} {y1 : Int} {f : aF} {a : aA} (hd : 1 ≤ d) (hI : am_IV p g h f a) (hp0 : am_isM c) (hp1 : (-2147483648 ≤ y1 ∧ y1 ≤ 2147483647)) :
    am_TE X d am_m45 0 (lv_args 0 [.ref (c), am_iv y1]) [] f a w e (am_QI (fun b f1 a1 => am_IV p g h f1 a1 ∧ (-2147483648 ≤ b ∧ b ≤ 2147483647))) (am_EC g h) := by
  obtain ⟨d, rfl⟩ : ∃ d0, d = d0 + 1 := ⟨d - 1, by omega⟩
  refine am_raload_n rfl rfl rfl ?_
  have q1 := am_IgM2 hp0 hI
  refine am_rgetf rfl (am_gfM2 hp0 rfl) ?_
  refine am_rbipush rfl (by decide) ?_
  refine am_ric_lt rfl rfl (by unfold am_rg; omega) (by unfold am_rg; omega) (fun hc2 => ?_) (fun hc2 => ?_)
  · refine am_raload_n rfl rfl rfl ?_
    refine am_rdup rfl rfl ?_
    refine am_rgetf rfl (am_gfM2 hp0 rfl) ?_
    refine am_riconst rfl ?_
    refine am_riadd rfl ?_
    refine am_rputf rfl (am_pfM2 hp0 rfl) (by rw [am_enc_len, am_enc_len]) ?_
    refine am_raload_n rfl rfl rfl ?_
    refine am_rgetf rfl (am_gfM3 hp0 rfl) ?_
    refine am_raload_n rfl rfl rfl ?_
    refine am_rgetf rfl (am_gfM2 hp0 rfl) ?_
    rw [am_ud_eq]
    refine am_riload_n rfl rfl rfl ?_
    have q3 : (a (c + 1)).length = 31 := am_LlM1 hp0 (am_ILM1 hp0 hI)
    have i4 : am_ib (a (c + 1)) ((f (100 * c + 2)) + 1) := by unfold am_ib; omega
    have hl5 : am_LN (c + 1) ((a (c + 1)).set ((f (100 * c + 2)) + 1).toNat y1) := am_LSM1 hp0 (am_ILM1 hp0 hI) (by omega) (by omega)
    refine am_riastore (l := a (c + 1)) (h1 := am_enc (am_ud f (100 * c + 2) ((f (100 * c + 2)) + 1)) (am_ud a (c + 1) ((a (c + 1)).set ((f (100 * c + 2)) + 1).toNat y1)) w e) rfl (am_geM1 hp0) i4 (am_saM1 hp0 _) ?_
    refine am_raload_n rfl rfl rfl ?_
    refine am_rgetf rfl (am_gfM4 hp0 rfl) ?_
    refine am_raload_n rfl rfl rfl ?_
    refine am_rgetf rfl (am_gfM2 hp0 rfl) ?_
    rw [am_ud_eq]
    refine am_riconst rfl ?_
    have q6 : (a (c + 2)).length = 31 := am_LlM2 hp0 (am_ILM2 hp0 hI)
    have i7 : am_ib (a (c + 2)) ((f (100 * c + 2)) + 1) := by unfold am_ib; omega
    have hl8 : am_LN (c + 2) ((a (c + 2)).set ((f (100 * c + 2)) + 1).toNat 0) := am_LSM2 hp0 (am_ILM2 hp0 hI) (by omega) (by omega)
    refine am_riastore (l := a (c + 2)) (h1 := am_enc (am_ud f (100 * c + 2) ((f (100 * c + 2)) + 1)) (am_ud (am_ud a (c + 1) ((a (c + 1)).set ((f (100 * c + 2)) + 1).toNat y1)) (c + 2) ((a (c + 2)).set ((f (100 * c + 2)) + 1).toNat 0)) w e) rfl (by rw [am_geM2 hp0, am_ud_ne _ _ (by omega)]) i7 (am_saM2 hp0 _) ?_
    refine am_riconst rfl ?_
    refine am_raload_n rfl rfl rfl ?_
    refine am_rgetf rfl (am_gfM2 hp0 rfl) ?_
    rw [am_ud_eq]
    have q9 := am_shl_rg 1 ((f (100 * c + 2)) + 1)
    refine am_rishl rfl ?_
    have J10 := am_IfM2 (v := (f (100 * c + 2)) + 1) hp0 hI (by omega) (by omega)
    have J11 := am_IaM1 hp0 J10 hl5
    have J12 := am_IaM2 hp0 J11 hl8
    exact am_eiret rfl rfl ⟨J12, (show (-2147483648 ≤ am_shl 1 ((f (100 * c + 2)) + 1) ∧ am_shl 1 ((f (100 * c + 2)) + 1) ≤ 2147483647) by omega)⟩
  · exact am_ethrow rfl rfl rfl rfl ⟨by decide, hI.weak⟩
set_option maxRecDepth 100000 in
set_option maxHeartbeats 4000000 in
theorem am_ct46_2 {X : List Value} {w : Value} {e : Nat} {g : aF} {h : aA} {p : Bool} {d : Nat} (hd : 1 ≤ d + 1) (n : Nat) :
    ∀ {f : aF} {a : aA} {x0 : Nat} {x1 : Int} {x2 : Int} {x3 : Int}, (f (100 * x0 + 2) + 1 - x3).toNat < n → am_IV p g h f a → am_isM x0 → (-2147483648 ≤ x1 ∧ x1 ≤ 2147483647) → (-2147483648 ≤ x2 ∧ x2 ≤ 2147483647) → (-2147483648 ≤ x3 ∧ x3 ≤ 2147483647) → 0 ≤ x3 → am_TE X (d + 1) am_m46 2 [(0, .ref (x0)), (1, am_iv x1), (2, am_iv x2), (3, am_iv x3)] [] f a w e (am_QV (fun f1 a1 => am_IV p g h f1 a1)) (am_EC g h) := by
  induction n with
  | zero => intros; omega
  | succ n ih =>
    intro f a x0 x1 x2 x3 hn hI hp0 hp1 hp2 hp3 hp4
    refine am_riload_n rfl rfl rfl ?_
    refine am_raload_n rfl rfl rfl ?_
    have q1 := am_IgM2 hp0 hI
    refine am_rgetf rfl (am_gfM2 hp0 rfl) ?_
    refine am_ric_gt rfl rfl (by unfold am_rg; omega) (by unfold am_rg; omega) (fun hc2 => ?_) (fun hc2 => ?_)
    · exact am_eret rfl rfl hI
    · refine am_riload_n rfl rfl rfl ?_
      refine am_riload_n rfl rfl rfl ?_
      have q3 := am_shr_rg x1 x3
      refine am_rishr rfl ?_
      refine am_riconst rfl ?_
      have q4 := am_and_rg (am_shr x1 x3) 1
      refine am_riand rfl ?_
      refine am_rif_eq rfl rfl (by unfold am_rg; omega) (fun hc5 => ?_) (fun hc5 => ?_)
      · refine am_riinc (L1 := [(0, .ref (x0)), (1, am_iv x1), (2, am_iv x2), (3, am_iv (x3 + 1))]) rfl rfl rfl rfl rfl ?_
        refine am_rgoto rfl rfl ?_
        exact ih (by omega) hI hp0 (by omega) (by omega) (by omega) (by omega)
      · refine am_raload_n rfl rfl rfl ?_
        refine am_rgetf rfl (am_gfM4 hp0 rfl) ?_
        refine am_riload_n rfl rfl rfl ?_
        refine am_rdup2 rfl rfl rfl ?_
        have q6 : (a (x0 + 2)).length = 31 := am_LlM2 hp0 (am_ILM2 hp0 hI)
        have i7 : am_ib (a (x0 + 2)) x3 := by unfold am_ib; omega
        have q8 := am_LbM2 hp0 (am_ILM2 hp0 hI) i7
        refine am_riaload (l := a (x0 + 2)) rfl (am_geM2 hp0) i7 ?_
        refine am_riload_n rfl rfl rfl ?_
        have q9 := am_or_rg (am_at (a (x0 + 2)) x3) x2
        refine am_rior rfl ?_
        have i10 : am_ib (a (x0 + 2)) x3 := by unfold am_ib; omega
        have hl11 : am_LN (x0 + 2) ((a (x0 + 2)).set x3.toNat (am_or (am_at (a (x0 + 2)) x3) x2)) := am_LSM2 hp0 (am_ILM2 hp0 hI) (by omega) (by omega)
        refine am_riastore (l := a (x0 + 2)) (h1 := am_enc f (am_ud a (x0 + 2) ((a (x0 + 2)).set x3.toNat (am_or (am_at (a (x0 + 2)) x3) x2))) w e) rfl (am_geM2 hp0) i10 (am_saM2 hp0 _) ?_
        refine am_riinc (L1 := [(0, .ref (x0)), (1, am_iv x1), (2, am_iv x2), (3, am_iv (x3 + 1))]) rfl rfl rfl rfl rfl ?_
        refine am_rgoto rfl rfl ?_
        have J12 := am_IaM2 hp0 hI hl11
        exact ih (show ((f (100 * x0 + 2)) + 1 - (x3 + 1)).toNat < n by omega) J12 hp0 (show (-2147483648 ≤ x1 ∧ x1 ≤ 2147483647) by omega) (show (-2147483648 ≤ x2 ∧ x2 ≤ 2147483647) by omega) (show (-2147483648 ≤ (x3 + 1) ∧ (x3 + 1) ≤ 2147483647) by omega) (show 0 ≤ (x3 + 1) by omega)
set_option maxRecDepth 100000 in
set_option maxHeartbeats 4000000 in
theorem am_ct46 {X : List Value} {w : Value} {e : Nat} {g : aF} {h : aA} {p : Bool} {d : Nat} {c : Nat} {y1 : Int} {y2 : Int} {f : aF} {a : aA} (hd : 1 ≤ d) (hI : am_IV p g h f a) (hp0 : am_isM c) (hp1 : (-2147483648 ≤ y1 ∧ y1 ≤ 2147483647)) (hp2 : (-2147483648 ≤ y2 ∧ y2 ≤ 2147483647)) :
    am_TE X d am_m46 0 (lv_args 0 [.ref (c), am_iv y1, am_iv y2]) [] f a w e (am_QV (fun f1 a1 => am_IV p g h f1 a1)) (am_EC g h) := by
  obtain ⟨d, rfl⟩ : ∃ d0, d = d0 + 1 := ⟨d - 1, by omega⟩
  refine am_riconst rfl ?_
  refine am_ristore_n (L1 := [(0, .ref (c)), (1, am_iv y1), (2, am_iv y2), (3, am_iv 0)]) rfl rfl rfl rfl rfl ?_
  exact am_ct46_2 hd (_ + 1) (Nat.lt_succ_self _) hI hp0 (by omega) (by omega) (by omega) (by omega)
set_option maxRecDepth 100000 in
set_option maxHeartbeats 4000000 in
theorem am_ct48_4 {X : List Value} {w : Value} {e : Nat} {g : aF} {h : aA} {p : Bool} {E : Nat → aF → aA → Prop} {d : Nat} (hd : 1 ≤ d + 1) (n : Nat) :
    ∀ {f : aF} {a : aA} {x0 : Nat} {x1 : Int} {x2 : Int} {x3 : Int}, (f (100 * x0 + 2) + 1 - x3).toNat < n → am_IV p g h f a → am_isM x0 → (-2147483648 ≤ x1 ∧ x1 ≤ 2147483647) → (-2147483648 ≤ x2 ∧ x2 ≤ 2147483647) → (-2147483648 ≤ x3 ∧ x3 ≤ 2147483647) → 1 ≤ x3 → am_TE X (d + 1) am_m48 4 [(0, .ref (x0)), (1, am_iv x1), (2, am_iv x2), (3, am_iv x3)] [] f a w e (am_QI (fun b f1 a1 => f = f1 ∧ a = a1 ∧ (b = 0 ∨ b = 1))) E := by
  induction n with
  | zero => intros; omega
  | succ n ih =>
    intro f a x0 x1 x2 x3 hn hI hp0 hp1 hp2 hp3 hp4
    refine am_riload_n rfl rfl rfl ?_
    refine am_raload_n rfl rfl rfl ?_
    have q1 := am_IgM2 hp0 hI
    refine am_rgetf rfl (am_gfM2 hp0 rfl) ?_
    refine am_ric_gt rfl rfl (by unfold am_rg; omega) (by unfold am_rg; omega) (fun hc2 => ?_) (fun hc2 => ?_)
    · refine am_riconst rfl ?_
      exact am_ebret rfl rfl (by omega) ⟨rfl, rfl, (show ((1 : Int) = 0 ∨ (1 : Int) = 1) by omega)⟩
    · refine am_riconst rfl ?_
      refine am_raload_n rfl rfl rfl ?_
      refine am_rgetf rfl (am_gfM3 hp0 rfl) ?_
      refine am_riload_n rfl rfl rfl ?_
      have q3 : (a (x0 + 1)).length = 31 := am_LlM1 hp0 (am_ILM1 hp0 hI)
      have i4 : am_ib (a (x0 + 1)) x3 := by unfold am_ib; omega
      have q5 := am_LbM1 hp0 (am_ILM1 hp0 hI) i4
      refine am_riaload (l := a (x0 + 1)) rfl (am_geM1 hp0) i4 ?_
      refine am_rbipush rfl (by decide) ?_
      refine am_risub rfl ?_
      have q6 := am_shl_rg 1 ((am_at (a (x0 + 1)) x3) - 97)
      refine am_rishl rfl ?_
      refine am_ristore (L1 := [(0, .ref (x0)), (1, am_iv x1), (2, am_iv x2), (3, am_iv x3), (4, am_iv (am_shl 1 ((am_at (a (x0 + 1)) x3) - 97)))]) rfl rfl rfl rfl rfl ?_
      refine am_riload_n rfl rfl rfl ?_
      refine am_riload_n rfl rfl rfl ?_
      have q7 := am_shr_rg x1 x3
      refine am_rishr rfl ?_
      refine am_riconst rfl ?_
      have q8 := am_and_rg (am_shr x1 x3) 1
      refine am_riand rfl ?_
      refine am_rif_eq rfl rfl (by unfold am_rg; omega) (fun hc9 => ?_) (fun hc9 => ?_)
      · refine am_riinc (L1 := [(0, .ref (x0)), (1, am_iv x1), (2, am_iv x2), (3, am_iv (x3 + 1)), (4, am_iv (am_shl 1 ((am_at (a (x0 + 1)) x3) - 97)))]) rfl rfl rfl rfl rfl ?_
        refine am_rgoto rfl rfl ?_
        exact am_T.drop (L1 := [(0, .ref (x0)), (1, am_iv x1), (2, am_iv x2), (3, am_iv (x3 + 1))]) (ih (by omega) hI hp0 (by omega) (by omega) (by omega) (by omega)) (by simp)
      · refine am_riload_n rfl rfl rfl ?_
        refine am_riload rfl rfl rfl ?_
        have q10 := am_and_rg x2 (am_shl 1 ((am_at (a (x0 + 1)) x3) - 97))
        refine am_riand rfl ?_
        refine am_rif_eq rfl rfl (by unfold am_rg; omega) (fun hc11 => ?_) (fun hc11 => ?_)
        · refine am_riload_n rfl rfl rfl ?_
          refine am_riload rfl rfl rfl ?_
          have q12 := am_or_rg x2 (am_shl 1 ((am_at (a (x0 + 1)) x3) - 97))
          refine am_rior rfl ?_
          refine am_ristore_n (L1 := [(0, .ref (x0)), (1, am_iv x1), (2, am_iv (am_or x2 (am_shl 1 ((am_at (a (x0 + 1)) x3) - 97)))), (3, am_iv x3), (4, am_iv (am_shl 1 ((am_at (a (x0 + 1)) x3) - 97)))]) rfl rfl rfl rfl rfl ?_
          refine am_riinc (L1 := [(0, .ref (x0)), (1, am_iv x1), (2, am_iv (am_or x2 (am_shl 1 ((am_at (a (x0 + 1)) x3) - 97)))), (3, am_iv (x3 + 1)), (4, am_iv (am_shl 1 ((am_at (a (x0 + 1)) x3) - 97)))]) rfl rfl rfl rfl rfl ?_
          refine am_rgoto rfl rfl ?_
          exact am_T.drop (L1 := [(0, .ref (x0)), (1, am_iv x1), (2, am_iv (am_or x2 (am_shl 1 ((am_at (a (x0 + 1)) x3) - 97)))), (3, am_iv (x3 + 1))]) (ih (by omega) hI hp0 (by omega) (by omega) (by omega) (by omega)) (by simp)
        · refine am_riconst rfl ?_
          exact am_ebret rfl rfl (by omega) ⟨rfl, rfl, (show ((0 : Int) = 0 ∨ (0 : Int) = 1) by omega)⟩
set_option maxRecDepth 100000 in
set_option maxHeartbeats 4000000 in
theorem am_ct48 {X : List Value} {w : Value} {e : Nat} {g : aF} {h : aA} {p : Bool} {E : Nat → aF → aA → Prop} {d : Nat} {c : Nat} {y1 : Int} {f : aF} {a : aA} (hd : 1 ≤ d) (hI : am_IV p g h f a) (hp0 : am_isM c) (hp1 : (-2147483648 ≤ y1 ∧ y1 ≤ 2147483647)) :
    am_TE X d am_m48 0 (lv_args 0 [.ref (c), am_iv y1]) [] f a w e (am_QI (fun b f1 a1 => f = f1 ∧ a = a1 ∧ (b = 0 ∨ b = 1))) E := by
  obtain ⟨d, rfl⟩ : ∃ d0, d = d0 + 1 := ⟨d - 1, by omega⟩
  refine am_riconst rfl ?_
  refine am_ristore_n (L1 := [(0, .ref (c)), (1, am_iv y1), (2, am_iv 0)]) rfl rfl rfl rfl rfl ?_
  refine am_riconst rfl ?_
  refine am_ristore_n (L1 := [(0, .ref (c)), (1, am_iv y1), (2, am_iv 0), (3, am_iv 1)]) rfl rfl rfl rfl rfl ?_
  exact am_ct48_4 hd (_ + 1) (Nat.lt_succ_self _) hI hp0 (by omega) (by omega) (by omega) (by omega)
set_option maxRecDepth 100000 in
set_option maxHeartbeats 4000000 in
theorem am_ct47_2 {X : List Value} {w : Value} {e : Nat} {g : aF} {h : aA} {p : Bool} {E : Nat → aF → aA → Prop} {d : Nat} (hd : 2 ≤ d + 1) (n : Nat) :
    ∀ {f : aF} {a : aA} {x0 : Nat} {x1 : Int}, (f (100 * x0 + 2) + 1 - x1).toNat < n → am_IV p g h f a → am_isM x0 → (-2147483648 ≤ x1 ∧ x1 ≤ 2147483647) → 0 ≤ x1 → am_TE X (d + 1) am_m47 2 [(0, .ref (x0)), (1, am_iv x1)] [] f a w e (am_QI (fun b f1 a1 => f = f1 ∧ a = a1 ∧ (b = 0 ∨ b = 1))) E := by
  induction n with
  | zero => intros; omega
  | succ n ih =>
    intro f a x0 x1 hn hI hp0 hp1 hp2
    refine am_riload_n rfl rfl rfl ?_
    refine am_raload_n rfl rfl rfl ?_
    have q1 := am_IgM2 hp0 hI
    refine am_rgetf rfl (am_gfM2 hp0 rfl) ?_
    refine am_ric_gt rfl rfl (by unfold am_rg; omega) (by unfold am_rg; omega) (fun hc2 => ?_) (fun hc2 => ?_)
    · refine am_riconst rfl ?_
      exact am_ebret rfl rfl (by omega) ⟨rfl, rfl, (show ((1 : Int) = 0 ∨ (1 : Int) = 1) by omega)⟩
    · refine am_raload_n rfl rfl rfl ?_
      refine am_raload_n rfl rfl rfl ?_
      refine am_rgetf rfl (am_gfM4 hp0 rfl) ?_
      refine am_riload_n rfl rfl rfl ?_
      have q3 : (a (x0 + 2)).length = 31 := am_LlM2 hp0 (am_ILM2 hp0 hI)
      have i4 : am_ib (a (x0 + 2)) x1 := by unfold am_ib; omega
      have q5 := am_LbM2 hp0 (am_ILM2 hp0 hI) i4
      refine am_riaload (l := a (x0 + 2)) rfl (am_geM2 hp0) i4 ?_
      refine am_evirtualI (m := am_m48) (As := [.ref (x0), am_iv (am_at (a (x0 + 2)) x1)]) (S1 := []) rfl rfl rfl rfl rfl rfl rfl rfl (am_rcM hp0 rfl) rfl (am_TE.int (am_ct48 (c := x0) (y1 := (am_at (a (x0 + 2)) x1)) (by omega) hI hp0 (by omega)) (fun b6 f6 a6 hq7 => ?_) (fun _ _ _ h => h))
      obtain ⟨rfl, rfl, hq7⟩ := hq7
      refine am_rif_ne rfl rfl (by unfold am_rg; omega) (fun hc8 => ?_) (fun hc8 => ?_)
      · refine am_riinc (L1 := [(0, .ref (x0)), (1, am_iv (x1 + 1))]) rfl rfl rfl rfl rfl ?_
        refine am_rgoto rfl rfl ?_
        exact ih (by omega) hI hp0 (by omega) (by omega)
      · refine am_riconst rfl ?_
        exact am_ebret rfl rfl (by omega) ⟨rfl, rfl, (show ((0 : Int) = 0 ∨ (0 : Int) = 1) by omega)⟩
set_option maxRecDepth 100000 in
set_option maxHeartbeats 4000000 in
theorem am_ct47 {X : List Value} {w : Value} {e : Nat} {g : aF} {h : aA} {p : Bool} {E : Nat → aF → aA → Prop} {d : Nat} {c : Nat} {f : aF} {a : aA} (hd : 2 ≤ d) (hI : am_IV p g h f a) (hp0 : am_isM c) :
    am_TE X d am_m47 0 (lv_args 0 [.ref (c)]) [] f a w e (am_QI (fun b f1 a1 => f = f1 ∧ a = a1 ∧ (b = 0 ∨ b = 1))) E := by
  obtain ⟨d, rfl⟩ : ∃ d0, d = d0 + 1 := ⟨d - 1, by omega⟩
  refine am_riconst rfl ?_
  refine am_ristore_n (L1 := [(0, .ref (c)), (1, am_iv 0)]) rfl rfl rfl rfl rfl ?_
  exact am_ct47_2 hd (_ + 1) (Nat.lt_succ_self _) hI hp0 (by omega) (by omega)
set_option maxRecDepth 100000 in
set_option maxHeartbeats 4000000 in
theorem am_ct50_45 {X : List Value} {w : Value} {e : Nat} {g : aF} {h : aA} {p : Bool} {E : Nat → aF → aA → Prop} {d : Nat} (hd : 1 ≤ d + 1) (n : Nat) :
    ∀ {f : aF} {a : aA} {x0 : Nat} {x2 : Int} {x3 : Int} {x4 : Int} {x5 : Int}, (f (100 * x0 + 2) + 1 - x5).toNat < n → am_IV p g h f a → am_isM x0 → (-2147483648 ≤ x2 ∧ x2 ≤ 2147483647) → (-2147483648 ≤ x3 ∧ x3 ≤ 2147483647) → (-2147483648 ≤ x4 ∧ x4 ≤ 2147483647) → (-2147483648 ≤ x5 ∧ x5 ≤ 2147483647) → 1 ≤ x5 → am_TE X (d + 1) am_m50 45 [(0, .ref (x0)), (2, am_iv x2), (3, am_iv x3), (4, am_iv x4), (5, am_iv x5)] [] f a w e (am_QI (fun b f1 a1 => f = f1 ∧ a = a1 ∧ (-2147483648 ≤ b ∧ b ≤ 2147483647))) E := by
  induction n with
  | zero => intros; omega
  | succ n ih =>
    intro f a x0 x2 x3 x4 x5 hn hI hp0 hp1 hp2 hp3 hp4 hp5
    refine am_riload rfl rfl rfl ?_
    refine am_raload_n rfl rfl rfl ?_
    have q1 := am_IgM2 hp0 hI
    refine am_rgetf rfl (am_gfM2 hp0 rfl) ?_
    refine am_ric_gt rfl rfl (by unfold am_rg; omega) (by unfold am_rg; omega) (fun hc2 => ?_) (fun hc2 => ?_)
    · refine am_riload_n rfl rfl rfl ?_
      refine am_riload rfl rfl rfl ?_
      have q3 := am_and_rg x3 x4
      refine am_riand rfl ?_
      exact am_eiret rfl rfl ⟨rfl, rfl, (show (-2147483648 ≤ am_and x3 x4 ∧ am_and x3 x4 ≤ 2147483647) by omega)⟩
    · refine am_raload_n rfl rfl rfl ?_
      refine am_rgetf rfl (am_gfM3 hp0 rfl) ?_
      refine am_riload rfl rfl rfl ?_
      have q4 : (a (x0 + 1)).length = 31 := am_LlM1 hp0 (am_ILM1 hp0 hI)
      have i5 : am_ib (a (x0 + 1)) x5 := by unfold am_ib; omega
      have q6 := am_LbM1 hp0 (am_ILM1 hp0 hI) i5
      refine am_riaload (l := a (x0 + 1)) rfl (am_geM1 hp0) i5 ?_
      refine am_riload_n rfl rfl rfl ?_
      refine am_ric_ne rfl rfl (by unfold am_rg; omega) (by unfold am_rg; omega) (fun hc7 => ?_) (fun hc7 => ?_)
      · refine am_riinc (L1 := [(0, .ref (x0)), (2, am_iv x2), (3, am_iv x3), (4, am_iv x4), (5, am_iv (x5 + 1))]) rfl rfl rfl rfl rfl ?_
        refine am_rgoto rfl rfl ?_
        exact ih (by omega) hI hp0 (by omega) (by omega) (by omega) (by omega) (by omega)
      · refine am_riload rfl rfl rfl ?_
        refine am_riconst rfl ?_
        refine am_riload rfl rfl rfl ?_
        have q8 := am_shl_rg 1 x5
        refine am_rishl rfl ?_
        have q9 := am_or_rg x4 (am_shl 1 x5)
        refine am_rior rfl ?_
        refine am_ristore (L1 := [(0, .ref (x0)), (2, am_iv x2), (3, am_iv x3), (4, am_iv (am_or x4 (am_shl 1 x5))), (5, am_iv x5)]) rfl rfl rfl rfl rfl ?_
        refine am_riinc (L1 := [(0, .ref (x0)), (2, am_iv x2), (3, am_iv x3), (4, am_iv (am_or x4 (am_shl 1 x5))), (5, am_iv (x5 + 1))]) rfl rfl rfl rfl rfl ?_
        refine am_rgoto rfl rfl ?_
        exact ih (by omega) hI hp0 (by omega) (by omega) (by omega) (by omega) (by omega)
set_option maxRecDepth 100000 in
set_option maxHeartbeats 4000000 in
theorem am_ct50_5 {X : List Value} {w : Value} {e : Nat} {g : aF} {h : aA} {p : Bool} {E : Nat → aF → aA → Prop} {d : Nat} (hd : 1 ≤ d + 1) (n : Nat) :
    ∀ {f : aF} {a : aA} {x0 : Nat} {x1 : Int} {x2 : Int} {x3 : Int} {x4 : Int}, (f (100 * x0 + 2) + 1 - x4).toNat < n → am_IV p g h f a → am_isM x0 → (-2147483648 ≤ x1 ∧ x1 ≤ 2147483647) → (-2147483648 ≤ x2 ∧ x2 ≤ 2147483647) → (-2147483648 ≤ x3 ∧ x3 ≤ 2147483647) → (-2147483648 ≤ x4 ∧ x4 ≤ 2147483647) → 0 ≤ x4 → am_TE X (d + 1) am_m50 5 [(0, .ref (x0)), (1, am_iv x1), (2, am_iv x2), (3, am_iv x3), (4, am_iv x4)] [] f a w e (am_QI (fun b f1 a1 => f = f1 ∧ a = a1 ∧ (-2147483648 ≤ b ∧ b ≤ 2147483647))) E := by
  induction n with
  | zero => intros; omega
  | succ n ih =>
    intro f a x0 x1 x2 x3 x4 hn hI hp0 hp1 hp2 hp3 hp4 hp5
    refine am_riload rfl rfl rfl ?_
    refine am_raload_n rfl rfl rfl ?_
    have q1 := am_IgM2 hp0 hI
    refine am_rgetf rfl (am_gfM2 hp0 rfl) ?_
    refine am_ric_gt rfl rfl (by unfold am_rg; omega) (by unfold am_rg; omega) (fun hc2 => ?_) (fun hc2 => ?_)
    · refine am_riconst rfl ?_
      refine am_ristore (L1 := [(0, .ref (x0)), (1, am_iv x1), (2, am_iv x2), (3, am_iv x3), (4, am_iv 0)]) rfl rfl rfl rfl rfl ?_
      refine am_riconst rfl ?_
      refine am_ristore (L1 := [(0, .ref (x0)), (1, am_iv x1), (2, am_iv x2), (3, am_iv x3), (4, am_iv 0), (5, am_iv 1)]) rfl rfl rfl rfl rfl ?_
      exact am_T.drop (L1 := [(0, .ref (x0)), (2, am_iv x2), (3, am_iv x3), (4, am_iv 0), (5, am_iv 1)]) (am_ct50_45 hd (_ + 1) (Nat.lt_succ_self _) hI hp0 (by omega) (by omega) (by omega) (by omega) (by omega)) (by simp)
    · refine am_riload_n rfl rfl rfl ?_
      refine am_riload rfl rfl rfl ?_
      have q3 := am_shr_rg x1 x4
      refine am_rishr rfl ?_
      refine am_riconst rfl ?_
      have q4 := am_and_rg (am_shr x1 x4) 1
      refine am_riand rfl ?_
      refine am_rif_eq rfl rfl (by unfold am_rg; omega) (fun hc5 => ?_) (fun hc5 => ?_)
      · refine am_riinc (L1 := [(0, .ref (x0)), (1, am_iv x1), (2, am_iv x2), (3, am_iv x3), (4, am_iv (x4 + 1))]) rfl rfl rfl rfl rfl ?_
        refine am_rgoto rfl rfl ?_
        exact ih (by omega) hI hp0 (by omega) (by omega) (by omega) (by omega) (by omega)
      · refine am_riload_n rfl rfl rfl ?_
        refine am_raload_n rfl rfl rfl ?_
        refine am_rgetf rfl (am_gfM4 hp0 rfl) ?_
        refine am_riload rfl rfl rfl ?_
        have q6 : (a (x0 + 2)).length = 31 := am_LlM2 hp0 (am_ILM2 hp0 hI)
        have i7 : am_ib (a (x0 + 2)) x4 := by unfold am_ib; omega
        have q8 := am_LbM2 hp0 (am_ILM2 hp0 hI) i7
        refine am_riaload (l := a (x0 + 2)) rfl (am_geM2 hp0) i7 ?_
        have q9 := am_or_rg x3 (am_at (a (x0 + 2)) x4)
        refine am_rior rfl ?_
        refine am_ristore_n (L1 := [(0, .ref (x0)), (1, am_iv x1), (2, am_iv x2), (3, am_iv (am_or x3 (am_at (a (x0 + 2)) x4))), (4, am_iv x4)]) rfl rfl rfl rfl rfl ?_
        refine am_riinc (L1 := [(0, .ref (x0)), (1, am_iv x1), (2, am_iv x2), (3, am_iv (am_or x3 (am_at (a (x0 + 2)) x4))), (4, am_iv (x4 + 1))]) rfl rfl rfl rfl rfl ?_
        refine am_rgoto rfl rfl ?_
        exact ih (by omega) hI hp0 (by omega) (by omega) (by omega) (by omega) (by omega)
set_option maxRecDepth 100000 in
set_option maxHeartbeats 4000000 in
theorem am_ct50 {X : List Value} {w : Value} {e : Nat} {g : aF} {h : aA} {p : Bool} {E : Nat → aF → aA → Prop} {d : Nat} {c : Nat} {y1 : Int} {y2 : Int} {f : aF} {a : aA} (hd : 1 ≤ d) (hI : am_IV p g h f a) (hp0 : am_isM c) (hp1 : (-2147483648 ≤ y1 ∧ y1 ≤ 2147483647)) (hp2 : (-2147483648 ≤ y2 ∧ y2 ≤ 2147483647)) :
    am_TE X d am_m50 0 (lv_args 0 [.ref (c), am_iv y1, am_iv y2]) [] f a w e (am_QI (fun b f1 a1 => f = f1 ∧ a = a1 ∧ (-2147483648 ≤ b ∧ b ≤ 2147483647))) E := by
  obtain ⟨d, rfl⟩ : ∃ d0, d = d0 + 1 := ⟨d - 1, by omega⟩
  refine am_riconst rfl ?_
  refine am_ristore_n (L1 := [(0, .ref (c)), (1, am_iv y1), (2, am_iv y2), (3, am_iv 0)]) rfl rfl rfl rfl rfl ?_
  refine am_riconst rfl ?_
  refine am_ristore (L1 := [(0, .ref (c)), (1, am_iv y1), (2, am_iv y2), (3, am_iv 0), (4, am_iv 0)]) rfl rfl rfl rfl rfl ?_
  exact am_ct50_5 hd (_ + 1) (Nat.lt_succ_self _) hI hp0 (by omega) (by omega) (by omega) (by omega) (by omega)
set_option maxRecDepth 100000 in
set_option maxHeartbeats 4000000 in
theorem am_ct49 {X : List Value} {w : Value} {e : Nat} {g : aF} {h : aA} {p : Bool} {E : Nat → aF → aA → Prop} {d : Nat} {c : Nat} {y1 : Int} {y2 : Int} {f : aF} {a : aA} (hd : 2 ≤ d) (hI : am_IV p g h f a) (hp0 : am_isM c) (hp1 : (-2147483648 ≤ y1 ∧ y1 ≤ 2147483647)) (hp2 : (-2147483648 ≤ y2 ∧ y2 ≤ 2147483647)) :
    am_TE X d am_m49 0 (lv_args 0 [.ref (c), am_iv y1, am_iv y2]) [] f a w e (am_QI (fun b f1 a1 => f = f1 ∧ a = a1 ∧ (-2147483648 ≤ b ∧ b ≤ 2147483647))) E := by
  obtain ⟨d, rfl⟩ : ∃ d0, d = d0 + 1 := ⟨d - 1, by omega⟩
  refine am_raload_n rfl rfl rfl ?_
  have q1 := am_IgM0 hp0 hI
  refine am_rgetf rfl (am_gfM0 hp0 rfl) ?_
  refine am_rsw rfl (by unfold am_rg; omega) rfl (fun hc2 => ?_) (fun h8 h9 => ?_)
  · refine am_riload_n rfl rfl rfl ?_
    exact am_eiret rfl rfl ⟨rfl, rfl, (show (-2147483648 ≤ y1 ∧ y1 ≤ 2147483647) by omega)⟩
  · rcases (show (f (100 * c)) = 1 ∨ (f (100 * c)) = 2 ∨ (f (100 * c)) = 3 ∨ (f (100 * c)) = 4 by omega) with hc2 | hc2 | hc2 | hc2
    · refine ⟨_, _, by rw [hc2]; rfl, rfl, ?_⟩
      refine am_riconst rfl ?_
      exact am_eiret rfl rfl ⟨rfl, rfl, (show (-2147483648 ≤ (0 : Int) ∧ (0 : Int) ≤ 2147483647) by omega)⟩
    · refine ⟨_, _, by rw [hc2]; rfl, rfl, ?_⟩
      refine am_riload_n rfl rfl rfl ?_
      exact am_eiret rfl rfl ⟨rfl, rfl, (show (-2147483648 ≤ y1 ∧ y1 ≤ 2147483647) by omega)⟩
    · refine ⟨_, _, by rw [hc2]; rfl, rfl, ?_⟩
      refine am_raload_n rfl rfl rfl ?_
      have q3 := am_IgM1 hp0 hI
      refine am_rgetf rfl (am_gfM1 hp0 rfl) ?_
      refine am_riload_n rfl rfl rfl ?_
      refine am_rbipush rfl (by decide) ?_
      refine am_risub rfl ?_
      have q4 := am_shr_rg (f (100 * c + 1)) (y2 - 97)
      refine am_rishr rfl ?_
      refine am_riconst rfl ?_
      have q5 := am_and_rg (am_shr (f (100 * c + 1)) (y2 - 97)) 1
      refine am_riand rfl ?_
      refine am_rif_eq rfl rfl (by unfold am_rg; omega) (fun hc6 => ?_) (fun hc6 => ?_)
      · refine am_riconst rfl ?_
        exact am_eiret rfl rfl ⟨rfl, rfl, (show (-2147483648 ≤ (0 : Int) ∧ (0 : Int) ≤ 2147483647) by omega)⟩
      · refine am_riload_n rfl rfl rfl ?_
        refine am_rgoto rfl rfl ?_
        exact am_eiret rfl rfl ⟨rfl, rfl, (show (-2147483648 ≤ y1 ∧ y1 ≤ 2147483647) by omega)⟩
    · refine ⟨_, _, by rw [hc2]; rfl, rfl, ?_⟩
      refine am_raload_n rfl rfl rfl ?_
      refine am_riload_n rfl rfl rfl ?_
      refine am_riload_n rfl rfl rfl ?_
      refine am_evirtualI (m := am_m50) (As := [.ref (c), am_iv y1, am_iv y2]) (S1 := []) rfl rfl rfl rfl rfl rfl rfl rfl (am_rcM hp0 rfl) rfl (am_TE.int (am_ct50 (c := c) (y1 := y1) (y2 := y2) (by omega) hI hp0 (by omega) (by omega)) (fun b7 f7 a7 hq8 => ?_) (fun _ _ _ h => h))
      obtain ⟨rfl, rfl, hq8⟩ := hq8
      exact am_eiret rfl rfl ⟨rfl, rfl, (show (-2147483648 ≤ b7 ∧ b7 ≤ 2147483647) by omega)⟩
set_option maxRecDepth 100000 in
set_option maxHeartbeats 4000000 in
theorem am_ct51 {X : List Value} {w : Value} {e : Nat} {g : aF} {h : aA} {p : Bool} {E : Nat → aF → aA → Prop} {d : Nat} {c : Nat} {y1 : Int} {y2 : Int} {f : aF} {a : aA} (hd : 1 ≤ d) (hI : am_IV p g h f a) (hp0 : am_isM c) (hp1 : (-2147483648 ≤ y1 ∧ y1 ≤ 2147483647)) (hp2 : (y2 = 0 ∨ y2 = 1)) :
    am_TE X d am_m51 0 (lv_args 0 [.ref (c), am_iv y1, am_iv y2]) [] f a w e (am_QI (fun b f1 a1 => f = f1 ∧ a = a1 ∧ (-2147483648 ≤ b ∧ b ≤ 2147483647))) E := by
  obtain ⟨d, rfl⟩ : ∃ d0, d = d0 + 1 := ⟨d - 1, by omega⟩
  refine am_raload_n rfl rfl rfl ?_
  have q1 := am_IgM0 hp0 hI
  refine am_rgetf rfl (am_gfM0 hp0 rfl) ?_
  refine am_riconst rfl ?_
  refine am_ric_eq rfl rfl (by unfold am_rg; omega) (by unfold am_rg; omega) (fun hc2 => ?_) (fun hc2 => ?_)
  · refine am_riconst rfl ?_
    refine am_rgoto rfl rfl ?_
    exact am_eiret rfl rfl ⟨rfl, rfl, (show (-2147483648 ≤ (0 : Int) ∧ (0 : Int) ≤ 2147483647) by omega)⟩
  · refine am_raload_n rfl rfl rfl ?_
    refine am_rgetf rfl (am_gfM0 hp0 rfl) ?_
    refine am_riconst rfl ?_
    refine am_ric_ne rfl rfl (by unfold am_rg; omega) (by unfold am_rg; omega) (fun hc3 => ?_) (fun hc3 => ?_)
    · refine am_riload_n rfl rfl rfl ?_
      exact am_eiret rfl rfl ⟨rfl, rfl, (show (-2147483648 ≤ y1 ∧ y1 ≤ 2147483647) by omega)⟩
    · refine am_riload_n rfl rfl rfl ?_
      refine am_rif_ne rfl rfl (by unfold am_rg; omega) (fun hc4 => ?_) (fun hc4 => ?_)
      · refine am_riload_n rfl rfl rfl ?_
        exact am_eiret rfl rfl ⟨rfl, rfl, (show (-2147483648 ≤ y1 ∧ y1 ≤ 2147483647) by omega)⟩
      · refine am_riconst rfl ?_
        refine am_rgoto rfl rfl ?_
        exact am_eiret rfl rfl ⟨rfl, rfl, (show (-2147483648 ≤ (0 : Int) ∧ (0 : Int) ≤ 2147483647) by omega)⟩
set_option maxRecDepth 100000 in
set_option maxHeartbeats 4000000 in
theorem am_ct54_17 {X : List Value} {w : Value} {e : Nat} {g : aF} {h : aA} {p : Bool} {d : Nat} (hd : 3 ≤ d + 1) (n : Nat) :
    ∀ {f : aF} {a : aA} {x1 : Nat} {x2 : Int} {x3 : Int}, (1000000 - x3).toNat < n → am_IV p g h f a → am_isM x1 → (-2147483648 ≤ x2 ∧ x2 ≤ 2147483647) → (-2147483648 ≤ x3 ∧ x3 ≤ 2147483647) → 0 ≤ x3 → am_TE X (d + 1) am_m54 17 [(0, .ref 27), (1, .ref (x1)), (2, am_iv x2), (3, am_iv x3)] [] f a w e (am_QV (fun f1 a1 => am_IV p g h f1 a1)) (am_EC g h) := by
  induction n with
  | zero => intros; omega
  | succ n ih =>
    intro f a x1 x2 x3 hn hI hp0 hp1 hp2 hp3
    refine am_riload_n rfl rfl rfl ?_
    refine am_rldc (x := 1000000) rfl rfl (by decide) ?_
    refine am_ric_ge rfl rfl (by unfold am_rg; omega) (by unfold am_rg; omega) (fun hc1 => ?_) (fun hc1 => ?_)
    · refine am_raload_n rfl rfl rfl ?_
      refine am_rgetf (S1 := [.ref 2]) rfl rfl ?_
      refine am_rldcs rfl rfl rfl ?_
      have q2 := am_Ig201 hI
      refine am_evirtualI (m := am_m77) (As := [.ref 2, .ref (1000000 + 14)]) (S1 := []) rfl rfl rfl rfl rfl rfl rfl rfl rfl rfl (am_TE.int (am_ct77  (by omega) hI (by decide)) (fun b3 f3 a3 hq4 => ?_) (fun _ _ _ h => h))
      obtain ⟨hI5, hq4⟩ := hq4
      refine am_rif_ne rfl rfl (by unfold am_rg; omega) (fun hc6 => ?_) (fun hc6 => ?_)
      · exact am_eret rfl rfl hI5
      · refine am_riload_n rfl rfl rfl ?_
        refine am_rif_eq rfl rfl (by unfold am_rg; omega) (fun hc7 => ?_) (fun hc7 => ?_)
        · exact am_eret rfl rfl hI5
        · exact am_ethrow rfl rfl rfl rfl ⟨by decide, hI5.weak⟩
    · refine am_raload_n rfl rfl rfl ?_
      refine am_rgetf (S1 := [.ref 2]) rfl rfl ?_
      refine am_rldcs rfl rfl rfl ?_
      have q8 := am_Ig201 hI
      refine am_evirtualI (m := am_m77) (As := [.ref 2, .ref (1000000 + 13)]) (S1 := []) rfl rfl rfl rfl rfl rfl rfl rfl rfl rfl (am_TE.int (am_ct77  (by omega) hI (by decide)) (fun b9 f9 a9 hq10 => ?_) (fun _ _ _ h => h))
      obtain ⟨hI11, hq10⟩ := hq10
      refine am_rif_ne rfl rfl (by unfold am_rg; omega) (fun hc12 => ?_) (fun hc12 => ?_)
      · refine am_raload_n rfl rfl rfl ?_
        refine am_rgetf (S1 := [.ref 2]) rfl rfl ?_
        refine am_rldcs rfl rfl rfl ?_
        have q13 := am_Ig201 hI11
        refine am_evirtualI (m := am_m77) (As := [.ref 2, .ref (1000000 + 14)]) (S1 := []) rfl rfl rfl rfl rfl rfl rfl rfl rfl rfl (am_TE.int (am_ct77  (by omega) hI11 (by decide)) (fun b14 f14 a14 hq15 => ?_) (fun _ _ _ h => h))
        obtain ⟨hI16, hq15⟩ := hq15
        refine am_rif_ne rfl rfl (by unfold am_rg; omega) (fun hc17 => ?_) (fun hc17 => ?_)
        · exact am_eret rfl rfl hI16
        · refine am_riload_n rfl rfl rfl ?_
          refine am_rif_eq rfl rfl (by unfold am_rg; omega) (fun hc18 => ?_) (fun hc18 => ?_)
          · exact am_eret rfl rfl hI16
          · exact am_ethrow rfl rfl rfl rfl ⟨by decide, hI16.weak⟩
      · refine am_raload_n rfl rfl rfl ?_
        refine am_rgetf (S1 := [.ref 2]) rfl rfl ?_
        refine am_rbipush rfl (by decide) ?_
        have q19 := am_Ig201 hI11
        refine am_evirtualV (m := am_m74) (As := [.ref 2, am_iv 124]) (S1 := []) rfl rfl rfl rfl rfl rfl rfl rfl rfl rfl (am_TE.void (am_ct74 (y1 := 124) (by omega) hI11 (by omega)) (fun f20 a20 hq21 => ?_) (fun _ _ _ h => h))
        obtain ⟨hI22, hq21⟩ := hq21
        refine am_raload_n rfl rfl rfl ?_
        refine am_rgetf (S1 := [.ref 2]) rfl rfl ?_
        have q23 := am_Ig201 hI22
        refine am_evirtualI (m := am_m78) (As := [.ref 2]) (S1 := []) rfl rfl rfl rfl rfl rfl rfl rfl rfl rfl (am_TE.int (am_ct78  (by omega) hI22) (fun b24 f24 a24 hq25 => ?_) (fun _ _ _ h => h))
        obtain ⟨hI26, hq25⟩ := hq25
        refine am_rpop rfl rfl ?_
        refine am_raload_n rfl rfl rfl ?_
        refine am_rdup rfl rfl ?_
        have q27 := am_IgM1 hp0 hI26
        refine am_rgetf rfl (am_gfM1 hp0 rfl) ?_
        refine am_riconst rfl ?_
        refine am_raload_n rfl rfl rfl ?_
        refine am_rgetf (S1 := [.ref 2, am_iv 1, am_iv (f24 (100 * x1 + 1)), .ref (x1)]) rfl rfl ?_
        have q28 := am_Ig201 hI26
        refine am_evirtualI (m := am_m75) (As := [.ref 2]) (S1 := [am_iv 1, am_iv (f24 (100 * x1 + 1)), .ref (x1)]) rfl rfl rfl rfl rfl rfl rfl rfl rfl rfl (am_TE.int (am_ct75  (by omega) hI26) (fun b29 f29 a29 hq30 => ?_) (fun _ _ _ h => h))
        obtain ⟨hI31, hq30⟩ := hq30
        refine am_rbipush rfl (by decide) ?_
        refine am_risub rfl ?_
        have q32 := am_shl_rg 1 (b29 - 97)
        refine am_rishl rfl ?_
        have q33 := am_or_rg (f24 (100 * x1 + 1)) (am_shl 1 (b29 - 97))
        refine am_rior rfl ?_
        refine am_rputf rfl (am_pfM1 hp0 rfl) (by rw [am_enc_len, am_enc_len]) ?_
        refine am_riconst rfl ?_
        refine am_ristore_n (L1 := [(0, .ref 27), (1, .ref (x1)), (2, am_iv 1), (3, am_iv x3)]) rfl rfl rfl rfl rfl ?_
        refine am_raload_n rfl rfl rfl ?_
        refine am_rgetf (S1 := [.ref 2]) rfl rfl ?_
        have J34 := am_IfM1 (v := am_or (f24 (100 * x1 + 1)) (am_shl 1 (b29 - 97))) hp0 hI31 (by omega) (by omega)
        refine am_evirtualI (m := am_m78) (As := [.ref 2]) (S1 := []) rfl rfl rfl rfl rfl rfl rfl rfl rfl rfl (am_TE.int (am_ct78  (by omega) J34) (fun b35 f35 a35 hq36 => ?_) (fun _ _ _ h => h))
        obtain ⟨hI37, hq36⟩ := hq36
        refine am_rpop rfl rfl ?_
        refine am_riinc (L1 := [(0, .ref 27), (1, .ref (x1)), (2, am_iv 1), (3, am_iv (x3 + 1))]) rfl rfl rfl rfl rfl ?_
        refine am_rgoto rfl rfl ?_
        exact ih (by omega) hI37 hp0 (by omega) (by omega) (by omega)
set_option maxRecDepth 100000 in
set_option maxHeartbeats 4000000 in
theorem am_ct54 {X : List Value} {w : Value} {e : Nat} {g : aF} {h : aA} {p : Bool} {d : Nat} {y1 : Nat} {f : aF} {a : aA} (hd : 3 ≤ d) (hI : am_IV p g h f a) (hp0 : am_isM y1) :
    am_TE X d am_m54 0 (lv_args 0 [.ref 27, .ref (y1)]) [] f a w e (am_QV (fun f1 a1 => am_IV p g h f1 a1)) (am_EC g h) := by
  obtain ⟨d, rfl⟩ : ∃ d0, d = d0 + 1 := ⟨d - 1, by omega⟩
  refine am_raload_n rfl rfl rfl ?_
  refine am_riconst rfl ?_
  refine am_evirtualV (m := am_m44) (As := [.ref (y1), am_iv 3]) (S1 := []) rfl rfl rfl rfl rfl rfl rfl rfl (am_rcM hp0 rfl) rfl (am_TE.void (am_ct44 (c := y1) (y1 := 3) (by omega) hI hp0 (by omega)) (fun f1 a1 hq2 => ?_) (fun _ _ _ h => h))
  have hI3 := hq2
  refine am_riconst rfl ?_
  refine am_ristore_n (L1 := [(0, .ref 27), (1, .ref (y1)), (2, am_iv 0)]) rfl rfl rfl rfl rfl ?_
  refine am_raload_n rfl rfl rfl ?_
  refine am_rgetf (S1 := [.ref 2]) rfl rfl ?_
  have q4 := am_Ig201 hI3
  refine am_evirtualI (m := am_m78) (As := [.ref 2]) (S1 := []) rfl rfl rfl rfl rfl rfl rfl rfl rfl rfl (am_TE.int (am_ct78  (by omega) hI3) (fun b5 f5 a5 hq6 => ?_) (fun _ _ _ h => h))
  obtain ⟨hI7, hq6⟩ := hq6
  refine am_rpop rfl rfl ?_
  refine am_riconst rfl ?_
  refine am_ristore_n (L1 := [(0, .ref 27), (1, .ref (y1)), (2, am_iv 0), (3, am_iv 0)]) rfl rfl rfl rfl rfl ?_
  exact am_ct54_17 hd (_ + 1) (Nat.lt_succ_self _) hI7 hp0 (by omega) (by omega) (by omega)
set_option maxRecDepth 100000 in
set_option maxHeartbeats 4000000 in
theorem am_ct57 {X : List Value} {w : Value} {e : Nat} {g : aF} {h : aA} {p : Bool} {d : Nat} {y1 : Nat} {f : aF} {a : aA} (hd : 2 ≤ d) (hI : am_IV p g h f a) (hp0 : am_isM y1) :
    am_TE X d am_m57 0 (lv_args 0 [.ref 27, .ref (y1)]) [] f a w e (am_QV (fun f1 a1 => am_IV p g h f1 a1)) (am_EC g h) := by
  obtain ⟨d, rfl⟩ : ∃ d0, d = d0 + 1 := ⟨d - 1, by omega⟩
  refine am_raload_n rfl rfl rfl ?_
  refine am_rgetf (S1 := [.ref 2]) rfl rfl ?_
  refine am_evirtualI (m := am_m72) (As := [.ref 2]) (S1 := []) rfl rfl rfl rfl rfl rfl rfl rfl rfl rfl (am_TE.int (am_ct72  (by omega) hI) (fun b1 f1 a1 hq2 => ?_) (fun _ _ _ h => h))
  obtain ⟨rfl, rfl, hq2⟩ := hq2
  refine am_ristore_n (L1 := [(0, .ref 27), (1, .ref (y1)), (2, am_iv b1)]) rfl rfl rfl rfl rfl ?_
  refine am_riload_n rfl rfl rfl ?_
  refine am_rbipush rfl (by decide) ?_
  refine am_ric_eq rfl rfl (by unfold am_rg; omega) (by unfold am_rg; omega) (fun hc3 => ?_) (fun hc3 => ?_)
  · refine am_raload_n rfl rfl rfl ?_
    refine am_raload_n rfl rfl rfl ?_
    have q4 := am_Ig2702 hI
    refine am_rgetf (S1 := [am_iv (f 2702), .ref (y1)]) rfl rfl ?_
    refine am_raload_n rfl rfl rfl ?_
    have q5 := am_Ig2701 hI
    refine am_rgetf (S1 := [am_iv (f 2701), am_iv (f 2702), .ref (y1)]) rfl rfl ?_
    refine am_evirtualV (m := am_m46) (As := [.ref (y1), am_iv (f 2702), am_iv (f 2701)]) (S1 := []) rfl rfl rfl rfl rfl rfl rfl rfl (am_rcM hp0 rfl) rfl (am_TE.void (am_ct46 (c := y1) (y1 := (f 2702)) (y2 := (f 2701)) (by omega) hI hp0 (by omega) (by omega)) (fun f6 a6 hq7 => ?_) (fun _ _ _ h => h))
    have hI8 := hq7
    refine am_riload_n rfl rfl rfl ?_
    refine am_rbipush rfl (by decide) ?_
    refine am_ric_eq rfl rfl (by unfold am_rg; omega) (by unfold am_rg; omega) (fun hc9 => ?_) (fun hc9 => ?_)
    · refine am_raload_n rfl rfl rfl ?_
      refine am_riconst rfl ?_
      refine am_rputf (S1 := []) (h1 := am_enc (am_ud f6 2703 1) a6 w e) rfl (am_pfB rfl am_ge27 rfl (am_sf2703 _)) (by rw [am_enc_len, am_enc_len]) ?_
      refine am_riload_n rfl rfl rfl ?_
      refine am_rbipush rfl (by decide) ?_
      refine am_ric_eq rfl rfl (by unfold am_rg; omega) (by unfold am_rg; omega) (fun hc10 => ?_) (fun hc10 => ?_)
      · refine am_raload_n rfl rfl rfl ?_
        refine am_rgetf (S1 := [.ref 2]) rfl rfl ?_
        refine am_riload_n rfl rfl rfl ?_
        have J11 := am_If2703 (v := 1) hI8 (by omega) (by omega)
        have q12 := am_Ig201 hI8
        refine am_evirtualV (m := am_m74) (As := [.ref 2, am_iv b1]) (S1 := []) rfl rfl rfl rfl rfl rfl rfl rfl rfl rfl (am_TE.void (am_ct74 (y1 := b1) (by omega) J11 (by omega)) (fun f13 a13 hq14 => ?_) (fun _ _ _ h => h))
        obtain ⟨hI15, hq14⟩ := hq14
        exact am_eret rfl rfl hI15
      · refine am_riload_n rfl rfl rfl ?_
        refine am_rbipush rfl (by decide) ?_
        refine am_ric_eq rfl rfl (by unfold am_rg; omega) (by unfold am_rg; omega) (fun hc16 => ?_) (fun hc16 => ?_)
        · refine am_raload_n rfl rfl rfl ?_
          refine am_rgetf (S1 := [.ref 2]) rfl rfl ?_
          refine am_riload_n rfl rfl rfl ?_
          have J17 := am_If2703 (v := 1) hI8 (by omega) (by omega)
          have q18 := am_Ig201 hI8
          refine am_evirtualV (m := am_m74) (As := [.ref 2, am_iv b1]) (S1 := []) rfl rfl rfl rfl rfl rfl rfl rfl rfl rfl (am_TE.void (am_ct74 (y1 := b1) (by omega) J17 (by omega)) (fun f19 a19 hq20 => ?_) (fun _ _ _ h => h))
          obtain ⟨hI21, hq20⟩ := hq20
          exact am_eret rfl rfl hI21
        · refine am_riload_n rfl rfl rfl ?_
          refine am_rbipush rfl (by decide) ?_
          refine am_ric_ne rfl rfl (by unfold am_rg; omega) (by unfold am_rg; omega) (fun hc22 => ?_) (fun hc22 => ?_)
          · have J23 := am_If2703 (v := 1) hI8 (by omega) (by omega)
            exact am_eret rfl rfl J23
          · refine am_raload_n rfl rfl rfl ?_
            refine am_rgetf (S1 := [.ref 2]) rfl rfl ?_
            refine am_riload_n rfl rfl rfl ?_
            have J24 := am_If2703 (v := 1) hI8 (by omega) (by omega)
            have q25 := am_Ig201 hI8
            refine am_evirtualV (m := am_m74) (As := [.ref 2, am_iv b1]) (S1 := []) rfl rfl rfl rfl rfl rfl rfl rfl rfl rfl (am_TE.void (am_ct74 (y1 := b1) (by omega) J24 (by omega)) (fun f26 a26 hq27 => ?_) (fun _ _ _ h => h))
            obtain ⟨hI28, hq27⟩ := hq27
            exact am_eret rfl rfl hI28
    · refine am_riload_n rfl rfl rfl ?_
      refine am_rbipush rfl (by decide) ?_
      refine am_ric_ne rfl rfl (by unfold am_rg; omega) (by unfold am_rg; omega) (fun hc29 => ?_) (fun hc29 => ?_)
      · refine am_riload_n rfl rfl rfl ?_
        refine am_rbipush rfl (by decide) ?_
        refine am_ric_eq rfl rfl (by unfold am_rg; omega) (by unfold am_rg; omega) (fun hc30 => ?_) (fun hc30 => ?_)
        · refine am_raload_n rfl rfl rfl ?_
          refine am_rgetf (S1 := [.ref 2]) rfl rfl ?_
          refine am_riload_n rfl rfl rfl ?_
          have q31 := am_Ig201 hI8
          refine am_evirtualV (m := am_m74) (As := [.ref 2, am_iv b1]) (S1 := []) rfl rfl rfl rfl rfl rfl rfl rfl rfl rfl (am_TE.void (am_ct74 (y1 := b1) (by omega) hI8 (by omega)) (fun f32 a32 hq33 => ?_) (fun _ _ _ h => h))
          obtain ⟨hI34, hq33⟩ := hq33
          exact am_eret rfl rfl hI34
        · refine am_riload_n rfl rfl rfl ?_
          refine am_rbipush rfl (by decide) ?_
          refine am_ric_eq rfl rfl (by unfold am_rg; omega) (by unfold am_rg; omega) (fun hc35 => ?_) (fun hc35 => ?_)
          · refine am_raload_n rfl rfl rfl ?_
            refine am_rgetf (S1 := [.ref 2]) rfl rfl ?_
            refine am_riload_n rfl rfl rfl ?_
            have q36 := am_Ig201 hI8
            refine am_evirtualV (m := am_m74) (As := [.ref 2, am_iv b1]) (S1 := []) rfl rfl rfl rfl rfl rfl rfl rfl rfl rfl (am_TE.void (am_ct74 (y1 := b1) (by omega) hI8 (by omega)) (fun f37 a37 hq38 => ?_) (fun _ _ _ h => h))
            obtain ⟨hI39, hq38⟩ := hq38
            exact am_eret rfl rfl hI39
          · refine am_riload_n rfl rfl rfl ?_
            refine am_rbipush rfl (by decide) ?_
            refine am_ric_ne rfl rfl (by unfold am_rg; omega) (by unfold am_rg; omega) (fun hc40 => ?_) (fun hc40 => ?_)
            · exact am_eret rfl rfl hI8
            · refine am_raload_n rfl rfl rfl ?_
              refine am_rgetf (S1 := [.ref 2]) rfl rfl ?_
              refine am_riload_n rfl rfl rfl ?_
              have q41 := am_Ig201 hI8
              refine am_evirtualV (m := am_m74) (As := [.ref 2, am_iv b1]) (S1 := []) rfl rfl rfl rfl rfl rfl rfl rfl rfl rfl (am_TE.void (am_ct74 (y1 := b1) (by omega) hI8 (by omega)) (fun f42 a42 hq43 => ?_) (fun _ _ _ h => h))
              obtain ⟨hI44, hq43⟩ := hq43
              exact am_eret rfl rfl hI44
      · refine am_raload_n rfl rfl rfl ?_
        refine am_riconst rfl ?_
        refine am_rputf (S1 := []) (h1 := am_enc (am_ud f6 2703 1) a6 w e) rfl (am_pfB rfl am_ge27 rfl (am_sf2703 _)) (by rw [am_enc_len, am_enc_len]) ?_
        refine am_riload_n rfl rfl rfl ?_
        refine am_rbipush rfl (by decide) ?_
        refine am_ric_eq rfl rfl (by unfold am_rg; omega) (by unfold am_rg; omega) (fun hc45 => ?_) (fun hc45 => ?_)
        · refine am_raload_n rfl rfl rfl ?_
          refine am_rgetf (S1 := [.ref 2]) rfl rfl ?_
          refine am_riload_n rfl rfl rfl ?_
          have J46 := am_If2703 (v := 1) hI8 (by omega) (by omega)
          have q47 := am_Ig201 hI8
          refine am_evirtualV (m := am_m74) (As := [.ref 2, am_iv b1]) (S1 := []) rfl rfl rfl rfl rfl rfl rfl rfl rfl rfl (am_TE.void (am_ct74 (y1 := b1) (by omega) J46 (by omega)) (fun f48 a48 hq49 => ?_) (fun _ _ _ h => h))
          obtain ⟨hI50, hq49⟩ := hq49
          exact am_eret rfl rfl hI50
        · refine am_riload_n rfl rfl rfl ?_
          refine am_rbipush rfl (by decide) ?_
          refine am_ric_eq rfl rfl (by unfold am_rg; omega) (by unfold am_rg; omega) (fun hc51 => ?_) (fun hc51 => ?_)
          · refine am_raload_n rfl rfl rfl ?_
            refine am_rgetf (S1 := [.ref 2]) rfl rfl ?_
            refine am_riload_n rfl rfl rfl ?_
            have J52 := am_If2703 (v := 1) hI8 (by omega) (by omega)
            have q53 := am_Ig201 hI8
            refine am_evirtualV (m := am_m74) (As := [.ref 2, am_iv b1]) (S1 := []) rfl rfl rfl rfl rfl rfl rfl rfl rfl rfl (am_TE.void (am_ct74 (y1 := b1) (by omega) J52 (by omega)) (fun f54 a54 hq55 => ?_) (fun _ _ _ h => h))
            obtain ⟨hI56, hq55⟩ := hq55
            exact am_eret rfl rfl hI56
          · refine am_riload_n rfl rfl rfl ?_
            refine am_rbipush rfl (by decide) ?_
            refine am_ric_ne rfl rfl (by unfold am_rg; omega) (by unfold am_rg; omega) (fun hc57 => ?_) (fun hc57 => ?_)
            · have J58 := am_If2703 (v := 1) hI8 (by omega) (by omega)
              exact am_eret rfl rfl J58
            · refine am_raload_n rfl rfl rfl ?_
              refine am_rgetf (S1 := [.ref 2]) rfl rfl ?_
              refine am_riload_n rfl rfl rfl ?_
              have J59 := am_If2703 (v := 1) hI8 (by omega) (by omega)
              have q60 := am_Ig201 hI8
              refine am_evirtualV (m := am_m74) (As := [.ref 2, am_iv b1]) (S1 := []) rfl rfl rfl rfl rfl rfl rfl rfl rfl rfl (am_TE.void (am_ct74 (y1 := b1) (by omega) J59 (by omega)) (fun f61 a61 hq62 => ?_) (fun _ _ _ h => h))
              obtain ⟨hI63, hq62⟩ := hq62
              exact am_eret rfl rfl hI63
  · refine am_riload_n rfl rfl rfl ?_
    refine am_rbipush rfl (by decide) ?_
    refine am_ric_ne rfl rfl (by unfold am_rg; omega) (by unfold am_rg; omega) (fun hc64 => ?_) (fun hc64 => ?_)
    · refine am_riload_n rfl rfl rfl ?_
      refine am_rbipush rfl (by decide) ?_
      refine am_ric_eq rfl rfl (by unfold am_rg; omega) (by unfold am_rg; omega) (fun hc65 => ?_) (fun hc65 => ?_)
      · refine am_raload_n rfl rfl rfl ?_
        refine am_riconst rfl ?_
        refine am_rputf (S1 := []) (h1 := am_enc (am_ud f 2703 1) a w e) rfl (am_pfB rfl am_ge27 rfl (am_sf2703 _)) (by rw [am_enc_len, am_enc_len]) ?_
        refine am_riload_n rfl rfl rfl ?_
        refine am_rbipush rfl (by decide) ?_
        refine am_ric_eq rfl rfl (by unfold am_rg; omega) (by unfold am_rg; omega) (fun hc66 => ?_) (fun hc66 => ?_)
        · refine am_raload_n rfl rfl rfl ?_
          refine am_rgetf (S1 := [.ref 2]) rfl rfl ?_
          refine am_riload_n rfl rfl rfl ?_
          have J67 := am_If2703 (v := 1) hI (by omega) (by omega)
          have q68 := am_Ig201 hI
          refine am_evirtualV (m := am_m74) (As := [.ref 2, am_iv b1]) (S1 := []) rfl rfl rfl rfl rfl rfl rfl rfl rfl rfl (am_TE.void (am_ct74 (y1 := b1) (by omega) J67 (by omega)) (fun f69 a69 hq70 => ?_) (fun _ _ _ h => h))
          obtain ⟨hI71, hq70⟩ := hq70
          exact am_eret rfl rfl hI71
        · refine am_riload_n rfl rfl rfl ?_
          refine am_rbipush rfl (by decide) ?_
          refine am_ric_eq rfl rfl (by unfold am_rg; omega) (by unfold am_rg; omega) (fun hc72 => ?_) (fun hc72 => ?_)
          · refine am_raload_n rfl rfl rfl ?_
            refine am_rgetf (S1 := [.ref 2]) rfl rfl ?_
            refine am_riload_n rfl rfl rfl ?_
            have J73 := am_If2703 (v := 1) hI (by omega) (by omega)
            have q74 := am_Ig201 hI
            refine am_evirtualV (m := am_m74) (As := [.ref 2, am_iv b1]) (S1 := []) rfl rfl rfl rfl rfl rfl rfl rfl rfl rfl (am_TE.void (am_ct74 (y1 := b1) (by omega) J73 (by omega)) (fun f75 a75 hq76 => ?_) (fun _ _ _ h => h))
            obtain ⟨hI77, hq76⟩ := hq76
            exact am_eret rfl rfl hI77
          · refine am_riload_n rfl rfl rfl ?_
            refine am_rbipush rfl (by decide) ?_
            refine am_ric_ne rfl rfl (by unfold am_rg; omega) (by unfold am_rg; omega) (fun hc78 => ?_) (fun hc78 => ?_)
            · have J79 := am_If2703 (v := 1) hI (by omega) (by omega)
              exact am_eret rfl rfl J79
            · refine am_raload_n rfl rfl rfl ?_
              refine am_rgetf (S1 := [.ref 2]) rfl rfl ?_
              refine am_riload_n rfl rfl rfl ?_
              have J80 := am_If2703 (v := 1) hI (by omega) (by omega)
              have q81 := am_Ig201 hI
              refine am_evirtualV (m := am_m74) (As := [.ref 2, am_iv b1]) (S1 := []) rfl rfl rfl rfl rfl rfl rfl rfl rfl rfl (am_TE.void (am_ct74 (y1 := b1) (by omega) J80 (by omega)) (fun f82 a82 hq83 => ?_) (fun _ _ _ h => h))
              obtain ⟨hI84, hq83⟩ := hq83
              exact am_eret rfl rfl hI84
      · refine am_riload_n rfl rfl rfl ?_
        refine am_rbipush rfl (by decide) ?_
        refine am_ric_ne rfl rfl (by unfold am_rg; omega) (by unfold am_rg; omega) (fun hc85 => ?_) (fun hc85 => ?_)
        · refine am_riload_n rfl rfl rfl ?_
          refine am_rbipush rfl (by decide) ?_
          refine am_ric_eq rfl rfl (by unfold am_rg; omega) (by unfold am_rg; omega) (fun hc86 => ?_) (fun hc86 => ?_)
          · refine am_raload_n rfl rfl rfl ?_
            refine am_rgetf (S1 := [.ref 2]) rfl rfl ?_
            refine am_riload_n rfl rfl rfl ?_
            have q87 := am_Ig201 hI
            refine am_evirtualV (m := am_m74) (As := [.ref 2, am_iv b1]) (S1 := []) rfl rfl rfl rfl rfl rfl rfl rfl rfl rfl (am_TE.void (am_ct74 (y1 := b1) (by omega) hI (by omega)) (fun f88 a88 hq89 => ?_) (fun _ _ _ h => h))
            obtain ⟨hI90, hq89⟩ := hq89
            exact am_eret rfl rfl hI90
          · refine am_riload_n rfl rfl rfl ?_
            refine am_rbipush rfl (by decide) ?_
            refine am_ric_eq rfl rfl (by unfold am_rg; omega) (by unfold am_rg; omega) (fun hc91 => ?_) (fun hc91 => ?_)
            · refine am_raload_n rfl rfl rfl ?_
              refine am_rgetf (S1 := [.ref 2]) rfl rfl ?_
              refine am_riload_n rfl rfl rfl ?_
              have q92 := am_Ig201 hI
              refine am_evirtualV (m := am_m74) (As := [.ref 2, am_iv b1]) (S1 := []) rfl rfl rfl rfl rfl rfl rfl rfl rfl rfl (am_TE.void (am_ct74 (y1 := b1) (by omega) hI (by omega)) (fun f93 a93 hq94 => ?_) (fun _ _ _ h => h))
              obtain ⟨hI95, hq94⟩ := hq94
              exact am_eret rfl rfl hI95
            · refine am_riload_n rfl rfl rfl ?_
              refine am_rbipush rfl (by decide) ?_
              refine am_ric_ne rfl rfl (by unfold am_rg; omega) (by unfold am_rg; omega) (fun hc96 => ?_) (fun hc96 => ?_)
              · exact am_eret rfl rfl hI
              · refine am_raload_n rfl rfl rfl ?_
                refine am_rgetf (S1 := [.ref 2]) rfl rfl ?_
                refine am_riload_n rfl rfl rfl ?_
                have q97 := am_Ig201 hI
                refine am_evirtualV (m := am_m74) (As := [.ref 2, am_iv b1]) (S1 := []) rfl rfl rfl rfl rfl rfl rfl rfl rfl rfl (am_TE.void (am_ct74 (y1 := b1) (by omega) hI (by omega)) (fun f98 a98 hq99 => ?_) (fun _ _ _ h => h))
                obtain ⟨hI100, hq99⟩ := hq99
                exact am_eret rfl rfl hI100
        · refine am_raload_n rfl rfl rfl ?_
          refine am_riconst rfl ?_
          refine am_rputf (S1 := []) (h1 := am_enc (am_ud f 2703 1) a w e) rfl (am_pfB rfl am_ge27 rfl (am_sf2703 _)) (by rw [am_enc_len, am_enc_len]) ?_
          refine am_riload_n rfl rfl rfl ?_
          refine am_rbipush rfl (by decide) ?_
          refine am_ric_eq rfl rfl (by unfold am_rg; omega) (by unfold am_rg; omega) (fun hc101 => ?_) (fun hc101 => ?_)
          · refine am_raload_n rfl rfl rfl ?_
            refine am_rgetf (S1 := [.ref 2]) rfl rfl ?_
            refine am_riload_n rfl rfl rfl ?_
            have J102 := am_If2703 (v := 1) hI (by omega) (by omega)
            have q103 := am_Ig201 hI
            refine am_evirtualV (m := am_m74) (As := [.ref 2, am_iv b1]) (S1 := []) rfl rfl rfl rfl rfl rfl rfl rfl rfl rfl (am_TE.void (am_ct74 (y1 := b1) (by omega) J102 (by omega)) (fun f104 a104 hq105 => ?_) (fun _ _ _ h => h))
            obtain ⟨hI106, hq105⟩ := hq105
            exact am_eret rfl rfl hI106
          · refine am_riload_n rfl rfl rfl ?_
            refine am_rbipush rfl (by decide) ?_
            refine am_ric_eq rfl rfl (by unfold am_rg; omega) (by unfold am_rg; omega) (fun hc107 => ?_) (fun hc107 => ?_)
            · refine am_raload_n rfl rfl rfl ?_
              refine am_rgetf (S1 := [.ref 2]) rfl rfl ?_
              refine am_riload_n rfl rfl rfl ?_
              have J108 := am_If2703 (v := 1) hI (by omega) (by omega)
              have q109 := am_Ig201 hI
              refine am_evirtualV (m := am_m74) (As := [.ref 2, am_iv b1]) (S1 := []) rfl rfl rfl rfl rfl rfl rfl rfl rfl rfl (am_TE.void (am_ct74 (y1 := b1) (by omega) J108 (by omega)) (fun f110 a110 hq111 => ?_) (fun _ _ _ h => h))
              obtain ⟨hI112, hq111⟩ := hq111
              exact am_eret rfl rfl hI112
            · refine am_riload_n rfl rfl rfl ?_
              refine am_rbipush rfl (by decide) ?_
              refine am_ric_ne rfl rfl (by unfold am_rg; omega) (by unfold am_rg; omega) (fun hc113 => ?_) (fun hc113 => ?_)
              · have J114 := am_If2703 (v := 1) hI (by omega) (by omega)
                exact am_eret rfl rfl J114
              · refine am_raload_n rfl rfl rfl ?_
                refine am_rgetf (S1 := [.ref 2]) rfl rfl ?_
                refine am_riload_n rfl rfl rfl ?_
                have J115 := am_If2703 (v := 1) hI (by omega) (by omega)
                have q116 := am_Ig201 hI
                refine am_evirtualV (m := am_m74) (As := [.ref 2, am_iv b1]) (S1 := []) rfl rfl rfl rfl rfl rfl rfl rfl rfl rfl (am_TE.void (am_ct74 (y1 := b1) (by omega) J115 (by omega)) (fun f117 a117 hq118 => ?_) (fun _ _ _ h => h))
                obtain ⟨hI119, hq118⟩ := hq118
                exact am_eret rfl rfl hI119
    · refine am_raload_n rfl rfl rfl ?_
      refine am_raload_n rfl rfl rfl ?_
      have q120 := am_Ig2702 hI
      refine am_rgetf (S1 := [am_iv (f 2702), .ref (y1)]) rfl rfl ?_
      refine am_raload_n rfl rfl rfl ?_
      have q121 := am_Ig2701 hI
      refine am_rgetf (S1 := [am_iv (f 2701), am_iv (f 2702), .ref (y1)]) rfl rfl ?_
      refine am_evirtualV (m := am_m46) (As := [.ref (y1), am_iv (f 2702), am_iv (f 2701)]) (S1 := []) rfl rfl rfl rfl rfl rfl rfl rfl (am_rcM hp0 rfl) rfl (am_TE.void (am_ct46 (c := y1) (y1 := (f 2702)) (y2 := (f 2701)) (by omega) hI hp0 (by omega) (by omega)) (fun f122 a122 hq123 => ?_) (fun _ _ _ h => h))
      have hI124 := hq123
      refine am_riload_n rfl rfl rfl ?_
      refine am_rbipush rfl (by decide) ?_
      refine am_ric_eq rfl rfl (by unfold am_rg; omega) (by unfold am_rg; omega) (fun hc125 => ?_) (fun hc125 => ?_)
      · refine am_raload_n rfl rfl rfl ?_
        refine am_riconst rfl ?_
        refine am_rputf (S1 := []) (h1 := am_enc (am_ud f122 2703 1) a122 w e) rfl (am_pfB rfl am_ge27 rfl (am_sf2703 _)) (by rw [am_enc_len, am_enc_len]) ?_
        refine am_riload_n rfl rfl rfl ?_
        refine am_rbipush rfl (by decide) ?_
        refine am_ric_eq rfl rfl (by unfold am_rg; omega) (by unfold am_rg; omega) (fun hc126 => ?_) (fun hc126 => ?_)
        · refine am_raload_n rfl rfl rfl ?_
          refine am_rgetf (S1 := [.ref 2]) rfl rfl ?_
          refine am_riload_n rfl rfl rfl ?_
          have J127 := am_If2703 (v := 1) hI124 (by omega) (by omega)
          have q128 := am_Ig201 hI124
          refine am_evirtualV (m := am_m74) (As := [.ref 2, am_iv b1]) (S1 := []) rfl rfl rfl rfl rfl rfl rfl rfl rfl rfl (am_TE.void (am_ct74 (y1 := b1) (by omega) J127 (by omega)) (fun f129 a129 hq130 => ?_) (fun _ _ _ h => h))
          obtain ⟨hI131, hq130⟩ := hq130
          exact am_eret rfl rfl hI131
        · refine am_riload_n rfl rfl rfl ?_
          refine am_rbipush rfl (by decide) ?_
          refine am_ric_eq rfl rfl (by unfold am_rg; omega) (by unfold am_rg; omega) (fun hc132 => ?_) (fun hc132 => ?_)
          · refine am_raload_n rfl rfl rfl ?_
            refine am_rgetf (S1 := [.ref 2]) rfl rfl ?_
            refine am_riload_n rfl rfl rfl ?_
            have J133 := am_If2703 (v := 1) hI124 (by omega) (by omega)
            have q134 := am_Ig201 hI124
            refine am_evirtualV (m := am_m74) (As := [.ref 2, am_iv b1]) (S1 := []) rfl rfl rfl rfl rfl rfl rfl rfl rfl rfl (am_TE.void (am_ct74 (y1 := b1) (by omega) J133 (by omega)) (fun f135 a135 hq136 => ?_) (fun _ _ _ h => h))
            obtain ⟨hI137, hq136⟩ := hq136
            exact am_eret rfl rfl hI137
          · refine am_riload_n rfl rfl rfl ?_
            refine am_rbipush rfl (by decide) ?_
            refine am_ric_ne rfl rfl (by unfold am_rg; omega) (by unfold am_rg; omega) (fun hc138 => ?_) (fun hc138 => ?_)
            · have J139 := am_If2703 (v := 1) hI124 (by omega) (by omega)
              exact am_eret rfl rfl J139
            · refine am_raload_n rfl rfl rfl ?_
              refine am_rgetf (S1 := [.ref 2]) rfl rfl ?_
              refine am_riload_n rfl rfl rfl ?_
              have J140 := am_If2703 (v := 1) hI124 (by omega) (by omega)
              have q141 := am_Ig201 hI124
              refine am_evirtualV (m := am_m74) (As := [.ref 2, am_iv b1]) (S1 := []) rfl rfl rfl rfl rfl rfl rfl rfl rfl rfl (am_TE.void (am_ct74 (y1 := b1) (by omega) J140 (by omega)) (fun f142 a142 hq143 => ?_) (fun _ _ _ h => h))
              obtain ⟨hI144, hq143⟩ := hq143
              exact am_eret rfl rfl hI144
      · refine am_riload_n rfl rfl rfl ?_
        refine am_rbipush rfl (by decide) ?_
        refine am_ric_ne rfl rfl (by unfold am_rg; omega) (by unfold am_rg; omega) (fun hc145 => ?_) (fun hc145 => ?_)
        · refine am_riload_n rfl rfl rfl ?_
          refine am_rbipush rfl (by decide) ?_
          refine am_ric_eq rfl rfl (by unfold am_rg; omega) (by unfold am_rg; omega) (fun hc146 => ?_) (fun hc146 => ?_)
          · refine am_raload_n rfl rfl rfl ?_
            refine am_rgetf (S1 := [.ref 2]) rfl rfl ?_
            refine am_riload_n rfl rfl rfl ?_
            have q147 := am_Ig201 hI124
            refine am_evirtualV (m := am_m74) (As := [.ref 2, am_iv b1]) (S1 := []) rfl rfl rfl rfl rfl rfl rfl rfl rfl rfl (am_TE.void (am_ct74 (y1 := b1) (by omega) hI124 (by omega)) (fun f148 a148 hq149 => ?_) (fun _ _ _ h => h))
            obtain ⟨hI150, hq149⟩ := hq149
            exact am_eret rfl rfl hI150
          · refine am_riload_n rfl rfl rfl ?_
            refine am_rbipush rfl (by decide) ?_
            refine am_ric_eq rfl rfl (by unfold am_rg; omega) (by unfold am_rg; omega) (fun hc151 => ?_) (fun hc151 => ?_)
            · refine am_raload_n rfl rfl rfl ?_
              refine am_rgetf (S1 := [.ref 2]) rfl rfl ?_
              refine am_riload_n rfl rfl rfl ?_
              have q152 := am_Ig201 hI124
              refine am_evirtualV (m := am_m74) (As := [.ref 2, am_iv b1]) (S1 := []) rfl rfl rfl rfl rfl rfl rfl rfl rfl rfl (am_TE.void (am_ct74 (y1 := b1) (by omega) hI124 (by omega)) (fun f153 a153 hq154 => ?_) (fun _ _ _ h => h))
              obtain ⟨hI155, hq154⟩ := hq154
              exact am_eret rfl rfl hI155
            · refine am_riload_n rfl rfl rfl ?_
              refine am_rbipush rfl (by decide) ?_
              refine am_ric_ne rfl rfl (by unfold am_rg; omega) (by unfold am_rg; omega) (fun hc156 => ?_) (fun hc156 => ?_)
              · exact am_eret rfl rfl hI124
              · refine am_raload_n rfl rfl rfl ?_
                refine am_rgetf (S1 := [.ref 2]) rfl rfl ?_
                refine am_riload_n rfl rfl rfl ?_
                have q157 := am_Ig201 hI124
                refine am_evirtualV (m := am_m74) (As := [.ref 2, am_iv b1]) (S1 := []) rfl rfl rfl rfl rfl rfl rfl rfl rfl rfl (am_TE.void (am_ct74 (y1 := b1) (by omega) hI124 (by omega)) (fun f158 a158 hq159 => ?_) (fun _ _ _ h => h))
                obtain ⟨hI160, hq159⟩ := hq159
                exact am_eret rfl rfl hI160
        · refine am_raload_n rfl rfl rfl ?_
          refine am_riconst rfl ?_
          refine am_rputf (S1 := []) (h1 := am_enc (am_ud f122 2703 1) a122 w e) rfl (am_pfB rfl am_ge27 rfl (am_sf2703 _)) (by rw [am_enc_len, am_enc_len]) ?_
          refine am_riload_n rfl rfl rfl ?_
          refine am_rbipush rfl (by decide) ?_
          refine am_ric_eq rfl rfl (by unfold am_rg; omega) (by unfold am_rg; omega) (fun hc161 => ?_) (fun hc161 => ?_)
          · refine am_raload_n rfl rfl rfl ?_
            refine am_rgetf (S1 := [.ref 2]) rfl rfl ?_
            refine am_riload_n rfl rfl rfl ?_
            have J162 := am_If2703 (v := 1) hI124 (by omega) (by omega)
            have q163 := am_Ig201 hI124
            refine am_evirtualV (m := am_m74) (As := [.ref 2, am_iv b1]) (S1 := []) rfl rfl rfl rfl rfl rfl rfl rfl rfl rfl (am_TE.void (am_ct74 (y1 := b1) (by omega) J162 (by omega)) (fun f164 a164 hq165 => ?_) (fun _ _ _ h => h))
            obtain ⟨hI166, hq165⟩ := hq165
            exact am_eret rfl rfl hI166
          · refine am_riload_n rfl rfl rfl ?_
            refine am_rbipush rfl (by decide) ?_
            refine am_ric_eq rfl rfl (by unfold am_rg; omega) (by unfold am_rg; omega) (fun hc167 => ?_) (fun hc167 => ?_)
            · refine am_raload_n rfl rfl rfl ?_
              refine am_rgetf (S1 := [.ref 2]) rfl rfl ?_
              refine am_riload_n rfl rfl rfl ?_
              have J168 := am_If2703 (v := 1) hI124 (by omega) (by omega)
              have q169 := am_Ig201 hI124
              refine am_evirtualV (m := am_m74) (As := [.ref 2, am_iv b1]) (S1 := []) rfl rfl rfl rfl rfl rfl rfl rfl rfl rfl (am_TE.void (am_ct74 (y1 := b1) (by omega) J168 (by omega)) (fun f170 a170 hq171 => ?_) (fun _ _ _ h => h))
              obtain ⟨hI172, hq171⟩ := hq171
              exact am_eret rfl rfl hI172
            · refine am_riload_n rfl rfl rfl ?_
              refine am_rbipush rfl (by decide) ?_
              refine am_ric_ne rfl rfl (by unfold am_rg; omega) (by unfold am_rg; omega) (fun hc173 => ?_) (fun hc173 => ?_)
              · have J174 := am_If2703 (v := 1) hI124 (by omega) (by omega)
                exact am_eret rfl rfl J174
              · refine am_raload_n rfl rfl rfl ?_
                refine am_rgetf (S1 := [.ref 2]) rfl rfl ?_
                refine am_riload_n rfl rfl rfl ?_
                have J175 := am_If2703 (v := 1) hI124 (by omega) (by omega)
                have q176 := am_Ig201 hI124
                refine am_evirtualV (m := am_m74) (As := [.ref 2, am_iv b1]) (S1 := []) rfl rfl rfl rfl rfl rfl rfl rfl rfl rfl (am_TE.void (am_ct74 (y1 := b1) (by omega) J175 (by omega)) (fun f177 a177 hq178 => ?_) (fun _ _ _ h => h))
                obtain ⟨hI179, hq178⟩ := hq178
                exact am_eret rfl rfl hI179
