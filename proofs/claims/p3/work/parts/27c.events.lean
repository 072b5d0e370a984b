set_option maxRecDepth 100000 in
set_option maxHeartbeats 4000000 in
theorem am_ct1 {X : List Value} {w : Value} {e : Nat} {g : aF} {h : aA} {p : Bool} {d : Nat} {f : aF} {a : aA} (hd : 1 ≤ d) (hI : am_IV p g h f a) :
    am_TE X d am_m1 0 (lv_args 0 [.ref 17]) [] f a w e (am_QV (fun f1 a1 => am_IV p g h f1 a1)) (am_EC g h) := by
  obtain ⟨d, rfl⟩ : ∃ d0, d = d0 + 1 := ⟨d - 1, by omega⟩
  refine am_raload_n rfl rfl rfl ?_
  refine am_riconst rfl ?_
  refine am_rputf (S1 := []) (h1 := am_enc (am_ud f 1709 0) a w e) rfl (am_pfB rfl am_ge17 rfl (am_sf1709 _)) (by rw [am_enc_len, am_enc_len]) ?_
  refine am_raload_n rfl rfl rfl ?_
  refine am_riconst rfl ?_
  refine am_rputf (S1 := []) (h1 := am_enc (am_ud (am_ud f 1709 0) 1710 0) a w e) rfl (am_pfB rfl am_ge17 rfl (am_sf1710 _)) (by rw [am_enc_len, am_enc_len]) ?_
  have J1 := am_Jf1709 (v := 0) hI.1 (by omega) (by omega)
  have J2 := am_Jf1710 (v := 0) J1 (by omega) (by omega)
  have J3 : am_IV p g h (am_ud (am_ud f 1709 0) 1710 0) a := ⟨J2, by
      exact ⟨hI.2.1, am_R3_0 _ _ _, hI.2.2.2⟩
    ⟩
  exact am_eret rfl rfl J3
set_option maxRecDepth 100000 in
set_option maxHeartbeats 4000000 in
theorem am_ct2_2 {X : List Value} {w : Value} {e : Nat} {g : aF} {h : aA} {p : Bool} {E : Nat → aF → aA → Prop} {d : Nat} (hd : 1 ≤ d + 1) (n : Nat) :
    ∀ {f : aF} {a : aA} {x1 : Int} {x2 : Int} {x3 : Int}, (f 1709 - x3).toNat < n → am_IV p g h f a → (-2147483648 ≤ x1 ∧ x1 ≤ 2147483647) → (-2147483648 ≤ x2 ∧ x2 ≤ 2147483647) → (-2147483648 ≤ x3 ∧ x3 ≤ 2147483647) → 0 ≤ x3 → am_TE X (d + 1) am_m2 2 [(0, .ref 17), (1, am_iv x1), (2, am_iv x2), (3, am_iv x3)] [] f a w e (am_QI (fun b f1 a1 => f = f1 ∧ a = a1 ∧ (-2147483648 ≤ b ∧ b ≤ 2147483647) ∧ (-1 ≤ b ∧ b < f 1709))) E := by
  induction n with
  | zero => intros; omega
  | succ n ih =>
    intro f a x1 x2 x3 hn hI hp0 hp1 hp2 hp3
    have q1 := am_Ig1709 hI
    refine am_riload_n rfl rfl rfl ?_
    refine am_raload_n rfl rfl rfl ?_
    refine am_rgetf (S1 := [am_iv (f 1709), am_iv x3]) rfl rfl ?_
    refine am_ric_ge rfl rfl (by unfold am_rg; omega) (by unfold am_rg; omega) (fun hc2 => ?_) (fun hc2 => ?_)
    · refine am_riconst rfl ?_
      exact am_eiret rfl rfl ⟨rfl, rfl, (show (-2147483648 ≤ ((-1) : Int) ∧ ((-1) : Int) ≤ 2147483647) by omega), (show (-1 ≤ (((-1) : Int)) ∧ (((-1) : Int)) < f 1709) by omega)⟩
    · refine am_raload_n rfl rfl rfl ?_
      refine am_rgetf (S1 := [.ref 18]) rfl rfl ?_
      refine am_riload_n rfl rfl rfl ?_
      have q3 : (a 18).length = 45 := am_Ll18 (am_IL 18 rfl hI)
      have i4 : am_ib (a 18) x3 := by unfold am_ib; omega
      have q5 := am_Lb18 (am_IL 18 rfl hI) i4
      refine am_riaload (l := a 18) rfl am_ge18 i4 ?_
      refine am_riload_n rfl rfl rfl ?_
      refine am_ric_ne rfl rfl (by unfold am_rg; omega) (by unfold am_rg; omega) (fun hc6 => ?_) (fun hc6 => ?_)
      · refine am_riinc (L1 := [(0, .ref 17), (1, am_iv x1), (2, am_iv x2), (3, am_iv (x3 + 1))]) rfl rfl rfl rfl rfl ?_
        refine am_rgoto rfl rfl ?_
        exact ih (by omega) hI (by omega) (by omega) (by omega) (by omega)
      · refine am_raload_n rfl rfl rfl ?_
        refine am_rgetf (S1 := [.ref 19]) rfl rfl ?_
        refine am_riload_n rfl rfl rfl ?_
        have q7 : (a 19).length = 45 := am_Ll19 (am_IL 19 rfl hI)
        have i8 : am_ib (a 19) x3 := by unfold am_ib; omega
        have q9 := am_Lb19 (am_IL 19 rfl hI) i8
        refine am_riaload (l := a 19) rfl am_ge19 i8 ?_
        refine am_riload_n rfl rfl rfl ?_
        refine am_ric_ne rfl rfl (by unfold am_rg; omega) (by unfold am_rg; omega) (fun hc10 => ?_) (fun hc10 => ?_)
        · refine am_riinc (L1 := [(0, .ref 17), (1, am_iv x1), (2, am_iv x2), (3, am_iv (x3 + 1))]) rfl rfl rfl rfl rfl ?_
          refine am_rgoto rfl rfl ?_
          exact ih (by omega) hI (by omega) (by omega) (by omega) (by omega)
        · refine am_riload_n rfl rfl rfl ?_
          exact am_eiret rfl rfl ⟨rfl, rfl, (show (-2147483648 ≤ x3 ∧ x3 ≤ 2147483647) by omega), (show (-1 ≤ x3 ∧ x3 < f 1709) by omega)⟩
set_option maxRecDepth 100000 in
set_option maxHeartbeats 4000000 in
theorem am_ct2 {X : List Value} {w : Value} {e : Nat} {g : aF} {h : aA} {p : Bool} {E : Nat → aF → aA → Prop} {d : Nat} {y1 : Int} {y2 : Int} {f : aF} {a : aA} (hd : 1 ≤ d) (hI : am_IV p g h f a) (hp0 : (-2147483648 ≤ y1 ∧ y1 ≤ 2147483647)) (hp1 : (-2147483648 ≤ y2 ∧ y2 ≤ 2147483647)) :
    am_TE X d am_m2 0 (lv_args 0 [.ref 17, am_iv y1, am_iv y2]) [] f a w e (am_QI (fun b f1 a1 => f = f1 ∧ a = a1 ∧ (-2147483648 ≤ b ∧ b ≤ 2147483647) ∧ (-1 ≤ b ∧ b < f 1709))) E := by
  obtain ⟨d, rfl⟩ : ∃ d0, d = d0 + 1 := ⟨d - 1, by omega⟩
  refine am_riconst rfl ?_
  refine am_ristore_n (L1 := [(0, .ref 17), (1, am_iv y1), (2, am_iv y2), (3, am_iv 0)]) rfl rfl rfl rfl rfl ?_
  exact am_ct2_2 hd (_ + 1) (Nat.lt_succ_self _) hI (by omega) (by omega) (by omega) (by omega)
set_option maxRecDepth 100000 in
set_option maxHeartbeats 4000000 in
theorem am_ct3 {X : List Value} {w : Value} {e : Nat} {g : aF} {h : aA} {p : Bool} {d : Nat} {y1 : Int} {y2 : Int} {y3 : Int} {y4 : Int} {f : aF} {a : aA} (hd : 1 ≤ d) (hI : am_IV p g h f a) (hp0 : (-2147483648 ≤ y1 ∧ y1 ≤ 2147483647)) (hp1 : (-2147483648 ≤ y2 ∧ y2 ≤ 2147483647)) (hp2 : (-2147483648 ≤ y3 ∧ y3 ≤ 2147483647)) (hp3 : (-2147483648 ≤ y4 ∧ y4 ≤ 2147483647)) (hp4 : 0 ≤ y2) (hp5 : y2 ≤ 122) :
    am_TE X d am_m3 0 (lv_args 0 [.ref 17, am_iv y1, am_iv y2, am_iv y3, am_iv y4]) [] f a w e (am_QV (fun f1 a1 => am_IV p g h f1 a1)) (am_EC g h) := by
  obtain ⟨d, rfl⟩ : ∃ d0, d = d0 + 1 := ⟨d - 1, by omega⟩
  refine am_raload_n rfl rfl rfl ?_
  have q1 := am_Ig1709 hI
  refine am_rgetf (S1 := [am_iv (f 1709)]) rfl rfl ?_
  refine am_rbipush rfl (by decide) ?_
  refine am_ric_lt rfl rfl (by unfold am_rg; omega) (by unfold am_rg; omega) (fun hc2 => ?_) (fun hc2 => ?_)
  · refine am_raload_n rfl rfl rfl ?_
    refine am_rgetf (S1 := [.ref 18]) rfl rfl ?_
    refine am_raload_n rfl rfl rfl ?_
    refine am_rgetf (S1 := [am_iv (f 1709), .ref 18]) rfl rfl ?_
    refine am_riload_n rfl rfl rfl ?_
    have q3 : (a 18).length = 45 := am_Ll18 (am_IL 18 rfl hI)
    have i4 : am_ib (a 18) (f 1709) := by unfold am_ib; omega
    have hl5 : am_LN 18 ((a 18).set (f 1709).toNat y1) := am_LS18 (am_IL 18 rfl hI) (by omega) (by omega)
    refine am_riastore (l := a 18) (h1 := am_enc f (am_ud a 18 ((a 18).set (f 1709).toNat y1)) w e) rfl am_ge18 i4 (am_sa18 _) ?_
    refine am_raload_n rfl rfl rfl ?_
    refine am_rgetf (S1 := [.ref 19]) rfl rfl ?_
    refine am_raload_n rfl rfl rfl ?_
    refine am_rgetf (S1 := [am_iv (f 1709), .ref 19]) rfl rfl ?_
    refine am_riload_n rfl rfl rfl ?_
    have q6 : (a 19).length = 45 := am_Ll19 (am_IL 19 rfl hI)
    have i7 : am_ib (a 19) (f 1709) := by unfold am_ib; omega
    have hl8 : am_LN 19 ((a 19).set (f 1709).toNat y2) := am_LS19 (am_IL 19 rfl hI) (by omega) (by omega)
    refine am_riastore (l := a 19) (h1 := am_enc f (am_ud (am_ud a 18 ((a 18).set (f 1709).toNat y1)) 19 ((a 19).set (f 1709).toNat y2)) w e) rfl am_ge19 i7 (am_sa19 _) ?_
    refine am_raload_n rfl rfl rfl ?_
    refine am_rgetf (S1 := [.ref 20]) rfl rfl ?_
    refine am_raload_n rfl rfl rfl ?_
    refine am_rgetf (S1 := [am_iv (f 1709), .ref 20]) rfl rfl ?_
    refine am_riload_n rfl rfl rfl ?_
    have q9 : (a 20).length = 45 := am_Ll20 (am_IL 20 rfl hI)
    have i10 : am_ib (a 20) (f 1709) := by unfold am_ib; omega
    have hl11 : am_LN 20 ((a 20).set (f 1709).toNat y3) := am_LS20 (am_IL 20 rfl hI) (by omega) (by omega)
    refine am_riastore (l := a 20) (h1 := am_enc f (am_ud (am_ud (am_ud a 18 ((a 18).set (f 1709).toNat y1)) 19 ((a 19).set (f 1709).toNat y2)) 20 ((a 20).set (f 1709).toNat y3)) w e) rfl am_ge20 i10 (am_sa20 _) ?_
    refine am_raload_n rfl rfl rfl ?_
    refine am_rgetf (S1 := [.ref 21]) rfl rfl ?_
    refine am_raload_n rfl rfl rfl ?_
    refine am_rgetf (S1 := [am_iv (f 1709), .ref 21]) rfl rfl ?_
    refine am_riload rfl rfl rfl ?_
    have q12 : (a 21).length = 45 := am_Ll21 (am_IL 21 rfl hI)
    have i13 : am_ib (a 21) (f 1709) := by unfold am_ib; omega
    have hl14 : am_LN 21 ((a 21).set (f 1709).toNat y4) := am_LS21 (am_IL 21 rfl hI) (by omega) (by omega)
    refine am_riastore (l := a 21) (h1 := am_enc f (am_ud (am_ud (am_ud (am_ud a 18 ((a 18).set (f 1709).toNat y1)) 19 ((a 19).set (f 1709).toNat y2)) 20 ((a 20).set (f 1709).toNat y3)) 21 ((a 21).set (f 1709).toNat y4)) w e) rfl am_ge21 i13 (am_sa21 _) ?_
    refine am_raload_n rfl rfl rfl ?_
    refine am_rgetf (S1 := [.ref 22]) rfl rfl ?_
    refine am_raload_n rfl rfl rfl ?_
    refine am_rgetf (S1 := [am_iv (f 1709), .ref 22]) rfl rfl ?_
    refine am_riconst rfl ?_
    have q15 : (a 22).length = 45 := am_Ll22 (am_IL 22 rfl hI)
    have i16 : am_ib (a 22) (f 1709) := by unfold am_ib; omega
    have hl17 : am_LN 22 ((a 22).set (f 1709).toNat 0) := am_LS22 (am_IL 22 rfl hI) (by omega) (by omega)
    refine am_riastore (l := a 22) (h1 := am_enc f (am_ud (am_ud (am_ud (am_ud (am_ud a 18 ((a 18).set (f 1709).toNat y1)) 19 ((a 19).set (f 1709).toNat y2)) 20 ((a 20).set (f 1709).toNat y3)) 21 ((a 21).set (f 1709).toNat y4)) 22 ((a 22).set (f 1709).toNat 0)) w e) rfl am_ge22 i16 (am_sa22 _) ?_
    refine am_raload_n rfl rfl rfl ?_
    refine am_rgetf (S1 := [.ref 23]) rfl rfl ?_
    refine am_raload_n rfl rfl rfl ?_
    refine am_rgetf (S1 := [am_iv (f 1709), .ref 23]) rfl rfl ?_
    refine am_riconst rfl ?_
    have q18 : (a 23).length = 45 := am_Ll23 (am_IL 23 rfl hI)
    have i19 : am_ib (a 23) (f 1709) := by unfold am_ib; omega
    have hl20 : am_LN 23 ((a 23).set (f 1709).toNat 0) := am_LS23 (am_IL 23 rfl hI) (by omega) (by omega)
    refine am_riastore (l := a 23) (h1 := am_enc f (am_ud (am_ud (am_ud (am_ud (am_ud (am_ud a 18 ((a 18).set (f 1709).toNat y1)) 19 ((a 19).set (f 1709).toNat y2)) 20 ((a 20).set (f 1709).toNat y3)) 21 ((a 21).set (f 1709).toNat y4)) 22 ((a 22).set (f 1709).toNat 0)) 23 ((a 23).set (f 1709).toNat 0)) w e) rfl am_ge23 i19 (am_sa23 _) ?_
    refine am_raload_n rfl rfl rfl ?_
    refine am_rgetf (S1 := [.ref 24]) rfl rfl ?_
    refine am_raload_n rfl rfl rfl ?_
    refine am_rgetf (S1 := [am_iv (f 1709), .ref 24]) rfl rfl ?_
    refine am_raload_n rfl rfl rfl ?_
    have q21 := am_Ig1710 hI
    refine am_rgetf (S1 := [am_iv (f 1710), am_iv (f 1709), .ref 24]) rfl rfl ?_
    have q22 : (a 24).length = 45 := am_Ll24 (am_IL 24 rfl hI)
    have i23 : am_ib (a 24) (f 1709) := by unfold am_ib; omega
    have hl24 : am_LN 24 ((a 24).set (f 1709).toNat (f 1710)) := am_LS24 (am_IL 24 rfl hI) (by omega) (by omega)
    refine am_riastore (l := a 24) (h1 := am_enc f (am_ud (am_ud (am_ud (am_ud (am_ud (am_ud (am_ud a 18 ((a 18).set (f 1709).toNat y1)) 19 ((a 19).set (f 1709).toNat y2)) 20 ((a 20).set (f 1709).toNat y3)) 21 ((a 21).set (f 1709).toNat y4)) 22 ((a 22).set (f 1709).toNat 0)) 23 ((a 23).set (f 1709).toNat 0)) 24 ((a 24).set (f 1709).toNat (f 1710))) w e) rfl am_ge24 i23 (am_sa24 _) ?_
    refine am_raload_n rfl rfl rfl ?_
    refine am_rgetf (S1 := [.ref 25]) rfl rfl ?_
    refine am_raload_n rfl rfl rfl ?_
    refine am_rgetf (S1 := [am_iv (f 1709), .ref 25]) rfl rfl ?_
    refine am_riconst rfl ?_
    have q25 : (a 25).length = 45 := am_Ll25 (am_IL 25 rfl hI)
    have i26 : am_ib (a 25) (f 1709) := by unfold am_ib; omega
    have hl27 : am_LN 25 ((a 25).set (f 1709).toNat 0) := am_LS25 (am_IL 25 rfl hI) (by omega) (by omega)
    refine am_riastore (l := a 25) (h1 := am_enc f (am_ud (am_ud (am_ud (am_ud (am_ud (am_ud (am_ud (am_ud a 18 ((a 18).set (f 1709).toNat y1)) 19 ((a 19).set (f 1709).toNat y2)) 20 ((a 20).set (f 1709).toNat y3)) 21 ((a 21).set (f 1709).toNat y4)) 22 ((a 22).set (f 1709).toNat 0)) 23 ((a 23).set (f 1709).toNat 0)) 24 ((a 24).set (f 1709).toNat (f 1710))) 25 ((a 25).set (f 1709).toNat 0)) w e) rfl am_ge25 i26 (am_sa25 _) ?_
    refine am_raload_n rfl rfl rfl ?_
    refine am_rdup rfl rfl ?_
    refine am_rgetf (S1 := [am_iv (f 1709), .ref 17]) rfl rfl ?_
    refine am_riconst rfl ?_
    refine am_riadd rfl ?_
    refine am_rputf (S1 := []) (h1 := am_enc (am_ud f 1709 ((f 1709) + 1)) (am_ud (am_ud (am_ud (am_ud (am_ud (am_ud (am_ud (am_ud a 18 ((a 18).set (f 1709).toNat y1)) 19 ((a 19).set (f 1709).toNat y2)) 20 ((a 20).set (f 1709).toNat y3)) 21 ((a 21).set (f 1709).toNat y4)) 22 ((a 22).set (f 1709).toNat 0)) 23 ((a 23).set (f 1709).toNat 0)) 24 ((a 24).set (f 1709).toNat (f 1710))) 25 ((a 25).set (f 1709).toNat 0)) w e) rfl (am_pfB rfl am_ge17 rfl (am_sf1709 _)) (by rw [am_enc_len, am_enc_len]) ?_
    have J28 := am_Jf1709 (v := (f 1709) + 1) hI.1 (by omega) (by omega)
    have J29 := am_Ja18 J28 hl5
    have J30 := am_Ja19 J29 hl8
    have J31 := am_Ja20 J30 hl11
    have J32 := am_Ja21 J31 hl14
    have J33 := am_Ja22 J32 hl17
    have J34 := am_Ja23 J33 hl20
    have J35 := am_Ja24 J34 hl24
    have J36 := am_Ja25 J35 hl27
    have J37 : am_IV p g h (am_ud f 1709 ((f 1709) + 1)) (am_ud (am_ud (am_ud (am_ud (am_ud (am_ud (am_ud (am_ud a 18 ((a 18).set (f 1709).toNat y1)) 19 ((a 19).set (f 1709).toNat y2)) 20 ((a 20).set (f 1709).toNat y3)) 21 ((a 21).set (f 1709).toNat y4)) 22 ((a 22).set (f 1709).toNat 0)) 23 ((a 23).set (f 1709).toNat 0)) 24 ((a 24).set (f 1709).toNat (f 1710))) 25 ((a 25).set (f 1709).toNat 0)) := ⟨J36, by
        exact ⟨hI.2.1, am_R3_push hI.2.2.1 (by omega) (by assumption) (by assumption), hI.2.2.2.1, hI.2.2.2.2.1, hI.2.2.2.2.2.1, am_R3_pushA hI.2.2.2.2.2.2 (by omega) (by assumption) (by assumption)⟩
      ⟩
    exact am_eret rfl rfl J37
  · exact am_ethrow rfl rfl rfl rfl ⟨by decide, hI.weak⟩
set_option maxRecDepth 100000 in
set_option maxHeartbeats 4000000 in
theorem am_ct4 {X : List Value} {w : Value} {e : Nat} {g : aF} {h : aA} {p : Bool} {d : Nat} {y1 : Int} {y2 : Int} {f : aF} {a : aA} (hd : 1 ≤ d) (hI : am_IV p g h f a) (hp0 : (-2147483648 ≤ y1 ∧ y1 ≤ 2147483647)) (hp1 : (-2147483648 ≤ y2 ∧ y2 ≤ 2147483647)) (hp2 : 0 ≤ y1) (hp3 : y1 ≤ 720) (hp4 : 0 ≤ y2) (hp5 : y2 ≤ 720) :
    am_TE X d am_m4 0 (lv_args 0 [.ref 17, am_iv y1, am_iv y2]) [] f a w e (am_QV (fun f1 a1 => am_IV p g h f1 a1)) (am_EC g h) := by
  obtain ⟨d, rfl⟩ : ∃ d0, d = d0 + 1 := ⟨d - 1, by omega⟩
  refine am_raload_n rfl rfl rfl ?_
  have q1 := am_Ig1709 hI
  refine am_rgetf (S1 := [am_iv (f 1709)]) rfl rfl ?_
  refine am_rif_le rfl rfl (by unfold am_rg; omega) (fun hc2 => ?_) (fun hc2 => ?_)
  · exact am_eret rfl rfl hI
  · refine am_raload_n rfl rfl rfl ?_
    refine am_rgetf (S1 := [.ref 22]) rfl rfl ?_
    refine am_raload_n rfl rfl rfl ?_
    refine am_rgetf (S1 := [am_iv (f 1709), .ref 22]) rfl rfl ?_
    refine am_riconst rfl ?_
    refine am_risub rfl ?_
    refine am_riload_n rfl rfl rfl ?_
    have q3 : (a 22).length = 45 := am_Ll22 (am_IL 22 rfl hI)
    have i4 : am_ib (a 22) ((f 1709) - 1) := by unfold am_ib; omega
    have hl5 : am_LN 22 ((a 22).set ((f 1709) - 1).toNat y1) := am_LS22 (am_IL 22 rfl hI) (by omega) (by omega)
    refine am_riastore (l := a 22) (h1 := am_enc f (am_ud a 22 ((a 22).set ((f 1709) - 1).toNat y1)) w e) rfl am_ge22 i4 (am_sa22 _) ?_
    refine am_raload_n rfl rfl rfl ?_
    refine am_rgetf (S1 := [.ref 23]) rfl rfl ?_
    refine am_raload_n rfl rfl rfl ?_
    refine am_rgetf (S1 := [am_iv (f 1709), .ref 23]) rfl rfl ?_
    refine am_riconst rfl ?_
    refine am_risub rfl ?_
    refine am_riload_n rfl rfl rfl ?_
    have q6 : (a 23).length = 45 := am_Ll23 (am_IL 23 rfl hI)
    have i7 : am_ib (a 23) ((f 1709) - 1) := by unfold am_ib; omega
    have hl8 : am_LN 23 ((a 23).set ((f 1709) - 1).toNat y2) := am_LS23 (am_IL 23 rfl hI) (by omega) (by omega)
    refine am_riastore (l := a 23) (h1 := am_enc f (am_ud (am_ud a 22 ((a 22).set ((f 1709) - 1).toNat y1)) 23 ((a 23).set ((f 1709) - 1).toNat y2)) w e) rfl am_ge23 i7 (am_sa23 _) ?_
    have J9 := am_Ia22 hI hl5
    have J10 := am_Ia23 J9 hl8
    exact am_eret rfl rfl J10
set_option maxRecDepth 100000 in
set_option maxHeartbeats 4000000 in
theorem am_ct5v {X : List Value} {w : Value} {e : Nat} {g : aF} {h : aA} {p : Bool} {d : Nat} {y2 : Int} {f : aF} {a : aA} (hd : 1 ≤ d) (hI : am_IV p g h f a) (hp0 : (-2147483648 ≤ y2 ∧ y2 ≤ 2147483647)) (hp1 : 0 ≤ y2) (hp2 : y2 ≤ 2360) :
    am_TE X d am_m5 0 (lv_args 0 [.ref 17, .ref 11, am_iv y2]) [] f a w e (am_QV (fun f1 a1 => am_IV p g h f1 a1)) (am_EC g h) := by
  obtain ⟨d, rfl⟩ : ∃ d0, d = d0 + 1 := ⟨d - 1, by omega⟩
  refine am_raload_n rfl rfl rfl ?_
  have q1 := am_Ig1709 hI
  refine am_rgetf (S1 := [am_iv (f 1709)]) rfl rfl ?_
  refine am_rif_eq rfl rfl (by unfold am_rg; omega) (fun hc2 => ?_) (fun hc2 => ?_)
  · exact am_ethrow rfl rfl rfl rfl ⟨by decide, hI.weak⟩
  · refine am_riload_n rfl rfl rfl ?_
    refine am_raload_n rfl rfl rfl ?_
    refine am_rgetf (S1 := [.ref 26, am_iv y2]) rfl rfl ?_
    have q3 : (a 26).length = 2360 := am_Ll26 (am_IL 26 rfl hI)
    refine am_rlenI (l := a 26) rfl am_ge26 ?_
    refine am_raload_n rfl rfl rfl ?_
    have q4 := am_Ig1710 hI
    refine am_rgetf (S1 := [am_iv (f 1710), am_iv (((a 26).length : Int)), am_iv y2]) rfl rfl ?_
    refine am_risub rfl ?_
    refine am_ric_le rfl rfl (by unfold am_rg; omega) (by unfold am_rg; omega) (fun hc5 => ?_) (fun hc5 => ?_)
    · refine am_raload_n rfl rfl rfl ?_
      refine am_riconst rfl ?_
      refine am_raload_n rfl rfl rfl ?_
      refine am_rgetf (S1 := [.ref 26, am_iv 0, .ref 11]) rfl rfl ?_
      refine am_raload_n rfl rfl rfl ?_
      refine am_rgetf (S1 := [am_iv (f 1710), .ref 26, am_iv 0, .ref 11]) rfl rfl ?_
      refine am_riload_n rfl rfl rfl ?_
      have q6 : (a 11).length = 2360 := am_Ll11 (am_IL 11 rfl hI)
      have hg7 : (0 ≤ y2 ∧ 0 ≤ ((0 : Int)) ∧ 0 ≤ (f 1710)) ∧ ((0 : Int)) + y2 ≤ ((a 11).length : Int) ∧ (f 1710) + y2 ≤ ((a 26).length : Int) := by omega
      have hl8 : am_LN 26 (am_cpyI (a 11) (a 26) ((0 : Int)) (f 1710) y2) := am_LN.cpy (am_IL 26 rfl hI) (am_IL 11 rfl hI) (by decide) hg7.1 hg7.2.1 hg7.2.2
      refine am_racp (h1 := am_enc f (am_ud a 26 (am_cpyI (a 11) (a 26) ((0 : Int)) (f 1710) y2)) w e) rfl (am_acpE rfl am_ge11 am_ge26 rfl rfl hg7.1 hg7.2.1 hg7.2.2 (by omega) (am_sa26 _)) rfl ?_
      refine am_raload_n rfl rfl rfl ?_
      refine am_rgetf (S1 := [.ref 25]) rfl rfl ?_
      refine am_raload_n rfl rfl rfl ?_
      refine am_rgetf (S1 := [am_iv (f 1709), .ref 25]) rfl rfl ?_
      refine am_riconst rfl ?_
      refine am_risub rfl ?_
      refine am_riload_n rfl rfl rfl ?_
      have q9 : (a 25).length = 45 := am_Ll25 (am_IL 25 rfl hI)
      have i10 : am_ib (a 25) ((f 1709) - 1) := by unfold am_ib; omega
      have hl11 : am_LN 25 ((a 25).set ((f 1709) - 1).toNat y2) := am_LS25 (am_IL 25 rfl hI) (by omega) (by omega)
      refine am_riastore (l := a 25) (h1 := am_enc f (am_ud (am_ud a 26 (am_cpyI (a 11) (a 26) ((0 : Int)) (f 1710) y2)) 25 ((a 25).set ((f 1709) - 1).toNat y2)) w e) rfl am_ge25 i10 (am_sa25 _) ?_
      refine am_raload_n rfl rfl rfl ?_
      refine am_rdup rfl rfl ?_
      refine am_rgetf (S1 := [am_iv (f 1710), .ref 17]) rfl rfl ?_
      refine am_riload_n rfl rfl rfl ?_
      refine am_riadd rfl ?_
      refine am_rputf (S1 := []) (h1 := am_enc (am_ud f 1710 ((f 1710) + y2)) (am_ud (am_ud a 26 (am_cpyI (a 11) (a 26) ((0 : Int)) (f 1710) y2)) 25 ((a 25).set ((f 1709) - 1).toNat y2)) w e) rfl (am_pfB rfl am_ge17 rfl (am_sf1710 _)) (by rw [am_enc_len, am_enc_len]) ?_
      have J12 := am_Jf1710 (v := (f 1710) + y2) hI.1 (by omega) (by omega)
      have J13 := am_Ja26 J12 hl8
      have J14 := am_Ja25 J13 hl11
      have J15 : am_IV p g h (am_ud f 1710 ((f 1710) + y2)) (am_ud (am_ud a 26 (am_cpyI (a 11) (a 26) ((0 : Int)) (f 1710) y2)) 25 ((a 25).set ((f 1709) - 1).toNat y2)) := ⟨J14, by
          have h25 := (am_Lb25 (am_IL 25 rfl hI) (x := f 1709 - 1) (by assumption)).1
          exact ⟨hI.2.1, am_R3_val (n := f 1709) (q := f 1710) (v := y2) hI.2.2.1 h25 (by omega) (by omega) (by assumption) rfl, hI.2.2.2.1, hI.2.2.2.2.1, hI.2.2.2.2.2.1, am_R3_valA (n := f 1709) (q := f 1710) (v := y2) hI.2.2.1 hI.2.2.2.2.2.2 h25 (by omega) (by omega) (by assumption)⟩
        ⟩
      exact am_eret rfl rfl J15
    · exact am_ethrow rfl rfl rfl rfl ⟨by decide, hI.weak⟩
set_option maxRecDepth 100000 in
set_option maxHeartbeats 4000000 in
theorem am_ct6 {X : List Value} {w : Value} {e : Nat} {g : aF} {h : aA} {p : Bool} {E : Nat → aF → aA → Prop} {d : Nat} {y1 : Int} {f : aF} {a : aA} (hd : 1 ≤ d) (hI : am_IV p g h f a) (hp0 : (-2147483648 ≤ y1 ∧ y1 ≤ 2147483647)) (hp1 : 0 ≤ y1) (hp2 : y1 < 45) :
    am_TE X d am_m6 0 (lv_args 0 [.ref 17, am_iv y1]) [] f a w e (am_QI (fun b f1 a1 => f = f1 ∧ a = a1 ∧ (b = 0 ∨ b = 1))) E := by
  obtain ⟨d, rfl⟩ : ∃ d0, d = d0 + 1 := ⟨d - 1, by omega⟩
  refine am_raload_n rfl rfl rfl ?_
  refine am_rgetf (S1 := [.ref 21]) rfl rfl ?_
  refine am_riload_n rfl rfl rfl ?_
  have q1 : (a 21).length = 45 := am_Ll21 (am_IL 21 rfl hI)
  have i2 : am_ib (a 21) y1 := by unfold am_ib; omega
  have q3 := am_Lb21 (am_IL 21 rfl hI) i2
  refine am_riaload (l := a 21) rfl am_ge21 i2 ?_
  refine am_riconst rfl ?_
  refine am_ric_eq rfl rfl (by unfold am_rg; omega) (by unfold am_rg; omega) (fun hc4 => ?_) (fun hc4 => ?_)
  · refine am_riconst rfl ?_
    refine am_rgoto rfl rfl ?_
    exact am_ebret rfl rfl (by omega) ⟨rfl, rfl, (show ((1 : Int) = 0 ∨ (1 : Int) = 1) by omega)⟩
  · refine am_raload_n rfl rfl rfl ?_
    refine am_rgetf (S1 := [.ref 21]) rfl rfl ?_
    refine am_riload_n rfl rfl rfl ?_
    have i5 : am_ib (a 21) y1 := by unfold am_ib; omega
    refine am_riaload (l := a 21) rfl am_ge21 i5 ?_
    refine am_riconst rfl ?_
    refine am_ric_ne rfl rfl (by unfold am_rg; omega) (by unfold am_rg; omega) (fun hc6 => ?_) (fun hc6 => ?_)
    · refine am_riconst rfl ?_
      exact am_ebret rfl rfl (by omega) ⟨rfl, rfl, (show ((0 : Int) = 0 ∨ (0 : Int) = 1) by omega)⟩
    · refine am_riconst rfl ?_
      refine am_rgoto rfl rfl ?_
      exact am_ebret rfl rfl (by omega) ⟨rfl, rfl, (show ((1 : Int) = 0 ∨ (1 : Int) = 1) by omega)⟩
set_option maxRecDepth 100000 in
set_option maxHeartbeats 4000000 in
theorem am_ct8 {X : List Value} {w : Value} {e : Nat} {g : aF} {h : aA} {p : Bool} {d : Nat} {f : aF} {a : aA} (hd : 1 ≤ d) (hI : am_IV p g h f a) :
    am_TE X d am_m8 0 (lv_args 0 [.ref 106]) [] f a w e (am_QV (fun f1 a1 => am_IV p g h f1 a1)) (am_EC g h) := by
  obtain ⟨d, rfl⟩ : ∃ d0, d = d0 + 1 := ⟨d - 1, by omega⟩
  refine am_raload_n rfl rfl rfl ?_
  refine am_riconst rfl ?_
  refine am_rputf (S1 := []) (h1 := am_enc (am_ud f 10606 0) a w e) rfl (am_pfB rfl am_ge106 rfl (am_sf10606 _)) (by rw [am_enc_len, am_enc_len]) ?_
  refine am_raload_n rfl rfl rfl ?_
  refine am_riconst rfl ?_
  refine am_rputf (S1 := []) (h1 := am_enc (am_ud (am_ud f 10606 0) 10607 0) a w e) rfl (am_pfB rfl am_ge106 rfl (am_sf10607 _)) (by rw [am_enc_len, am_enc_len]) ?_
  have J1 := am_Jf10606 (v := 0) hI.1 (by omega) (by omega)
  have J2 := am_Jf10607 (v := 0) J1 (by omega) (by omega)
  have J3 : am_IV p g h (am_ud (am_ud f 10606 0) 10607 0) a := ⟨J2, by
      exact ⟨hI.2.1, hI.2.2.1, am_R3_0 _ _ _, am_R5_0 _ _, hI.2.2.2.2.2⟩
    ⟩
  exact am_eret rfl rfl J3
set_option maxRecDepth 100000 in
set_option maxHeartbeats 4000000 in
theorem am_ct9 {X : List Value} {w : Value} {e : Nat} {g : aF} {h : aA} {p : Bool} {d : Nat} {y1 : Int} {y2 : Int} {f : aF} {a : aA} (hd : 1 ≤ d) (hI : am_IV p g h f a) (hp0 : (-2147483648 ≤ y1 ∧ y1 ≤ 2147483647)) (hp1 : (-2147483648 ≤ y2 ∧ y2 ≤ 2147483647)) (hp2 : 0 ≤ y2) (hp3 : y2 ≤ 122) (hp4 : (y1 = 1 → 97 ≤ y2)) :
    am_TE X d am_m9 0 (lv_args 0 [.ref 106, am_iv y1, am_iv y2]) [] f a w e (am_QV (fun f1 a1 => am_IV p g h f1 a1 ∧ f1 10606 = (f 10606) + 1 ∧ f1 10607 = (f 10607))) (am_EC g h) := by
  obtain ⟨d, rfl⟩ : ∃ d0, d = d0 + 1 := ⟨d - 1, by omega⟩
  refine am_raload_n rfl rfl rfl ?_
  have q1 := am_Ig10606 hI
  refine am_rgetf (S1 := [am_iv (f 10606)]) rfl rfl ?_
  refine am_rsipush rfl (by decide) ?_
  refine am_ric_lt rfl rfl (by unfold am_rg; omega) (by unfold am_rg; omega) (fun hc2 => ?_) (fun hc2 => ?_)
  · refine am_raload_n rfl rfl rfl ?_
    refine am_rgetf (S1 := [.ref 107]) rfl rfl ?_
    refine am_raload_n rfl rfl rfl ?_
    refine am_rgetf (S1 := [am_iv (f 10606), .ref 107]) rfl rfl ?_
    refine am_riload_n rfl rfl rfl ?_
    have q3 : (a 107).length = 200 := am_Ll107 (am_IL 107 rfl hI)
    have i4 : am_ib (a 107) (f 10606) := by unfold am_ib; omega
    have hl5 : am_LN 107 ((a 107).set (f 10606).toNat y1) := am_LS107 (am_IL 107 rfl hI) (by omega) (by omega)
    refine am_riastore (l := a 107) (h1 := am_enc f (am_ud a 107 ((a 107).set (f 10606).toNat y1)) w e) rfl am_ge107 i4 (am_sa107 _) ?_
    refine am_raload_n rfl rfl rfl ?_
    refine am_rgetf (S1 := [.ref 108]) rfl rfl ?_
    refine am_raload_n rfl rfl rfl ?_
    refine am_rgetf (S1 := [am_iv (f 10606), .ref 108]) rfl rfl ?_
    refine am_riload_n rfl rfl rfl ?_
    have q6 : (a 108).length = 200 := am_Ll108 (am_IL 108 rfl hI)
    have i7 : am_ib (a 108) (f 10606) := by unfold am_ib; omega
    have hl8 : am_LN 108 ((a 108).set (f 10606).toNat y2) := am_LS108 (am_IL 108 rfl hI) (by omega) (by omega)
    refine am_riastore (l := a 108) (h1 := am_enc f (am_ud (am_ud a 107 ((a 107).set (f 10606).toNat y1)) 108 ((a 108).set (f 10606).toNat y2)) w e) rfl am_ge108 i7 (am_sa108 _) ?_
    refine am_raload_n rfl rfl rfl ?_
    refine am_rgetf (S1 := [.ref 109]) rfl rfl ?_
    refine am_raload_n rfl rfl rfl ?_
    refine am_rgetf (S1 := [am_iv (f 10606), .ref 109]) rfl rfl ?_
    refine am_raload_n rfl rfl rfl ?_
    have q9 := am_Ig10607 hI
    refine am_rgetf (S1 := [am_iv (f 10607), am_iv (f 10606), .ref 109]) rfl rfl ?_
    have q10 : (a 109).length = 200 := am_Ll109 (am_IL 109 rfl hI)
    have i11 : am_ib (a 109) (f 10606) := by unfold am_ib; omega
    have hl12 : am_LN 109 ((a 109).set (f 10606).toNat (f 10607)) := am_LS109 (am_IL 109 rfl hI) (by omega) (by omega)
    refine am_riastore (l := a 109) (h1 := am_enc f (am_ud (am_ud (am_ud a 107 ((a 107).set (f 10606).toNat y1)) 108 ((a 108).set (f 10606).toNat y2)) 109 ((a 109).set (f 10606).toNat (f 10607))) w e) rfl am_ge109 i11 (am_sa109 _) ?_
    refine am_raload_n rfl rfl rfl ?_
    refine am_rgetf (S1 := [.ref 110]) rfl rfl ?_
    refine am_raload_n rfl rfl rfl ?_
    refine am_rgetf (S1 := [am_iv (f 10606), .ref 110]) rfl rfl ?_
    refine am_riconst rfl ?_
    have q13 : (a 110).length = 200 := am_Ll110 (am_IL 110 rfl hI)
    have i14 : am_ib (a 110) (f 10606) := by unfold am_ib; omega
    have hl15 : am_LN 110 ((a 110).set (f 10606).toNat 0) := am_LS110 (am_IL 110 rfl hI) (by omega) (by omega)
    refine am_riastore (l := a 110) (h1 := am_enc f (am_ud (am_ud (am_ud (am_ud a 107 ((a 107).set (f 10606).toNat y1)) 108 ((a 108).set (f 10606).toNat y2)) 109 ((a 109).set (f 10606).toNat (f 10607))) 110 ((a 110).set (f 10606).toNat 0)) w e) rfl am_ge110 i14 (am_sa110 _) ?_
    refine am_raload_n rfl rfl rfl ?_
    refine am_rgetf (S1 := [.ref 111]) rfl rfl ?_
    refine am_raload_n rfl rfl rfl ?_
    refine am_rgetf (S1 := [am_iv (f 10606), .ref 111]) rfl rfl ?_
    refine am_riconst rfl ?_
    have q16 : (a 111).length = 200 := am_Ll111 (am_IL 111 rfl hI)
    have i17 : am_ib (a 111) (f 10606) := by unfold am_ib; omega
    have hl18 : am_LN 111 ((a 111).set (f 10606).toNat ((-1))) := am_LS111 (am_IL 111 rfl hI) (by omega) (by omega)
    refine am_riastore (l := a 111) (h1 := am_enc f (am_ud (am_ud (am_ud (am_ud (am_ud a 107 ((a 107).set (f 10606).toNat y1)) 108 ((a 108).set (f 10606).toNat y2)) 109 ((a 109).set (f 10606).toNat (f 10607))) 110 ((a 110).set (f 10606).toNat 0)) 111 ((a 111).set (f 10606).toNat ((-1)))) w e) rfl am_ge111 i17 (am_sa111 _) ?_
    refine am_raload_n rfl rfl rfl ?_
    refine am_rdup rfl rfl ?_
    refine am_rgetf (S1 := [am_iv (f 10606), .ref 106]) rfl rfl ?_
    refine am_riconst rfl ?_
    refine am_riadd rfl ?_
    refine am_rputf (S1 := []) (h1 := am_enc (am_ud f 10606 ((f 10606) + 1)) (am_ud (am_ud (am_ud (am_ud (am_ud a 107 ((a 107).set (f 10606).toNat y1)) 108 ((a 108).set (f 10606).toNat y2)) 109 ((a 109).set (f 10606).toNat (f 10607))) 110 ((a 110).set (f 10606).toNat 0)) 111 ((a 111).set (f 10606).toNat ((-1)))) w e) rfl (am_pfB rfl am_ge106 rfl (am_sf10606 _)) (by rw [am_enc_len, am_enc_len]) ?_
    have J19 := am_Jf10606 (v := (f 10606) + 1) hI.1 (by omega) (by omega)
    have J20 := am_Ja107 J19 hl5
    have J21 := am_Ja108 J20 hl8
    have J22 := am_Ja109 J21 hl12
    have J23 := am_Ja110 J22 hl15
    have J24 := am_Ja111 J23 hl18
    have J25 : am_IV p g h (am_ud f 10606 ((f 10606) + 1)) (am_ud (am_ud (am_ud (am_ud (am_ud a 107 ((a 107).set (f 10606).toNat y1)) 108 ((a 108).set (f 10606).toNat y2)) 109 ((a 109).set (f 10606).toNat (f 10607))) 110 ((a 110).set (f 10606).toNat 0)) 111 ((a 111).set (f 10606).toNat ((-1)))) := ⟨J24, by
        exact ⟨hI.2.1, hI.2.2.1, am_R3_push hI.2.2.2.1 (by omega) (by assumption) (by assumption), am_R5_push hI.2.2.2.2.1 (by omega) (by assumption) (by assumption) (by omega), hI.2.2.2.2.2⟩
      ⟩
    exact am_eret rfl rfl ⟨J25, (show (f 10606) + 1 = (f 10606) + 1 by omega), (show f 10607 = (f 10607) by omega)⟩
  · exact am_ethrow rfl rfl rfl rfl ⟨by decide, hI.weak⟩
set_option maxRecDepth 100000 in
set_option maxHeartbeats 4000000 in
theorem am_ct10v {X : List Value} {w : Value} {e : Nat} {g : aF} {h : aA} {p : Bool} {d : Nat} {y1 : Int} {y2 : Int} {y4 : Int} {y5 : Int} {f : aF} {a : aA} (hd : 2 ≤ d) (hI : am_IV p g h f a) (hp0 : (-2147483648 ≤ y1 ∧ y1 ≤ 2147483647)) (hp1 : (-2147483648 ≤ y2 ∧ y2 ≤ 2147483647)) (hp2 : (-2147483648 ≤ y4 ∧ y4 ≤ 2147483647)) (hp3 : (-2147483648 ≤ y5 ∧ y5 ≤ 2147483647)) (hp4 : 0 ≤ y1) (hp5 : y1 ≤ 122) (hp6 : -1 ≤ y2) (hp7 : y2 ≤ 44) (hp8 : 0 ≤ y4) (hp9 : 0 ≤ y5) (hp10 : y4 + y5 ≤ 2360) :
    am_TE X d am_m10 0 (lv_args 0 [.ref 106, am_iv y1, am_iv y2, .ref 11, am_iv y4, am_iv y5]) [] f a w e (am_QV (fun f1 a1 => am_IV p g h f1 a1)) (am_EC g h) := by
  obtain ⟨d, rfl⟩ : ∃ d0, d = d0 + 1 := ⟨d - 1, by omega⟩
  refine am_raload_n rfl rfl rfl ?_
  refine am_riconst rfl ?_
  refine am_riload_n rfl rfl rfl ?_
  have q1 := am_Ig10606 hI
  have q2 := am_Ig10607 hI
  refine am_evirtualV (m := am_m9) (As := [.ref 106, am_iv 2, am_iv y1]) (S1 := []) rfl rfl rfl rfl rfl rfl rfl rfl rfl rfl (am_TE.void (am_ct9 (y1 := 2) (y2 := y1) (by omega) hI (by omega) (by omega) (by omega) (by omega) (by omega)) (fun f3 a3 hq4 => ?_) (fun _ _ _ h => h))
  obtain ⟨hI5, hq4⟩ := hq4
  refine am_riload rfl rfl rfl ?_
  refine am_rsipush rfl (by decide) ?_
  refine am_raload_n rfl rfl rfl ?_
  have q6 := am_Ig10607 hI5
  refine am_rgetf (S1 := [am_iv (f3 10607), am_iv 2000, am_iv y5]) rfl rfl ?_
  refine am_risub rfl ?_
  refine am_ric_le rfl rfl (by unfold am_rg; omega) (by unfold am_rg; omega) (fun hc7 => ?_) (fun hc7 => ?_)
  · refine am_raload_n rfl rfl rfl ?_
    refine am_riload rfl rfl rfl ?_
    refine am_raload_n rfl rfl rfl ?_
    refine am_rgetf (S1 := [.ref 112, am_iv y4, .ref 11]) rfl rfl ?_
    refine am_raload_n rfl rfl rfl ?_
    refine am_rgetf (S1 := [am_iv (f3 10607), .ref 112, am_iv y4, .ref 11]) rfl rfl ?_
    refine am_riload rfl rfl rfl ?_
    have q8 : (a3 11).length = 2360 := am_Ll11 (am_IL 11 rfl hI5)
    have q9 : (a3 112).length = 2000 := am_Ll112 (am_IL 112 rfl hI5)
    have hg10 : (0 ≤ y5 ∧ 0 ≤ y4 ∧ 0 ≤ (f3 10607)) ∧ y4 + y5 ≤ ((a3 11).length : Int) ∧ (f3 10607) + y5 ≤ ((a3 112).length : Int) := by omega
    have hl11 : am_LN 112 (am_cpyI (a3 11) (a3 112) y4 (f3 10607) y5) := am_LN.cpy (am_IL 112 rfl hI5) (am_IL 11 rfl hI5) (by decide) hg10.1 hg10.2.1 hg10.2.2
    refine am_racp (h1 := am_enc f3 (am_ud a3 112 (am_cpyI (a3 11) (a3 112) y4 (f3 10607) y5)) w e) rfl (am_acpE rfl am_ge11 am_ge112 rfl rfl hg10.1 hg10.2.1 hg10.2.2 (by omega) (am_sa112 _)) rfl ?_
    refine am_raload_n rfl rfl rfl ?_
    refine am_rdup rfl rfl ?_
    refine am_rgetf (S1 := [am_iv (f3 10607), .ref 106]) rfl rfl ?_
    refine am_riload rfl rfl rfl ?_
    refine am_riadd rfl ?_
    refine am_rputf (S1 := []) (h1 := am_enc (am_ud f3 10607 ((f3 10607) + y5)) (am_ud a3 112 (am_cpyI (a3 11) (a3 112) y4 (f3 10607) y5)) w e) rfl (am_pfB rfl am_ge106 rfl (am_sf10607 _)) (by rw [am_enc_len, am_enc_len]) ?_
    refine am_raload_n rfl rfl rfl ?_
    refine am_rgetf (S1 := [.ref 110]) rfl rfl ?_
    refine am_raload_n rfl rfl rfl ?_
    have q12 := am_Ig10606 hI5
    refine am_rgetf (S1 := [am_iv (f3 10606), .ref 110]) rfl rfl ?_
    refine am_riconst rfl ?_
    refine am_risub rfl ?_
    refine am_riload rfl rfl rfl ?_
    have q13 : (a3 110).length = 200 := am_Ll110 (am_IL 110 rfl hI5)
    have i14 : am_ib (a3 110) ((f3 10606) - 1) := by unfold am_ib; omega
    have hl15 : am_LN 110 ((a3 110).set ((f3 10606) - 1).toNat y5) := am_LS110 (am_IL 110 rfl hI5) (by omega) (by omega)
    refine am_riastore (l := a3 110) (h1 := am_enc (am_ud f3 10607 ((f3 10607) + y5)) (am_ud (am_ud a3 112 (am_cpyI (a3 11) (a3 112) y4 (f3 10607) y5)) 110 ((a3 110).set ((f3 10606) - 1).toNat y5)) w e) rfl am_ge110 i14 (am_sa110 _) ?_
    refine am_raload_n rfl rfl rfl ?_
    refine am_rgetf (S1 := [.ref 111]) rfl rfl ?_
    refine am_raload_n rfl rfl rfl ?_
    refine am_rgetf (S1 := [am_iv (f3 10606), .ref 111]) rfl rfl ?_
    refine am_riconst rfl ?_
    refine am_risub rfl ?_
    refine am_riload_n rfl rfl rfl ?_
    have q16 : (a3 111).length = 200 := am_Ll111 (am_IL 111 rfl hI5)
    have i17 : am_ib (a3 111) ((f3 10606) - 1) := by unfold am_ib; omega
    have hl18 : am_LN 111 ((a3 111).set ((f3 10606) - 1).toNat y2) := am_LS111 (am_IL 111 rfl hI5) (by omega) (by omega)
    refine am_riastore (l := a3 111) (h1 := am_enc (am_ud f3 10607 ((f3 10607) + y5)) (am_ud (am_ud (am_ud a3 112 (am_cpyI (a3 11) (a3 112) y4 (f3 10607) y5)) 110 ((a3 110).set ((f3 10606) - 1).toNat y5)) 111 ((a3 111).set ((f3 10606) - 1).toNat y2)) w e) rfl am_ge111 i17 (am_sa111 _) ?_
    have J19 := am_Jf10607 (v := (f3 10607) + y5) hI5.1 (by omega) (by omega)
    have J20 := am_Ja112 J19 hl11
    have J21 := am_Ja110 J20 hl15
    have J22 := am_Ja111 J21 hl18
    have J23 : am_IV p g h (am_ud f3 10607 ((f3 10607) + y5)) (am_ud (am_ud (am_ud a3 112 (am_cpyI (a3 11) (a3 112) y4 (f3 10607) y5)) 110 ((a3 110).set ((f3 10606) - 1).toNat y5)) 111 ((a3 111).set ((f3 10606) - 1).toNat y2)) := ⟨J22, by
        have h110 := (am_Lb110 (am_IL 110 rfl hI5) (x := f3 10606 - 1) (by assumption)).1
        exact ⟨hI5.2.1, hI5.2.2.1, am_R3_val (n := f3 10606) (q := f3 10607) (v := y5) hI5.2.2.2.1 h110 (by omega) (by omega) (by assumption) rfl, hI5.2.2.2.2⟩
      ⟩
    exact am_eret rfl rfl J23
  · exact am_ethrow rfl rfl rfl rfl ⟨by decide, hI5.weak⟩
set_option maxRecDepth 100000 in
set_option maxHeartbeats 4000000 in
theorem am_ct10t {X : List Value} {w : Value} {e : Nat} {g : aF} {h : aA} {p : Bool} {d : Nat} {y1 : Int} {y2 : Int} {y4 : Int} {y5 : Int} {f : aF} {a : aA} (hd : 2 ≤ d) (hI : am_IV p g h f a) (hp0 : (-2147483648 ≤ y1 ∧ y1 ≤ 2147483647)) (hp1 : (-2147483648 ≤ y2 ∧ y2 ≤ 2147483647)) (hp2 : (-2147483648 ≤ y4 ∧ y4 ≤ 2147483647)) (hp3 : (-2147483648 ≤ y5 ∧ y5 ≤ 2147483647)) (hp4 : 0 ≤ y1) (hp5 : y1 ≤ 122) (hp6 : -1 ≤ y2) (hp7 : y2 ≤ 44) (hp8 : 0 ≤ y4) (hp9 : 0 ≤ y5) (hp10 : y4 + y5 ≤ 2360) :
    am_TE X d am_m10 0 (lv_args 0 [.ref 106, am_iv y1, am_iv y2, .ref 26, am_iv y4, am_iv y5]) [] f a w e (am_QV (fun f1 a1 => am_IV p g h f1 a1)) (am_EC g h) := by
  obtain ⟨d, rfl⟩ : ∃ d0, d = d0 + 1 := ⟨d - 1, by omega⟩
  refine am_raload_n rfl rfl rfl ?_
  refine am_riconst rfl ?_
  refine am_riload_n rfl rfl rfl ?_
  have q1 := am_Ig10606 hI
  have q2 := am_Ig10607 hI
  refine am_evirtualV (m := am_m9) (As := [.ref 106, am_iv 2, am_iv y1]) (S1 := []) rfl rfl rfl rfl rfl rfl rfl rfl rfl rfl (am_TE.void (am_ct9 (y1 := 2) (y2 := y1) (by omega) hI (by omega) (by omega) (by omega) (by omega) (by omega)) (fun f3 a3 hq4 => ?_) (fun _ _ _ h => h))
  obtain ⟨hI5, hq4⟩ := hq4
  refine am_riload rfl rfl rfl ?_
  refine am_rsipush rfl (by decide) ?_
  refine am_raload_n rfl rfl rfl ?_
  have q6 := am_Ig10607 hI5
  refine am_rgetf (S1 := [am_iv (f3 10607), am_iv 2000, am_iv y5]) rfl rfl ?_
  refine am_risub rfl ?_
  refine am_ric_le rfl rfl (by unfold am_rg; omega) (by unfold am_rg; omega) (fun hc7 => ?_) (fun hc7 => ?_)
  · refine am_raload_n rfl rfl rfl ?_
    refine am_riload rfl rfl rfl ?_
    refine am_raload_n rfl rfl rfl ?_
    refine am_rgetf (S1 := [.ref 112, am_iv y4, .ref 26]) rfl rfl ?_
    refine am_raload_n rfl rfl rfl ?_
    refine am_rgetf (S1 := [am_iv (f3 10607), .ref 112, am_iv y4, .ref 26]) rfl rfl ?_
    refine am_riload rfl rfl rfl ?_
    have q8 : (a3 26).length = 2360 := am_Ll26 (am_IL 26 rfl hI5)
    have q9 : (a3 112).length = 2000 := am_Ll112 (am_IL 112 rfl hI5)
    have hg10 : (0 ≤ y5 ∧ 0 ≤ y4 ∧ 0 ≤ (f3 10607)) ∧ y4 + y5 ≤ ((a3 26).length : Int) ∧ (f3 10607) + y5 ≤ ((a3 112).length : Int) := by omega
    have hl11 : am_LN 112 (am_cpyI (a3 26) (a3 112) y4 (f3 10607) y5) := am_LN.cpy (am_IL 112 rfl hI5) (am_IL 26 rfl hI5) (by decide) hg10.1 hg10.2.1 hg10.2.2
    refine am_racp (h1 := am_enc f3 (am_ud a3 112 (am_cpyI (a3 26) (a3 112) y4 (f3 10607) y5)) w e) rfl (am_acpE rfl am_ge26 am_ge112 rfl rfl hg10.1 hg10.2.1 hg10.2.2 (by omega) (am_sa112 _)) rfl ?_
    refine am_raload_n rfl rfl rfl ?_
    refine am_rdup rfl rfl ?_
    refine am_rgetf (S1 := [am_iv (f3 10607), .ref 106]) rfl rfl ?_
    refine am_riload rfl rfl rfl ?_
    refine am_riadd rfl ?_
    refine am_rputf (S1 := []) (h1 := am_enc (am_ud f3 10607 ((f3 10607) + y5)) (am_ud a3 112 (am_cpyI (a3 26) (a3 112) y4 (f3 10607) y5)) w e) rfl (am_pfB rfl am_ge106 rfl (am_sf10607 _)) (by rw [am_enc_len, am_enc_len]) ?_
    refine am_raload_n rfl rfl rfl ?_
    refine am_rgetf (S1 := [.ref 110]) rfl rfl ?_
    refine am_raload_n rfl rfl rfl ?_
    have q12 := am_Ig10606 hI5
    refine am_rgetf (S1 := [am_iv (f3 10606), .ref 110]) rfl rfl ?_
    refine am_riconst rfl ?_
    refine am_risub rfl ?_
    refine am_riload rfl rfl rfl ?_
    have q13 : (a3 110).length = 200 := am_Ll110 (am_IL 110 rfl hI5)
    have i14 : am_ib (a3 110) ((f3 10606) - 1) := by unfold am_ib; omega
    have hl15 : am_LN 110 ((a3 110).set ((f3 10606) - 1).toNat y5) := am_LS110 (am_IL 110 rfl hI5) (by omega) (by omega)
    refine am_riastore (l := a3 110) (h1 := am_enc (am_ud f3 10607 ((f3 10607) + y5)) (am_ud (am_ud a3 112 (am_cpyI (a3 26) (a3 112) y4 (f3 10607) y5)) 110 ((a3 110).set ((f3 10606) - 1).toNat y5)) w e) rfl am_ge110 i14 (am_sa110 _) ?_
    refine am_raload_n rfl rfl rfl ?_
    refine am_rgetf (S1 := [.ref 111]) rfl rfl ?_
    refine am_raload_n rfl rfl rfl ?_
    refine am_rgetf (S1 := [am_iv (f3 10606), .ref 111]) rfl rfl ?_
    refine am_riconst rfl ?_
    refine am_risub rfl ?_
    refine am_riload_n rfl rfl rfl ?_
    have q16 : (a3 111).length = 200 := am_Ll111 (am_IL 111 rfl hI5)
    have i17 : am_ib (a3 111) ((f3 10606) - 1) := by unfold am_ib; omega
    have hl18 : am_LN 111 ((a3 111).set ((f3 10606) - 1).toNat y2) := am_LS111 (am_IL 111 rfl hI5) (by omega) (by omega)
    refine am_riastore (l := a3 111) (h1 := am_enc (am_ud f3 10607 ((f3 10607) + y5)) (am_ud (am_ud (am_ud a3 112 (am_cpyI (a3 26) (a3 112) y4 (f3 10607) y5)) 110 ((a3 110).set ((f3 10606) - 1).toNat y5)) 111 ((a3 111).set ((f3 10606) - 1).toNat y2)) w e) rfl am_ge111 i17 (am_sa111 _) ?_
    have J19 := am_Jf10607 (v := (f3 10607) + y5) hI5.1 (by omega) (by omega)
    have J20 := am_Ja112 J19 hl11
    have J21 := am_Ja110 J20 hl15
    have J22 := am_Ja111 J21 hl18
    have J23 : am_IV p g h (am_ud f3 10607 ((f3 10607) + y5)) (am_ud (am_ud (am_ud a3 112 (am_cpyI (a3 26) (a3 112) y4 (f3 10607) y5)) 110 ((a3 110).set ((f3 10606) - 1).toNat y5)) 111 ((a3 111).set ((f3 10606) - 1).toNat y2)) := ⟨J22, by
        have h110 := (am_Lb110 (am_IL 110 rfl hI5) (x := f3 10606 - 1) (by assumption)).1
        exact ⟨hI5.2.1, hI5.2.2.1, am_R3_val (n := f3 10606) (q := f3 10607) (v := y5) hI5.2.2.2.1 h110 (by omega) (by omega) (by assumption) rfl, hI5.2.2.2.2⟩
      ⟩
    exact am_eret rfl rfl J23
  · exact am_ethrow rfl rfl rfl rfl ⟨by decide, hI5.weak⟩
set_option maxRecDepth 100000 in
set_option maxHeartbeats 4000000 in
theorem am_ct11 {X : List Value} {w : Value} {e : Nat} {g : aF} {h : aA} {p : Bool} {d : Nat} {y1 : Int} {f : aF} {a : aA} (hd : 2 ≤ d) (hI : am_IV p g h f a) (hp0 : (-2147483648 ≤ y1 ∧ y1 ≤ 2147483647)) :
    am_TE X d am_m11 0 (lv_args 0 [.ref 106, am_iv y1]) [] f a w e (am_QV (fun f1 a1 => am_IV p g h f1 a1)) (am_EC g h) := by
  obtain ⟨d, rfl⟩ : ∃ d0, d = d0 + 1 := ⟨d - 1, by omega⟩
  refine am_raload_n rfl rfl rfl ?_
  have q1 := am_Ig10606 hI
  refine am_rgetf (S1 := [am_iv (f 10606)]) rfl rfl ?_
  refine am_rif_eq rfl rfl (by unfold am_rg; omega) (fun hc2 => ?_) (fun hc2 => ?_)
  · refine am_raload_n rfl rfl rfl ?_
    refine am_riconst rfl ?_
    refine am_riconst rfl ?_
    have q3 := am_Ig10607 hI
    refine am_evirtualV (m := am_m9) (As := [.ref 106, am_iv 3, am_iv 0]) (S1 := []) rfl rfl rfl rfl rfl rfl rfl rfl rfl rfl (am_TE.void (am_ct9 (y1 := 3) (y2 := 0) (by omega) hI (by omega) (by omega) (by omega) (by omega) (by omega)) (fun f4 a4 hq5 => ?_) (fun _ _ _ h => h))
    obtain ⟨hI6, hq5⟩ := hq5
    refine am_raload_n rfl rfl rfl ?_
    have q7 := am_Ig10607 hI6
    refine am_rgetf (S1 := [am_iv (f4 10607)]) rfl rfl ?_
    refine am_rsipush rfl (by decide) ?_
    refine am_ric_lt rfl rfl (by unfold am_rg; omega) (by unfold am_rg; omega) (fun hc8 => ?_) (fun hc8 => ?_)
    · refine am_raload_n rfl rfl rfl ?_
      refine am_rgetf (S1 := [.ref 112]) rfl rfl ?_
      refine am_raload_n rfl rfl rfl ?_
      refine am_rgetf (S1 := [am_iv (f4 10607), .ref 112]) rfl rfl ?_
      refine am_riload_n rfl rfl rfl ?_
      have q9 : (a4 112).length = 2000 := am_Ll112 (am_IL 112 rfl hI6)
      have i10 : am_ib (a4 112) (f4 10607) := by unfold am_ib; omega
      have hl11 : am_LN 112 ((a4 112).set (f4 10607).toNat y1) := am_LS112 (am_IL 112 rfl hI6) (by omega) (by omega)
      refine am_riastore (l := a4 112) (h1 := am_enc f4 (am_ud a4 112 ((a4 112).set (f4 10607).toNat y1)) w e) rfl am_ge112 i10 (am_sa112 _) ?_
      refine am_raload_n rfl rfl rfl ?_
      refine am_rdup rfl rfl ?_
      refine am_rgetf (S1 := [am_iv (f4 10607), .ref 106]) rfl rfl ?_
      refine am_riconst rfl ?_
      refine am_riadd rfl ?_
      refine am_rputf (S1 := []) (h1 := am_enc (am_ud f4 10607 ((f4 10607) + 1)) (am_ud a4 112 ((a4 112).set (f4 10607).toNat y1)) w e) rfl (am_pfB rfl am_ge106 rfl (am_sf10607 _)) (by rw [am_enc_len, am_enc_len]) ?_
      refine am_raload_n rfl rfl rfl ?_
      refine am_rgetf (S1 := [.ref 110]) rfl rfl ?_
      refine am_raload_n rfl rfl rfl ?_
      have q12 := am_Ig10606 hI6
      refine am_rgetf (S1 := [am_iv (f4 10606), .ref 110]) rfl rfl ?_
      refine am_riconst rfl ?_
      refine am_risub rfl ?_
      refine am_rdup2 rfl rfl rfl ?_
      have q13 : (a4 110).length = 200 := am_Ll110 (am_IL 110 rfl hI6)
      have i14 : am_ib (a4 110) ((f4 10606) - 1) := by unfold am_ib; omega
      have q15 := am_Lb110 (am_IL 110 rfl hI6) i14
      have r1 := hI6.2.2.2.1 ((f4 10606) - 1) (by omega) (by omega)
      have r2 := (am_Lb109 (am_IL 109 rfl hI6) (x := ((f4 10606) - 1)) (by have := am_Ll109 (am_IL 109 rfl hI6); unfold am_ib; omega)).1
      refine am_riaload (l := a4 110) rfl am_ge110 i14 ?_
      refine am_riconst rfl ?_
      refine am_riadd rfl ?_
      have i16 : am_ib (a4 110) ((f4 10606) - 1) := by unfold am_ib; omega
      have hl17 : am_LN 110 ((a4 110).set ((f4 10606) - 1).toNat ((am_at (a4 110) ((f4 10606) - 1)) + 1)) := am_LS110 (am_IL 110 rfl hI6) (by omega) (by omega)
      refine am_riastore (l := a4 110) (h1 := am_enc (am_ud f4 10607 ((f4 10607) + 1)) (am_ud (am_ud a4 112 ((a4 112).set (f4 10607).toNat y1)) 110 ((a4 110).set ((f4 10606) - 1).toNat ((am_at (a4 110) ((f4 10606) - 1)) + 1))) w e) rfl am_ge110 i16 (am_sa110 _) ?_
      have J18 := am_Jf10607 (v := (f4 10607) + 1) hI6.1 (by omega) (by omega)
      have J19 := am_Ja112 J18 hl11
      have J20 := am_Ja110 J19 hl17
      have J21 : am_IV p g h (am_ud f4 10607 ((f4 10607) + 1)) (am_ud (am_ud a4 112 ((a4 112).set (f4 10607).toNat y1)) 110 ((a4 110).set ((f4 10606) - 1).toNat ((am_at (a4 110) ((f4 10606) - 1)) + 1))) := ⟨J20, by
          exact ⟨hI6.2.1, hI6.2.2.1, am_R3_inc hI6.2.2.2.1 (by assumption), hI6.2.2.2.2⟩
        ⟩
      exact am_eret rfl rfl J21
    · exact am_ethrow rfl rfl rfl rfl ⟨by decide, hI6.weak⟩
  · refine am_raload_n rfl rfl rfl ?_
    refine am_rgetf (S1 := [.ref 107]) rfl rfl ?_
    refine am_raload_n rfl rfl rfl ?_
    refine am_rgetf (S1 := [am_iv (f 10606), .ref 107]) rfl rfl ?_
    refine am_riconst rfl ?_
    refine am_risub rfl ?_
    have q22 : (a 107).length = 200 := am_Ll107 (am_IL 107 rfl hI)
    have i23 : am_ib (a 107) ((f 10606) - 1) := by unfold am_ib; omega
    have q24 := am_Lb107 (am_IL 107 rfl hI) i23
    refine am_riaload (l := a 107) rfl am_ge107 i23 ?_
    refine am_riconst rfl ?_
    refine am_ric_eq rfl rfl (by unfold am_rg; omega) (by unfold am_rg; omega) (fun hc25 => ?_) (fun hc25 => ?_)
    · refine am_raload_n rfl rfl rfl ?_
      have q26 := am_Ig10607 hI
      refine am_rgetf (S1 := [am_iv (f 10607)]) rfl rfl ?_
      refine am_rsipush rfl (by decide) ?_
      refine am_ric_lt rfl rfl (by unfold am_rg; omega) (by unfold am_rg; omega) (fun hc27 => ?_) (fun hc27 => ?_)
      · refine am_raload_n rfl rfl rfl ?_
        refine am_rgetf (S1 := [.ref 112]) rfl rfl ?_
        refine am_raload_n rfl rfl rfl ?_
        refine am_rgetf (S1 := [am_iv (f 10607), .ref 112]) rfl rfl ?_
        refine am_riload_n rfl rfl rfl ?_
        have q28 : (a 112).length = 2000 := am_Ll112 (am_IL 112 rfl hI)
        have i29 : am_ib (a 112) (f 10607) := by unfold am_ib; omega
        have hl30 : am_LN 112 ((a 112).set (f 10607).toNat y1) := am_LS112 (am_IL 112 rfl hI) (by omega) (by omega)
        refine am_riastore (l := a 112) (h1 := am_enc f (am_ud a 112 ((a 112).set (f 10607).toNat y1)) w e) rfl am_ge112 i29 (am_sa112 _) ?_
        refine am_raload_n rfl rfl rfl ?_
        refine am_rdup rfl rfl ?_
        refine am_rgetf (S1 := [am_iv (f 10607), .ref 106]) rfl rfl ?_
        refine am_riconst rfl ?_
        refine am_riadd rfl ?_
        refine am_rputf (S1 := []) (h1 := am_enc (am_ud f 10607 ((f 10607) + 1)) (am_ud a 112 ((a 112).set (f 10607).toNat y1)) w e) rfl (am_pfB rfl am_ge106 rfl (am_sf10607 _)) (by rw [am_enc_len, am_enc_len]) ?_
        refine am_raload_n rfl rfl rfl ?_
        refine am_rgetf (S1 := [.ref 110]) rfl rfl ?_
        refine am_raload_n rfl rfl rfl ?_
        refine am_rgetf (S1 := [am_iv (f 10606), .ref 110]) rfl rfl ?_
        refine am_riconst rfl ?_
        refine am_risub rfl ?_
        refine am_rdup2 rfl rfl rfl ?_
        have q31 : (a 110).length = 200 := am_Ll110 (am_IL 110 rfl hI)
        have i32 : am_ib (a 110) ((f 10606) - 1) := by unfold am_ib; omega
        have q33 := am_Lb110 (am_IL 110 rfl hI) i32
        have r1 := hI.2.2.2.1 ((f 10606) - 1) (by omega) (by omega)
        have r2 := (am_Lb109 (am_IL 109 rfl hI) (x := ((f 10606) - 1)) (by have := am_Ll109 (am_IL 109 rfl hI); unfold am_ib; omega)).1
        refine am_riaload (l := a 110) rfl am_ge110 i32 ?_
        refine am_riconst rfl ?_
        refine am_riadd rfl ?_
        have i34 : am_ib (a 110) ((f 10606) - 1) := by unfold am_ib; omega
        have hl35 : am_LN 110 ((a 110).set ((f 10606) - 1).toNat ((am_at (a 110) ((f 10606) - 1)) + 1)) := am_LS110 (am_IL 110 rfl hI) (by omega) (by omega)
        refine am_riastore (l := a 110) (h1 := am_enc (am_ud f 10607 ((f 10607) + 1)) (am_ud (am_ud a 112 ((a 112).set (f 10607).toNat y1)) 110 ((a 110).set ((f 10606) - 1).toNat ((am_at (a 110) ((f 10606) - 1)) + 1))) w e) rfl am_ge110 i34 (am_sa110 _) ?_
        have J36 := am_Jf10607 (v := (f 10607) + 1) hI.1 (by omega) (by omega)
        have J37 := am_Ja112 J36 hl30
        have J38 := am_Ja110 J37 hl35
        have J39 : am_IV p g h (am_ud f 10607 ((f 10607) + 1)) (am_ud (am_ud a 112 ((a 112).set (f 10607).toNat y1)) 110 ((a 110).set ((f 10606) - 1).toNat ((am_at (a 110) ((f 10606) - 1)) + 1))) := ⟨J38, by
            exact ⟨hI.2.1, hI.2.2.1, am_R3_inc hI.2.2.2.1 (by assumption), hI.2.2.2.2⟩
          ⟩
        exact am_eret rfl rfl J39
      · exact am_ethrow rfl rfl rfl rfl ⟨by decide, hI.weak⟩
    · refine am_raload_n rfl rfl rfl ?_
      refine am_riconst rfl ?_
      refine am_riconst rfl ?_
      have q40 := am_Ig10607 hI
      refine am_evirtualV (m := am_m9) (As := [.ref 106, am_iv 3, am_iv 0]) (S1 := []) rfl rfl rfl rfl rfl rfl rfl rfl rfl rfl (am_TE.void (am_ct9 (y1 := 3) (y2 := 0) (by omega) hI (by omega) (by omega) (by omega) (by omega) (by omega)) (fun f41 a41 hq42 => ?_) (fun _ _ _ h => h))
      obtain ⟨hI43, hq42⟩ := hq42
      refine am_raload_n rfl rfl rfl ?_
      have q44 := am_Ig10607 hI43
      refine am_rgetf (S1 := [am_iv (f41 10607)]) rfl rfl ?_
      refine am_rsipush rfl (by decide) ?_
      refine am_ric_lt rfl rfl (by unfold am_rg; omega) (by unfold am_rg; omega) (fun hc45 => ?_) (fun hc45 => ?_)
      · refine am_raload_n rfl rfl rfl ?_
        refine am_rgetf (S1 := [.ref 112]) rfl rfl ?_
        refine am_raload_n rfl rfl rfl ?_
        refine am_rgetf (S1 := [am_iv (f41 10607), .ref 112]) rfl rfl ?_
        refine am_riload_n rfl rfl rfl ?_
        have q46 : (a41 112).length = 2000 := am_Ll112 (am_IL 112 rfl hI43)
        have i47 : am_ib (a41 112) (f41 10607) := by unfold am_ib; omega
        have hl48 : am_LN 112 ((a41 112).set (f41 10607).toNat y1) := am_LS112 (am_IL 112 rfl hI43) (by omega) (by omega)
        refine am_riastore (l := a41 112) (h1 := am_enc f41 (am_ud a41 112 ((a41 112).set (f41 10607).toNat y1)) w e) rfl am_ge112 i47 (am_sa112 _) ?_
        refine am_raload_n rfl rfl rfl ?_
        refine am_rdup rfl rfl ?_
        refine am_rgetf (S1 := [am_iv (f41 10607), .ref 106]) rfl rfl ?_
        refine am_riconst rfl ?_
        refine am_riadd rfl ?_
        refine am_rputf (S1 := []) (h1 := am_enc (am_ud f41 10607 ((f41 10607) + 1)) (am_ud a41 112 ((a41 112).set (f41 10607).toNat y1)) w e) rfl (am_pfB rfl am_ge106 rfl (am_sf10607 _)) (by rw [am_enc_len, am_enc_len]) ?_
        refine am_raload_n rfl rfl rfl ?_
        refine am_rgetf (S1 := [.ref 110]) rfl rfl ?_
        refine am_raload_n rfl rfl rfl ?_
        have q49 := am_Ig10606 hI43
        refine am_rgetf (S1 := [am_iv (f41 10606), .ref 110]) rfl rfl ?_
        refine am_riconst rfl ?_
        refine am_risub rfl ?_
        refine am_rdup2 rfl rfl rfl ?_
        have q50 : (a41 110).length = 200 := am_Ll110 (am_IL 110 rfl hI43)
        have i51 : am_ib (a41 110) ((f41 10606) - 1) := by unfold am_ib; omega
        have q52 := am_Lb110 (am_IL 110 rfl hI43) i51
        have r1 := hI43.2.2.2.1 ((f41 10606) - 1) (by omega) (by omega)
        have r2 := (am_Lb109 (am_IL 109 rfl hI43) (x := ((f41 10606) - 1)) (by have := am_Ll109 (am_IL 109 rfl hI43); unfold am_ib; omega)).1
        refine am_riaload (l := a41 110) rfl am_ge110 i51 ?_
        refine am_riconst rfl ?_
        refine am_riadd rfl ?_
        have i53 : am_ib (a41 110) ((f41 10606) - 1) := by unfold am_ib; omega
        have hl54 : am_LN 110 ((a41 110).set ((f41 10606) - 1).toNat ((am_at (a41 110) ((f41 10606) - 1)) + 1)) := am_LS110 (am_IL 110 rfl hI43) (by omega) (by omega)
        refine am_riastore (l := a41 110) (h1 := am_enc (am_ud f41 10607 ((f41 10607) + 1)) (am_ud (am_ud a41 112 ((a41 112).set (f41 10607).toNat y1)) 110 ((a41 110).set ((f41 10606) - 1).toNat ((am_at (a41 110) ((f41 10606) - 1)) + 1))) w e) rfl am_ge110 i53 (am_sa110 _) ?_
        have J55 := am_Jf10607 (v := (f41 10607) + 1) hI43.1 (by omega) (by omega)
        have J56 := am_Ja112 J55 hl48
        have J57 := am_Ja110 J56 hl54
        have J58 : am_IV p g h (am_ud f41 10607 ((f41 10607) + 1)) (am_ud (am_ud a41 112 ((a41 112).set (f41 10607).toNat y1)) 110 ((a41 110).set ((f41 10606) - 1).toNat ((am_at (a41 110) ((f41 10606) - 1)) + 1))) := ⟨J57, by
            exact ⟨hI43.2.1, hI43.2.2.1, am_R3_inc hI43.2.2.2.1 (by assumption), hI43.2.2.2.2⟩
          ⟩
        exact am_eret rfl rfl J58
      · exact am_ethrow rfl rfl rfl rfl ⟨by decide, hI43.weak⟩
set_option maxRecDepth 100000 in
set_option maxHeartbeats 4000000 in
theorem am_ct12s_16 {X : List Value} {w : Value} {e : Nat} {g : aF} {h : aA} {p : Bool} {E : Nat → aF → aA → Prop} {d : Nat} (hd : 1 ≤ d + 1) (n : Nat) :
    ∀ {f : aF} {a : aA} {x1 : Int} {x3 : Int} {x4 : Int} {x5 : Int}, (x4 - x5).toNat < n → am_IV p g h f a → (-2147483648 ≤ x1 ∧ x1 ≤ 2147483647) → (-2147483648 ≤ x3 ∧ x3 ≤ 2147483647) → (-2147483648 ≤ x4 ∧ x4 ≤ 2147483647) → (-2147483648 ≤ x5 ∧ x5 ≤ 2147483647) → 0 ≤ x5 → 0 ≤ x1 → x1 < f 10606 → am_at (a 110) x1 = x4 → 0 ≤ x3 → x3 + x4 ≤ 720 → am_TE X (d + 1) am_m12 16 [(0, .ref 106), (1, am_iv x1), (2, .ref 3), (3, am_iv x3), (4, am_iv x4), (5, am_iv x5)] [] f a w e (am_QI (fun b f1 a1 => f = f1 ∧ a = a1 ∧ (b = 0 ∨ b = 1))) E := by
  induction n with
  | zero => intros; omega
  | succ n ih =>
    intro f a x1 x3 x4 x5 hn hI hp0 hp1 hp2 hp3 hp4 hp5 hp6 hp7 hp8 hp9
    have q1 := am_Ig10606 hI
    refine am_riload rfl rfl rfl ?_
    refine am_riload rfl rfl rfl ?_
    refine am_ric_ge rfl rfl (by unfold am_rg; omega) (by unfold am_rg; omega) (fun hc2 => ?_) (fun hc2 => ?_)
    · refine am_riconst rfl ?_
      exact am_ebret rfl rfl (by omega) ⟨rfl, rfl, (show ((1 : Int) = 0 ∨ (1 : Int) = 1) by omega)⟩
    · refine am_raload_n rfl rfl rfl ?_
      refine am_rgetf (S1 := [.ref 112]) rfl rfl ?_
      refine am_raload_n rfl rfl rfl ?_
      refine am_rgetf (S1 := [.ref 109, .ref 112]) rfl rfl ?_
      refine am_riload_n rfl rfl rfl ?_
      have q3 : (a 109).length = 200 := am_Ll109 (am_IL 109 rfl hI)
      have i4 : am_ib (a 109) x1 := by unfold am_ib; omega
      have q5 := am_Lb109 (am_IL 109 rfl hI) i4
      have r1 := hI.2.2.2.1 x1 (by omega) (by omega)
      have r2 := am_Ig10607 hI
      refine am_riaload (l := a 109) rfl am_ge109 i4 ?_
      refine am_riload rfl rfl rfl ?_
      refine am_riadd rfl ?_
      have q6 : (a 112).length = 2000 := am_Ll112 (am_IL 112 rfl hI)
      have i7 : am_ib (a 112) ((am_at (a 109) x1) + x5) := by unfold am_ib; omega
      have q8 := am_Lb112 (am_IL 112 rfl hI) i7
      refine am_riaload (l := a 112) rfl am_ge112 i7 ?_
      refine am_raload_n rfl rfl rfl ?_
      refine am_riload_n rfl rfl rfl ?_
      refine am_riload rfl rfl rfl ?_
      refine am_riadd rfl ?_
      have q9 : (a 3).length = 720 := am_Ll3 (am_IL 3 rfl hI)
      have i10 : am_ib (a 3) (x3 + x5) := by unfold am_ib; omega
      have q11 := am_Lb3 (am_IL 3 rfl hI) i10
      refine am_riaload (l := a 3) rfl am_ge3 i10 ?_
      refine am_ric_eq rfl rfl (by unfold am_rg; omega) (by unfold am_rg; omega) (fun hc12 => ?_) (fun hc12 => ?_)
      · refine am_riinc (L1 := [(0, .ref 106), (1, am_iv x1), (2, .ref 3), (3, am_iv x3), (4, am_iv x4), (5, am_iv (x5 + 1))]) rfl rfl rfl rfl rfl ?_
        refine am_rgoto rfl rfl ?_
        exact ih (by omega) hI (by omega) (by omega) (by omega) (by omega) (by omega) (by omega) (by omega) (by omega) (by omega) (by omega)
      · refine am_riconst rfl ?_
        exact am_ebret rfl rfl (by omega) ⟨rfl, rfl, (show ((0 : Int) = 0 ∨ (0 : Int) = 1) by omega)⟩
set_option maxRecDepth 100000 in
set_option maxHeartbeats 4000000 in
theorem am_ct12s {X : List Value} {w : Value} {e : Nat} {g : aF} {h : aA} {p : Bool} {E : Nat → aF → aA → Prop} {d : Nat} {y1 : Int} {y3 : Int} {y4 : Int} {f : aF} {a : aA} (hd : 1 ≤ d) (hI : am_IV p g h f a) (hp0 : (-2147483648 ≤ y1 ∧ y1 ≤ 2147483647)) (hp1 : (-2147483648 ≤ y3 ∧ y3 ≤ 2147483647)) (hp2 : (-2147483648 ≤ y4 ∧ y4 ≤ 2147483647)) (hp3 : 0 ≤ y1) (hp4 : y1 < f 10606) (hp5 : 0 ≤ y3) (hp6 : y3 + y4 ≤ 720) :
    am_TE X d am_m12 0 (lv_args 0 [.ref 106, am_iv y1, .ref 3, am_iv y3, am_iv y4]) [] f a w e (am_QI (fun b f1 a1 => f = f1 ∧ a = a1 ∧ (b = 0 ∨ b = 1))) E := by
  obtain ⟨d, rfl⟩ : ∃ d0, d = d0 + 1 := ⟨d - 1, by omega⟩
  have q1 := am_Ig10606 hI
  refine am_raload_n rfl rfl rfl ?_
  refine am_rgetf (S1 := [.ref 110]) rfl rfl ?_
  refine am_riload_n rfl rfl rfl ?_
  have q2 : (a 110).length = 200 := am_Ll110 (am_IL 110 rfl hI)
  have i3 : am_ib (a 110) y1 := by unfold am_ib; omega
  have q4 := am_Lb110 (am_IL 110 rfl hI) i3
  refine am_riaload (l := a 110) rfl am_ge110 i3 ?_
  refine am_riload rfl rfl rfl ?_
  refine am_ric_eq rfl rfl (by unfold am_rg; omega) (by unfold am_rg; omega) (fun hc5 => ?_) (fun hc5 => ?_)
  · refine am_riconst rfl ?_
    refine am_ristore (L1 := [(0, .ref 106), (1, am_iv y1), (2, .ref 3), (3, am_iv y3), (4, am_iv y4), (5, am_iv 0)]) rfl rfl rfl rfl rfl ?_
    exact am_ct12s_16 hd (_ + 1) (Nat.lt_succ_self _) hI (by omega) (by omega) (by omega) (by omega) (by omega) (by omega) (by omega) (by omega) (by omega) (by omega)
  · refine am_riconst rfl ?_
    exact am_ebret rfl rfl (by omega) ⟨rfl, rfl, (show ((0 : Int) = 0 ∨ (0 : Int) = 1) by omega)⟩
set_option maxRecDepth 100000 in
set_option maxHeartbeats 4000000 in
theorem am_ct12t_16 {X : List Value} {w : Value} {e : Nat} {g : aF} {h : aA} {p : Bool} {E : Nat → aF → aA → Prop} {d : Nat} (hd : 1 ≤ d + 1) (n : Nat) :
    ∀ {f : aF} {a : aA} {x1 : Int} {x3 : Int} {x4 : Int} {x5 : Int}, (x4 - x5).toNat < n → am_IV p g h f a → (-2147483648 ≤ x1 ∧ x1 ≤ 2147483647) → (-2147483648 ≤ x3 ∧ x3 ≤ 2147483647) → (-2147483648 ≤ x4 ∧ x4 ≤ 2147483647) → (-2147483648 ≤ x5 ∧ x5 ≤ 2147483647) → 0 ≤ x5 → 0 ≤ x1 → x1 < f 10606 → am_at (a 110) x1 = x4 → 0 ≤ x3 → x3 + x4 ≤ 2360 → am_TE X (d + 1) am_m12 16 [(0, .ref 106), (1, am_iv x1), (2, .ref 26), (3, am_iv x3), (4, am_iv x4), (5, am_iv x5)] [] f a w e (am_QI (fun b f1 a1 => f = f1 ∧ a = a1 ∧ (b = 0 ∨ b = 1))) E := by
  induction n with
  | zero => intros; omega
  | succ n ih =>
    intro f a x1 x3 x4 x5 hn hI hp0 hp1 hp2 hp3 hp4 hp5 hp6 hp7 hp8 hp9
    have q1 := am_Ig10606 hI
    refine am_riload rfl rfl rfl ?_
    refine am_riload rfl rfl rfl ?_
    refine am_ric_ge rfl rfl (by unfold am_rg; omega) (by unfold am_rg; omega) (fun hc2 => ?_) (fun hc2 => ?_)
    · refine am_riconst rfl ?_
      exact am_ebret rfl rfl (by omega) ⟨rfl, rfl, (show ((1 : Int) = 0 ∨ (1 : Int) = 1) by omega)⟩
    · refine am_raload_n rfl rfl rfl ?_
      refine am_rgetf (S1 := [.ref 112]) rfl rfl ?_
      refine am_raload_n rfl rfl rfl ?_
      refine am_rgetf (S1 := [.ref 109, .ref 112]) rfl rfl ?_
      refine am_riload_n rfl rfl rfl ?_
      have q3 : (a 109).length = 200 := am_Ll109 (am_IL 109 rfl hI)
      have i4 : am_ib (a 109) x1 := by unfold am_ib; omega
      have q5 := am_Lb109 (am_IL 109 rfl hI) i4
      have r1 := hI.2.2.2.1 x1 (by omega) (by omega)
      have r2 := am_Ig10607 hI
      refine am_riaload (l := a 109) rfl am_ge109 i4 ?_
      refine am_riload rfl rfl rfl ?_
      refine am_riadd rfl ?_
      have q6 : (a 112).length = 2000 := am_Ll112 (am_IL 112 rfl hI)
      have i7 : am_ib (a 112) ((am_at (a 109) x1) + x5) := by unfold am_ib; omega
      have q8 := am_Lb112 (am_IL 112 rfl hI) i7
      refine am_riaload (l := a 112) rfl am_ge112 i7 ?_
      refine am_raload_n rfl rfl rfl ?_
      refine am_riload_n rfl rfl rfl ?_
      refine am_riload rfl rfl rfl ?_
      refine am_riadd rfl ?_
      have q9 : (a 26).length = 2360 := am_Ll26 (am_IL 26 rfl hI)
      have i10 : am_ib (a 26) (x3 + x5) := by unfold am_ib; omega
      have q11 := am_Lb26 (am_IL 26 rfl hI) i10
      refine am_riaload (l := a 26) rfl am_ge26 i10 ?_
      refine am_ric_eq rfl rfl (by unfold am_rg; omega) (by unfold am_rg; omega) (fun hc12 => ?_) (fun hc12 => ?_)
      · refine am_riinc (L1 := [(0, .ref 106), (1, am_iv x1), (2, .ref 26), (3, am_iv x3), (4, am_iv x4), (5, am_iv (x5 + 1))]) rfl rfl rfl rfl rfl ?_
        refine am_rgoto rfl rfl ?_
        exact ih (by omega) hI (by omega) (by omega) (by omega) (by omega) (by omega) (by omega) (by omega) (by omega) (by omega) (by omega)
      · refine am_riconst rfl ?_
        exact am_ebret rfl rfl (by omega) ⟨rfl, rfl, (show ((0 : Int) = 0 ∨ (0 : Int) = 1) by omega)⟩
set_option maxRecDepth 100000 in
set_option maxHeartbeats 4000000 in
theorem am_ct12t {X : List Value} {w : Value} {e : Nat} {g : aF} {h : aA} {p : Bool} {E : Nat → aF → aA → Prop} {d : Nat} {y1 : Int} {y3 : Int} {y4 : Int} {f : aF} {a : aA} (hd : 1 ≤ d) (hI : am_IV p g h f a) (hp0 : (-2147483648 ≤ y1 ∧ y1 ≤ 2147483647)) (hp1 : (-2147483648 ≤ y3 ∧ y3 ≤ 2147483647)) (hp2 : (-2147483648 ≤ y4 ∧ y4 ≤ 2147483647)) (hp3 : 0 ≤ y1) (hp4 : y1 < f 10606) (hp5 : 0 ≤ y3) (hp6 : y3 + y4 ≤ 2360) :
    am_TE X d am_m12 0 (lv_args 0 [.ref 106, am_iv y1, .ref 26, am_iv y3, am_iv y4]) [] f a w e (am_QI (fun b f1 a1 => f = f1 ∧ a = a1 ∧ (b = 0 ∨ b = 1))) E := by
  obtain ⟨d, rfl⟩ : ∃ d0, d = d0 + 1 := ⟨d - 1, by omega⟩
  have q1 := am_Ig10606 hI
  refine am_raload_n rfl rfl rfl ?_
  refine am_rgetf (S1 := [.ref 110]) rfl rfl ?_
  refine am_riload_n rfl rfl rfl ?_
  have q2 : (a 110).length = 200 := am_Ll110 (am_IL 110 rfl hI)
  have i3 : am_ib (a 110) y1 := by unfold am_ib; omega
  have q4 := am_Lb110 (am_IL 110 rfl hI) i3
  refine am_riaload (l := a 110) rfl am_ge110 i3 ?_
  refine am_riload rfl rfl rfl ?_
  refine am_ric_eq rfl rfl (by unfold am_rg; omega) (by unfold am_rg; omega) (fun hc5 => ?_) (fun hc5 => ?_)
  · refine am_riconst rfl ?_
    refine am_ristore (L1 := [(0, .ref 106), (1, am_iv y1), (2, .ref 26), (3, am_iv y3), (4, am_iv y4), (5, am_iv 0)]) rfl rfl rfl rfl rfl ?_
    exact am_ct12t_16 hd (_ + 1) (Nat.lt_succ_self _) hI (by omega) (by omega) (by omega) (by omega) (by omega) (by omega) (by omega) (by omega) (by omega) (by omega)
  · refine am_riconst rfl ?_
    exact am_ebret rfl rfl (by omega) ⟨rfl, rfl, (show ((0 : Int) = 0 ∨ (0 : Int) = 1) by omega)⟩
set_option maxRecDepth 100000 in
set_option maxHeartbeats 4000000 in
theorem am_ct12e_16 {X : List Value} {w : Value} {e : Nat} {g : aF} {h : aA} {p : Bool} {E : Nat → aF → aA → Prop} {d : Nat} (hd : 1 ≤ d + 1) (n : Nat) :
    ∀ {f : aF} {a : aA} {x1 : Int} {x3 : Int} {x4 : Int} {x5 : Int}, (x4 - x5).toNat < n → am_IV p g h f a → (-2147483648 ≤ x1 ∧ x1 ≤ 2147483647) → (-2147483648 ≤ x3 ∧ x3 ≤ 2147483647) → (-2147483648 ≤ x4 ∧ x4 ≤ 2147483647) → (-2147483648 ≤ x5 ∧ x5 ≤ 2147483647) → 0 ≤ x5 → 0 ≤ x1 → x1 < f 10606 → am_at (a 110) x1 = x4 → 0 ≤ x3 → x3 + x4 ≤ 2000 → am_TE X (d + 1) am_m12 16 [(0, .ref 106), (1, am_iv x1), (2, .ref 112), (3, am_iv x3), (4, am_iv x4), (5, am_iv x5)] [] f a w e (am_QI (fun b f1 a1 => f = f1 ∧ a = a1 ∧ (b = 0 ∨ b = 1))) E := by
  induction n with
  | zero => intros; omega
  | succ n ih =>
    intro f a x1 x3 x4 x5 hn hI hp0 hp1 hp2 hp3 hp4 hp5 hp6 hp7 hp8 hp9
    have q1 := am_Ig10606 hI
    refine am_riload rfl rfl rfl ?_
    refine am_riload rfl rfl rfl ?_
    refine am_ric_ge rfl rfl (by unfold am_rg; omega) (by unfold am_rg; omega) (fun hc2 => ?_) (fun hc2 => ?_)
    · refine am_riconst rfl ?_
      exact am_ebret rfl rfl (by omega) ⟨rfl, rfl, (show ((1 : Int) = 0 ∨ (1 : Int) = 1) by omega)⟩
    · refine am_raload_n rfl rfl rfl ?_
      refine am_rgetf (S1 := [.ref 112]) rfl rfl ?_
      refine am_raload_n rfl rfl rfl ?_
      refine am_rgetf (S1 := [.ref 109, .ref 112]) rfl rfl ?_
      refine am_riload_n rfl rfl rfl ?_
      have q3 : (a 109).length = 200 := am_Ll109 (am_IL 109 rfl hI)
      have i4 : am_ib (a 109) x1 := by unfold am_ib; omega
      have q5 := am_Lb109 (am_IL 109 rfl hI) i4
      have r1 := hI.2.2.2.1 x1 (by omega) (by omega)
      have r2 := am_Ig10607 hI
      refine am_riaload (l := a 109) rfl am_ge109 i4 ?_
      refine am_riload rfl rfl rfl ?_
      refine am_riadd rfl ?_
      have q6 : (a 112).length = 2000 := am_Ll112 (am_IL 112 rfl hI)
      have i7 : am_ib (a 112) ((am_at (a 109) x1) + x5) := by unfold am_ib; omega
      have q8 := am_Lb112 (am_IL 112 rfl hI) i7
      refine am_riaload (l := a 112) rfl am_ge112 i7 ?_
      refine am_raload_n rfl rfl rfl ?_
      refine am_riload_n rfl rfl rfl ?_
      refine am_riload rfl rfl rfl ?_
      refine am_riadd rfl ?_
      have i9 : am_ib (a 112) (x3 + x5) := by unfold am_ib; omega
      have q10 := am_Lb112 (am_IL 112 rfl hI) i9
      refine am_riaload (l := a 112) rfl am_ge112 i9 ?_
      refine am_ric_eq rfl rfl (by unfold am_rg; omega) (by unfold am_rg; omega) (fun hc11 => ?_) (fun hc11 => ?_)
      · refine am_riinc (L1 := [(0, .ref 106), (1, am_iv x1), (2, .ref 112), (3, am_iv x3), (4, am_iv x4), (5, am_iv (x5 + 1))]) rfl rfl rfl rfl rfl ?_
        refine am_rgoto rfl rfl ?_
        exact ih (by omega) hI (by omega) (by omega) (by omega) (by omega) (by omega) (by omega) (by omega) (by omega) (by omega) (by omega)
      · refine am_riconst rfl ?_
        exact am_ebret rfl rfl (by omega) ⟨rfl, rfl, (show ((0 : Int) = 0 ∨ (0 : Int) = 1) by omega)⟩
set_option maxRecDepth 100000 in
set_option maxHeartbeats 4000000 in
theorem am_ct12e {X : List Value} {w : Value} {e : Nat} {g : aF} {h : aA} {p : Bool} {E : Nat → aF → aA → Prop} {d : Nat} {y1 : Int} {y3 : Int} {y4 : Int} {f : aF} {a : aA} (hd : 1 ≤ d) (hI : am_IV p g h f a) (hp0 : (-2147483648 ≤ y1 ∧ y1 ≤ 2147483647)) (hp1 : (-2147483648 ≤ y3 ∧ y3 ≤ 2147483647)) (hp2 : (-2147483648 ≤ y4 ∧ y4 ≤ 2147483647)) (hp3 : 0 ≤ y1) (hp4 : y1 < f 10606) (hp5 : 0 ≤ y3) (hp6 : y3 + y4 ≤ 2000) :
    am_TE X d am_m12 0 (lv_args 0 [.ref 106, am_iv y1, .ref 112, am_iv y3, am_iv y4]) [] f a w e (am_QI (fun b f1 a1 => f = f1 ∧ a = a1 ∧ (b = 0 ∨ b = 1))) E := by
  obtain ⟨d, rfl⟩ : ∃ d0, d = d0 + 1 := ⟨d - 1, by omega⟩
  have q1 := am_Ig10606 hI
  refine am_raload_n rfl rfl rfl ?_
  refine am_rgetf (S1 := [.ref 110]) rfl rfl ?_
  refine am_riload_n rfl rfl rfl ?_
  have q2 : (a 110).length = 200 := am_Ll110 (am_IL 110 rfl hI)
  have i3 : am_ib (a 110) y1 := by unfold am_ib; omega
  have q4 := am_Lb110 (am_IL 110 rfl hI) i3
  refine am_riaload (l := a 110) rfl am_ge110 i3 ?_
  refine am_riload rfl rfl rfl ?_
  refine am_ric_eq rfl rfl (by unfold am_rg; omega) (by unfold am_rg; omega) (fun hc5 => ?_) (fun hc5 => ?_)
  · refine am_riconst rfl ?_
    refine am_ristore (L1 := [(0, .ref 106), (1, am_iv y1), (2, .ref 112), (3, am_iv y3), (4, am_iv y4), (5, am_iv 0)]) rfl rfl rfl rfl rfl ?_
    exact am_ct12e_16 hd (_ + 1) (Nat.lt_succ_self _) hI (by omega) (by omega) (by omega) (by omega) (by omega) (by omega) (by omega) (by omega) (by omega) (by omega)
  · refine am_riconst rfl ?_
    exact am_ebret rfl rfl (by omega) ⟨rfl, rfl, (show ((0 : Int) = 0 ∨ (0 : Int) = 1) by omega)⟩
set_option maxRecDepth 100000 in
set_option maxHeartbeats 4000000 in
theorem am_ct13_2 {X : List Value} {w : Value} {e : Nat} {g : aF} {h : aA} {p : Bool} {E : Nat → aF → aA → Prop} {d : Nat} (hd : 2 ≤ d + 1) (n : Nat) :
    ∀ {f : aF} {a : aA} {x1 : Int} {x2 : Int}, (am_at (a 110) x1 - x2).toNat < n → am_IV p g h f a → (-2147483648 ≤ x1 ∧ x1 ≤ 2147483647) → (-2147483648 ≤ x2 ∧ x2 ≤ 2147483647) → 0 ≤ x2 → 0 ≤ x1 → x1 < f 10606 → am_TE X (d + 1) am_m13 2 [(0, .ref 106), (1, am_iv x1), (2, am_iv x2)] [] f a w e (am_QI (fun b f1 a1 => f = f1 ∧ a = a1 ∧ (b = 0 ∨ b = 1))) E := by
  induction n with
  | zero => intros; omega
  | succ n ih =>
    intro f a x1 x2 hn hI hp0 hp1 hp2 hp3 hp4
    have q1 := am_Ig10606 hI
    refine am_riload_n rfl rfl rfl ?_
    refine am_raload_n rfl rfl rfl ?_
    refine am_rgetf (S1 := [.ref 110, am_iv x2]) rfl rfl ?_
    refine am_riload_n rfl rfl rfl ?_
    have q2 : (a 110).length = 200 := am_Ll110 (am_IL 110 rfl hI)
    have i3 : am_ib (a 110) x1 := by unfold am_ib; omega
    have q4 := am_Lb110 (am_IL 110 rfl hI) i3
    refine am_riaload (l := a 110) rfl am_ge110 i3 ?_
    refine am_ric_ge rfl rfl (by unfold am_rg; omega) (by unfold am_rg; omega) (fun hc5 => ?_) (fun hc5 => ?_)
    · refine am_riconst rfl ?_
      exact am_ebret rfl rfl (by omega) ⟨rfl, rfl, (show ((1 : Int) = 0 ∨ (1 : Int) = 1) by omega)⟩
    · refine am_raload_n rfl rfl rfl ?_
      refine am_rgetf (S1 := [.ref 112]) rfl rfl ?_
      refine am_raload_n rfl rfl rfl ?_
      refine am_rgetf (S1 := [.ref 109, .ref 112]) rfl rfl ?_
      refine am_riload_n rfl rfl rfl ?_
      have q6 : (a 109).length = 200 := am_Ll109 (am_IL 109 rfl hI)
      have i7 : am_ib (a 109) x1 := by unfold am_ib; omega
      have q8 := am_Lb109 (am_IL 109 rfl hI) i7
      have r1 := hI.2.2.2.1 x1 (by omega) (by omega)
      have r2 := am_Ig10607 hI
      refine am_riaload (l := a 109) rfl am_ge109 i7 ?_
      refine am_riload_n rfl rfl rfl ?_
      refine am_riadd rfl ?_
      have q9 : (a 112).length = 2000 := am_Ll112 (am_IL 112 rfl hI)
      have i10 : am_ib (a 112) ((am_at (a 109) x1) + x2) := by unfold am_ib; omega
      have q11 := am_Lb112 (am_IL 112 rfl hI) i10
      refine am_riaload (l := a 112) rfl am_ge112 i10 ?_
      refine am_estaticI (m := am_m107) (As := [am_iv (am_at (a 112) ((am_at (a 109) x1) + x2))]) (S1 := []) rfl rfl rfl rfl rfl rfl rfl rfl (am_TE.int (am_ct107 (y1 := (am_at (a 112) ((am_at (a 109) x1) + x2))) (by omega) (by omega)) (fun b12 f12 a12 hq13 => ?_) (fun _ _ _ h => h))
      obtain ⟨rfl, rfl, hq13⟩ := hq13
      refine am_rif_ne rfl rfl (by unfold am_rg; omega) (fun hc14 => ?_) (fun hc14 => ?_)
      · refine am_riinc (L1 := [(0, .ref 106), (1, am_iv x1), (2, am_iv (x2 + 1))]) rfl rfl rfl rfl rfl ?_
        refine am_rgoto rfl rfl ?_
        exact ih (by omega) hI (by omega) (by omega) (by omega) (by omega) (by omega)
      · refine am_riconst rfl ?_
        exact am_ebret rfl rfl (by omega) ⟨rfl, rfl, (show ((0 : Int) = 0 ∨ (0 : Int) = 1) by omega)⟩
set_option maxRecDepth 100000 in
set_option maxHeartbeats 4000000 in
theorem am_ct13 {X : List Value} {w : Value} {e : Nat} {g : aF} {h : aA} {p : Bool} {E : Nat → aF → aA → Prop} {d : Nat} {y1 : Int} {f : aF} {a : aA} (hd : 2 ≤ d) (hI : am_IV p g h f a) (hp0 : (-2147483648 ≤ y1 ∧ y1 ≤ 2147483647)) (hp1 : 0 ≤ y1) (hp2 : y1 < f 10606) :
    am_TE X d am_m13 0 (lv_args 0 [.ref 106, am_iv y1]) [] f a w e (am_QI (fun b f1 a1 => f = f1 ∧ a = a1 ∧ (b = 0 ∨ b = 1))) E := by
  obtain ⟨d, rfl⟩ : ∃ d0, d = d0 + 1 := ⟨d - 1, by omega⟩
  have q1 := am_Ig10606 hI
  refine am_riconst rfl ?_
  refine am_ristore_n (L1 := [(0, .ref 106), (1, am_iv y1), (2, am_iv 0)]) rfl rfl rfl rfl rfl ?_
  exact am_ct13_2 hd (_ + 1) (Nat.lt_succ_self _) hI (by omega) (by omega) (by omega) (by omega) (by omega)
set_option maxRecDepth 100000 in
set_option maxHeartbeats 4000000 in
theorem am_ct14_2 {X : List Value} {w : Value} {e : Nat} {g : aF} {h : aA} {p : Bool} {E : Nat → aF → aA → Prop} {d : Nat} (hd : 2 ≤ d + 1) (n : Nat) :
    ∀ {f : aF} {a : aA} {x1 : Int} {x2 : Int}, (am_at (a 110) x1 - x2).toNat < n → am_IV p g h f a → (-2147483648 ≤ x1 ∧ x1 ≤ 2147483647) → (-2147483648 ≤ x2 ∧ x2 ≤ 2147483647) → 0 ≤ x2 → 0 ≤ x1 → x1 < f 10606 → am_TE X (d + 1) am_m14 2 [(0, .ref 106), (1, am_iv x1), (2, am_iv x2)] [] f a w e (am_QI (fun b f1 a1 => f = f1 ∧ a = a1 ∧ (b = 0 ∨ b = 1))) E := by
  induction n with
  | zero => intros; omega
  | succ n ih =>
    intro f a x1 x2 hn hI hp0 hp1 hp2 hp3 hp4
    have q1 := am_Ig10606 hI
    refine am_riload_n rfl rfl rfl ?_
    refine am_raload_n rfl rfl rfl ?_
    refine am_rgetf (S1 := [.ref 110, am_iv x2]) rfl rfl ?_
    refine am_riload_n rfl rfl rfl ?_
    have q2 : (a 110).length = 200 := am_Ll110 (am_IL 110 rfl hI)
    have i3 : am_ib (a 110) x1 := by unfold am_ib; omega
    have q4 := am_Lb110 (am_IL 110 rfl hI) i3
    refine am_riaload (l := a 110) rfl am_ge110 i3 ?_
    refine am_ric_ge rfl rfl (by unfold am_rg; omega) (by unfold am_rg; omega) (fun hc5 => ?_) (fun hc5 => ?_)
    · refine am_raload_n rfl rfl rfl ?_
      refine am_rgetf (S1 := [.ref 110]) rfl rfl ?_
      refine am_riload_n rfl rfl rfl ?_
      have i6 : am_ib (a 110) x1 := by unfold am_ib; omega
      refine am_riaload (l := a 110) rfl am_ge110 i6 ?_
      refine am_rif_le rfl rfl (by unfold am_rg; omega) (fun hc7 => ?_) (fun hc7 => ?_)
      · refine am_riconst rfl ?_
        exact am_ebret rfl rfl (by omega) ⟨rfl, rfl, (show ((0 : Int) = 0 ∨ (0 : Int) = 1) by omega)⟩
      · refine am_riconst rfl ?_
        refine am_rgoto rfl rfl ?_
        exact am_ebret rfl rfl (by omega) ⟨rfl, rfl, (show ((1 : Int) = 0 ∨ (1 : Int) = 1) by omega)⟩
    · refine am_raload_n rfl rfl rfl ?_
      refine am_rgetf (S1 := [.ref 112]) rfl rfl ?_
      refine am_raload_n rfl rfl rfl ?_
      refine am_rgetf (S1 := [.ref 109, .ref 112]) rfl rfl ?_
      refine am_riload_n rfl rfl rfl ?_
      have q8 : (a 109).length = 200 := am_Ll109 (am_IL 109 rfl hI)
      have i9 : am_ib (a 109) x1 := by unfold am_ib; omega
      have q10 := am_Lb109 (am_IL 109 rfl hI) i9
      have r1 := hI.2.2.2.1 x1 (by omega) (by omega)
      have r2 := am_Ig10607 hI
      refine am_riaload (l := a 109) rfl am_ge109 i9 ?_
      refine am_riload_n rfl rfl rfl ?_
      refine am_riadd rfl ?_
      have q11 : (a 112).length = 2000 := am_Ll112 (am_IL 112 rfl hI)
      have i12 : am_ib (a 112) ((am_at (a 109) x1) + x2) := by unfold am_ib; omega
      have q13 := am_Lb112 (am_IL 112 rfl hI) i12
      refine am_riaload (l := a 112) rfl am_ge112 i12 ?_
      refine am_estaticI (m := am_m110) (As := [am_iv (am_at (a 112) ((am_at (a 109) x1) + x2))]) (S1 := []) rfl rfl rfl rfl rfl rfl rfl rfl (am_TE.int (am_ct110 (y1 := (am_at (a 112) ((am_at (a 109) x1) + x2))) (by omega) (by omega)) (fun b14 f14 a14 hq15 => ?_) (fun _ _ _ h => h))
      obtain ⟨rfl, rfl, hq15⟩ := hq15
      refine am_rif_ne rfl rfl (by unfold am_rg; omega) (fun hc16 => ?_) (fun hc16 => ?_)
      · refine am_riinc (L1 := [(0, .ref 106), (1, am_iv x1), (2, am_iv (x2 + 1))]) rfl rfl rfl rfl rfl ?_
        refine am_rgoto rfl rfl ?_
        exact ih (by omega) hI (by omega) (by omega) (by omega) (by omega) (by omega)
      · refine am_riconst rfl ?_
        exact am_ebret rfl rfl (by omega) ⟨rfl, rfl, (show ((0 : Int) = 0 ∨ (0 : Int) = 1) by omega)⟩
set_option maxRecDepth 100000 in
set_option maxHeartbeats 4000000 in
theorem am_ct14 {X : List Value} {w : Value} {e : Nat} {g : aF} {h : aA} {p : Bool} {E : Nat → aF → aA → Prop} {d : Nat} {y1 : Int} {f : aF} {a : aA} (hd : 2 ≤ d) (hI : am_IV p g h f a) (hp0 : (-2147483648 ≤ y1 ∧ y1 ≤ 2147483647)) (hp1 : 0 ≤ y1) (hp2 : y1 < f 10606) :
    am_TE X d am_m14 0 (lv_args 0 [.ref 106, am_iv y1]) [] f a w e (am_QI (fun b f1 a1 => f = f1 ∧ a = a1 ∧ (b = 0 ∨ b = 1))) E := by
  obtain ⟨d, rfl⟩ : ∃ d0, d = d0 + 1 := ⟨d - 1, by omega⟩
  have q1 := am_Ig10606 hI
  refine am_riconst rfl ?_
  refine am_ristore_n (L1 := [(0, .ref 106), (1, am_iv y1), (2, am_iv 0)]) rfl rfl rfl rfl rfl ?_
  exact am_ct14_2 hd (_ + 1) (Nat.lt_succ_self _) hI (by omega) (by omega) (by omega) (by omega) (by omega)
set_option maxRecDepth 100000 in
set_option maxHeartbeats 4000000 in
theorem am_ct15 {X : List Value} {w : Value} {e : Nat} {g : aF} {h : aA} {p : Bool} {E : Nat → aF → aA → Prop} {d : Nat} {y1 : Int} {f : aF} {a : aA} (hd : 2 ≤ d) (hI : am_IV p g h f a) (hp0 : (-2147483648 ≤ y1 ∧ y1 ≤ 2147483647)) (hp1 : 0 ≤ y1) (hp2 : y1 < f 10606) :
    am_TE X d am_m15 0 (lv_args 0 [.ref 106, am_iv y1]) [] f a w e (am_QI (fun b f1 a1 => f = f1 ∧ a = a1 ∧ (b = 0 ∨ b = 1))) E := by
  obtain ⟨d, rfl⟩ : ∃ d0, d = d0 + 1 := ⟨d - 1, by omega⟩
  have q1 := am_Ig10606 hI
  refine am_raload_n rfl rfl rfl ?_
  refine am_rgetf (S1 := [.ref 110]) rfl rfl ?_
  refine am_riload_n rfl rfl rfl ?_
  have q2 : (a 110).length = 200 := am_Ll110 (am_IL 110 rfl hI)
  have i3 : am_ib (a 110) y1 := by unfold am_ib; omega
  have q4 := am_Lb110 (am_IL 110 rfl hI) i3
  refine am_riaload (l := a 110) rfl am_ge110 i3 ?_
  refine am_rif_le rfl rfl (by unfold am_rg; omega) (fun hc5 => ?_) (fun hc5 => ?_)
  · refine am_riconst rfl ?_
    exact am_ebret rfl rfl (by omega) ⟨rfl, rfl, (show ((0 : Int) = 0 ∨ (0 : Int) = 1) by omega)⟩
  · refine am_raload_n rfl rfl rfl ?_
    refine am_rgetf (S1 := [.ref 112]) rfl rfl ?_
    refine am_raload_n rfl rfl rfl ?_
    refine am_rgetf (S1 := [.ref 109, .ref 112]) rfl rfl ?_
    refine am_riload_n rfl rfl rfl ?_
    have q6 : (a 109).length = 200 := am_Ll109 (am_IL 109 rfl hI)
    have i7 : am_ib (a 109) y1 := by unfold am_ib; omega
    have q8 := am_Lb109 (am_IL 109 rfl hI) i7
    have r1 := hI.2.2.2.1 y1 (by omega) (by omega)
    have r2 := am_Ig10607 hI
    refine am_riaload (l := a 109) rfl am_ge109 i7 ?_
    have q9 : (a 112).length = 2000 := am_Ll112 (am_IL 112 rfl hI)
    have i10 : am_ib (a 112) (am_at (a 109) y1) := by unfold am_ib; omega
    have q11 := am_Lb112 (am_IL 112 rfl hI) i10
    refine am_riaload (l := a 112) rfl am_ge112 i10 ?_
    refine am_estaticI (m := am_m108) (As := [am_iv (am_at (a 112) (am_at (a 109) y1))]) (S1 := []) rfl rfl rfl rfl rfl rfl rfl rfl (am_TE.int (am_ct108 (y1 := (am_at (a 112) (am_at (a 109) y1))) (by omega) (by omega)) (fun b12 f12 a12 hq13 => ?_) (fun _ _ _ h => h))
    obtain ⟨rfl, rfl, hq13⟩ := hq13
    refine am_rif_eq rfl rfl (by unfold am_rg; omega) (fun hc14 => ?_) (fun hc14 => ?_)
    · refine am_riconst rfl ?_
      exact am_ebret rfl rfl (by omega) ⟨rfl, rfl, (show ((0 : Int) = 0 ∨ (0 : Int) = 1) by omega)⟩
    · refine am_riconst rfl ?_
      refine am_rgoto rfl rfl ?_
      exact am_ebret rfl rfl (by omega) ⟨rfl, rfl, (show ((1 : Int) = 0 ∨ (1 : Int) = 1) by omega)⟩
set_option maxRecDepth 100000 in
set_option maxHeartbeats 4000000 in
theorem am_ct18 {X : List Value} {w : Value} {e : Nat} {g : aF} {h : aA} {p : Bool} {d : Nat} {y1 : Int} {y2 : Int} {f : aF} {a : aA} (hd : 1 ≤ d) (hI : am_IV p g h f a) (hp0 : (-2147483648 ≤ y1 ∧ y1 ≤ 2147483647)) (hp1 : (y2 = 0 ∨ y2 = 1)) :
    am_TE X d am_m18 0 (lv_args 0 [.ref 114, am_iv y1, am_iv y2]) [] f a w e (am_QV (fun f1 a1 => am_IV p g h f1 a1 ∧ f1 10606 = (f 10606))) (am_EC g h) := by
  obtain ⟨d, rfl⟩ : ∃ d0, d = d0 + 1 := ⟨d - 1, by omega⟩
  refine am_riload_n rfl rfl rfl ?_
  refine am_rif_eq rfl rfl (by unfold am_rg; omega) (fun hc1 => ?_) (fun hc1 => ?_)
  · have q2 := am_Ig10606 hI
    exact am_eret rfl rfl ⟨hI, (show f 10606 = (f 10606) by omega)⟩
  · refine am_raload_n rfl rfl rfl ?_
    refine am_rdup rfl rfl ?_
    have q3 := am_Ig11407 hI
    refine am_rgetf (S1 := [am_iv (f 11407), .ref 114]) rfl rfl ?_
    refine am_riload_n rfl rfl rfl ?_
    have q4 := am_or_rg (f 11407) y1
    refine am_rior rfl ?_
    refine am_rputf (S1 := []) (h1 := am_enc (am_ud f 11407 (am_or (f 11407) y1)) a w e) rfl (am_pfB rfl am_ge114 rfl (am_sf11407 _)) (by rw [am_enc_len, am_enc_len]) ?_
    have J5 := am_If11407 (v := am_or (f 11407) y1) hI (by omega) (by omega)
    have q6 := am_Ig10606 hI
    exact am_eret rfl rfl ⟨J5, (show f 10606 = (f 10606) by omega)⟩
set_option maxRecDepth 100000 in
set_option maxHeartbeats 4000000 in
theorem am_ct19_16 {X : List Value} {w : Value} {e : Nat} {g : aF} {h : aA} {p : Bool} {d : Nat} (hd : 3 ≤ d + 1) (n : Nat) :
    ∀ {f : aF} {a : aA} {x1 : Int}, (26 - x1).toNat < n → am_IV p g h f a → (-2147483648 ≤ x1 ∧ x1 ≤ 2147483647) → 0 ≤ x1 → am_TE X (d + 1) am_m19 16 [(0, .ref 114), (1, am_iv x1)] [] f a w e (am_QV (fun f1 a1 => am_IV p g h f1 a1)) (am_EC g h) := by
  induction n with
  | zero => intros; omega
  | succ n ih =>
    intro f a x1 hn hI hp0 hp1
    refine am_riload_n rfl rfl rfl ?_
    refine am_rbipush rfl (by decide) ?_
    refine am_ric_ge rfl rfl (by unfold am_rg; omega) (by unfold am_rg; omega) (fun hc1 => ?_) (fun hc1 => ?_)
    · exact am_eret rfl rfl hI
    · refine am_raload_n rfl rfl rfl ?_
      refine am_rsipush rfl (by decide) ?_
      refine am_raload_n rfl rfl rfl ?_
      refine am_rgetf (S1 := [.ref 12, am_iv 512, .ref 114]) rfl rfl ?_
      refine am_rgetf (S1 := [.ref 13, am_iv 512, .ref 114]) rfl rfl ?_
      refine am_riload_n rfl rfl rfl ?_
      have hx3 : 0 ≤ x1 ∧ x1 < 26 := by omega
      have hM2 := am_isMx hx3.1 hx3.2
      refine am_raaload rfl (am_mods hx3.1 hx3.2) ?_
      refine am_evirtualI (m := am_m47) (As := [.ref (28 + 3 * (x1).toNat)]) (S1 := [am_iv 512, .ref 114]) rfl rfl rfl rfl rfl rfl rfl rfl (am_rcM hM2 rfl) rfl (am_TE.int (am_ct47 (c := (28 + 3 * (x1).toNat)) (by omega) hI hM2) (fun b4 f4 a4 hq5 => ?_) (fun _ _ _ h => h))
      obtain ⟨rfl, rfl, hq5⟩ := hq5
      refine am_rif_ne rfl rfl (by unfold am_rg; omega) (fun hc6 => ?_) (fun hc6 => ?_)
      · refine am_riconst rfl ?_
        have q7 := am_Ig10606 hI
        refine am_evirtualV (m := am_m18) (As := [.ref 114, am_iv 512, am_iv 0]) (S1 := []) rfl rfl rfl rfl rfl rfl rfl rfl rfl rfl (am_TE.void (am_ct18 (y1 := 512) (y2 := 0) (by omega) hI (by omega) (by omega)) (fun f8 a8 hq9 => ?_) (fun _ _ _ h => h))
        obtain ⟨hI10, hq9⟩ := hq9
        refine am_riinc (L1 := [(0, .ref 114), (1, am_iv (x1 + 1))]) rfl rfl rfl rfl rfl ?_
        refine am_rgoto rfl rfl ?_
        exact ih (by omega) hI10 (by omega) (by omega)
      · refine am_riconst rfl ?_
        refine am_rgoto rfl rfl ?_
        have q11 := am_Ig10606 hI
        refine am_evirtualV (m := am_m18) (As := [.ref 114, am_iv 512, am_iv 1]) (S1 := []) rfl rfl rfl rfl rfl rfl rfl rfl rfl rfl (am_TE.void (am_ct18 (y1 := 512) (y2 := 1) (by omega) hI (by omega) (by omega)) (fun f12 a12 hq13 => ?_) (fun _ _ _ h => h))
        obtain ⟨hI14, hq13⟩ := hq13
        refine am_riinc (L1 := [(0, .ref 114), (1, am_iv (x1 + 1))]) rfl rfl rfl rfl rfl ?_
        refine am_rgoto rfl rfl ?_
        exact ih (by omega) hI14 (by omega) (by omega)
set_option maxRecDepth 100000 in
set_option maxHeartbeats 4000000 in
theorem am_ct19 {X : List Value} {w : Value} {e : Nat} {g : aF} {h : aA} {p : Bool} {d : Nat} {f : aF} {a : aA} (hd : 3 ≤ d) (hI : am_IV p g h f a) :
    am_TE X d am_m19 0 (lv_args 0 [.ref 114]) [] f a w e (am_QV (fun f1 a1 => am_IV p g h f1 a1)) (am_EC g h) := by
  obtain ⟨d, rfl⟩ : ∃ d0, d = d0 + 1 := ⟨d - 1, by omega⟩
  refine am_raload_n rfl rfl rfl ?_
  refine am_rsipush rfl (by decide) ?_
  refine am_raload_n rfl rfl rfl ?_
  refine am_rgetf (S1 := [.ref 12, am_iv 1024, .ref 114]) rfl rfl ?_
  have q1 := am_Ig1208 hI
  refine am_rgetf (S1 := [am_iv (f 1208), am_iv 1024, .ref 114]) rfl rfl ?_
  have q2 := am_Ig10606 hI
  refine am_evirtualV (m := am_m18) (As := [.ref 114, am_iv 1024, am_iv (f 1208)]) (S1 := []) rfl rfl rfl rfl rfl rfl rfl rfl rfl rfl (am_TE.void (am_ct18 (y1 := 1024) (y2 := (f 1208)) (by omega) hI (by omega) (by omega)) (fun f3 a3 hq4 => ?_) (fun _ _ _ h => h))
  obtain ⟨hI5, hq4⟩ := hq4
  refine am_riconst rfl ?_
  refine am_ristore_n (L1 := [(0, .ref 114), (1, am_iv 0)]) rfl rfl rfl rfl rfl ?_
  exact am_ct19_16 hd (_ + 1) (Nat.lt_succ_self _) hI5 (by omega) (by omega)
set_option maxRecDepth 100000 in
set_option maxHeartbeats 4000000 in
theorem am_ct21 {X : List Value} {w : Value} {e : Nat} {g : aF} {h : aA} {p : Bool} {E : Nat → aF → aA → Prop} {d : Nat} {y1 : Int} {f : aF} {a : aA} (hd : 1 ≤ d) (hI : am_IV p g h f a) (hp0 : (-2147483648 ≤ y1 ∧ y1 ≤ 2147483647)) (hp1 : 97 ≤ y1) (hp2 : y1 ≤ 122) :
    am_TE X d am_m21 0 (lv_args 0 [.ref 114, am_iv y1]) [] f a w e (am_QR (fun b f1 a1 => f = f1 ∧ a = a1 ∧ am_isM b)) E := by
  obtain ⟨d, rfl⟩ : ∃ d0, d = d0 + 1 := ⟨d - 1, by omega⟩
  refine am_raload_n rfl rfl rfl ?_
  refine am_rgetf (S1 := [.ref 12]) rfl rfl ?_
  refine am_rgetf (S1 := [.ref 13]) rfl rfl ?_
  refine am_riload_n rfl rfl rfl ?_
  refine am_rbipush rfl (by decide) ?_
  refine am_risub rfl ?_
  have hx2 : 0 ≤ (y1 - 97) ∧ (y1 - 97) < 26 := by omega
  have hM1 := am_isMx hx2.1 hx2.2
  refine am_raaload rfl (am_mods hx2.1 hx2.2) ?_
  exact am_earet rfl rfl ⟨rfl, rfl, hM1⟩
set_option maxRecDepth 100000 in
set_option maxHeartbeats 4000000 in
theorem am_ct26_4 {X : List Value} {w : Value} {e : Nat} {g : aF} {h : aA} {p : Bool} {E : Nat → aF → aA → Prop} {d : Nat} (hd : 1 ≤ d + 1) (n : Nat) :
    ∀ {f : aF} {a : aA} {x2 : Int} {x3 : Int}, (f 10606 - x3).toNat < n → am_IV p g h f a → (-2147483648 ≤ x2 ∧ x2 ≤ 2147483647) → (-2147483648 ≤ x3 ∧ x3 ≤ 2147483647) → 1 ≤ x3 → am_TE X (d + 1) am_m26 4 [(0, .ref 114), (2, am_iv x2), (3, am_iv x3)] [] f a w e (am_QI (fun b f1 a1 => f = f1 ∧ a = a1 ∧ (b = 0 ∨ b = 1))) E := by
  induction n with
  | zero => intros; omega
  | succ n ih =>
    intro f a x2 x3 hn hI hp0 hp1 hp2
    have q1 := am_Ig10606 hI
    refine am_riload_n rfl rfl rfl ?_
    refine am_raload_n rfl rfl rfl ?_
    refine am_rgetf (S1 := [.ref 106, am_iv x3]) rfl rfl ?_
    refine am_rgetf (S1 := [am_iv (f 10606), am_iv x3]) rfl rfl ?_
    refine am_ric_ge rfl rfl (by unfold am_rg; omega) (by unfold am_rg; omega) (fun hc2 => ?_) (fun hc2 => ?_)
    · refine am_riconst rfl ?_
      exact am_ebret rfl rfl (by omega) ⟨rfl, rfl, (show ((0 : Int) = 0 ∨ (0 : Int) = 1) by omega)⟩
    · refine am_raload_n rfl rfl rfl ?_
      refine am_rgetf (S1 := [.ref 106]) rfl rfl ?_
      refine am_rgetf (S1 := [.ref 107]) rfl rfl ?_
      refine am_riload_n rfl rfl rfl ?_
      have q3 : (a 107).length = 200 := am_Ll107 (am_IL 107 rfl hI)
      have i4 : am_ib (a 107) x3 := by unfold am_ib; omega
      have q5 := am_Lb107 (am_IL 107 rfl hI) i4
      refine am_riaload (l := a 107) rfl am_ge107 i4 ?_
      refine am_riconst rfl ?_
      refine am_ric_ne rfl rfl (by unfold am_rg; omega) (by unfold am_rg; omega) (fun hc6 => ?_) (fun hc6 => ?_)
      · refine am_riconst rfl ?_
        exact am_ebret rfl rfl (by omega) ⟨rfl, rfl, (show ((0 : Int) = 0 ∨ (0 : Int) = 1) by omega)⟩
      · refine am_raload_n rfl rfl rfl ?_
        refine am_rgetf (S1 := [.ref 106]) rfl rfl ?_
        refine am_rgetf (S1 := [.ref 111]) rfl rfl ?_
        refine am_riload_n rfl rfl rfl ?_
        have q7 : (a 111).length = 200 := am_Ll111 (am_IL 111 rfl hI)
        have i8 : am_ib (a 111) x3 := by unfold am_ib; omega
        have q9 := am_Lb111 (am_IL 111 rfl hI) i8
        refine am_riaload (l := a 111) rfl am_ge111 i8 ?_
        refine am_riload_n rfl rfl rfl ?_
        refine am_ric_ne rfl rfl (by unfold am_rg; omega) (by unfold am_rg; omega) (fun hc10 => ?_) (fun hc10 => ?_)
        · refine am_riinc (L1 := [(0, .ref 114), (2, am_iv x2), (3, am_iv (x3 + 1))]) rfl rfl rfl rfl rfl ?_
          refine am_rgoto rfl rfl ?_
          exact ih (by omega) hI (by omega) (by omega) (by omega)
        · refine am_riconst rfl ?_
          exact am_ebret rfl rfl (by omega) ⟨rfl, rfl, (show ((1 : Int) = 0 ∨ (1 : Int) = 1) by omega)⟩
set_option maxRecDepth 100000 in
set_option maxHeartbeats 4000000 in
theorem am_ct26 {X : List Value} {w : Value} {e : Nat} {g : aF} {h : aA} {p : Bool} {E : Nat → aF → aA → Prop} {d : Nat} {y1 : Int} {y2 : Int} {f : aF} {a : aA} (hd : 1 ≤ d) (hI : am_IV p g h f a) (hp0 : (-2147483648 ≤ y1 ∧ y1 ≤ 2147483647)) (hp1 : (-2147483648 ≤ y2 ∧ y2 ≤ 2147483647)) (hp2 : 0 ≤ y1) (hp3 : y1 < 200) :
    am_TE X d am_m26 0 (lv_args 0 [.ref 114, am_iv y1, am_iv y2]) [] f a w e (am_QI (fun b f1 a1 => f = f1 ∧ a = a1 ∧ (b = 0 ∨ b = 1))) E := by
  obtain ⟨d, rfl⟩ : ∃ d0, d = d0 + 1 := ⟨d - 1, by omega⟩
  refine am_riload_n rfl rfl rfl ?_
  refine am_riconst rfl ?_
  refine am_riadd rfl ?_
  refine am_ristore_n (L1 := [(0, .ref 114), (1, am_iv y1), (2, am_iv y2), (3, am_iv (y1 + 1))]) rfl rfl rfl rfl rfl ?_
  exact am_T.drop (L1 := [(0, .ref 114), (2, am_iv y2), (3, am_iv (y1 + 1))]) (am_ct26_4 hd (_ + 1) (Nat.lt_succ_self _) hI (by omega) (by omega) (by omega)) (by simp)
set_option maxRecDepth 100000 in
set_option maxHeartbeats 4000000 in
theorem am_ct25_2 {X : List Value} {w : Value} {e : Nat} {g : aF} {h : aA} {p : Bool} {d : Nat} (hd : 2 ≤ d + 1) (n : Nat) :
    ∀ {f : aF} {a : aA} {x1 : Int} {x2 : Int}, (45 - x2).toNat < n → am_IV p g h f a → (-2147483648 ≤ x1 ∧ x1 ≤ 2147483647) → (-2147483648 ≤ x2 ∧ x2 ≤ 2147483647) → 0 ≤ x2 → 0 ≤ x1 → x1 < 200 → am_TE X (d + 1) am_m25 2 [(0, .ref 114), (1, am_iv x1), (2, am_iv x2)] [] f a w e (am_QV (fun f1 a1 => am_IV p g h f1 a1)) (am_EC g h) := by
  induction n with
  | zero => intros; omega
  | succ n ih =>
    intro f a x1 x2 hn hI hp0 hp1 hp2 hp3 hp4
    refine am_riload_n rfl rfl rfl ?_
    refine am_raload_n rfl rfl rfl ?_
    refine am_rgetf (S1 := [.ref 17, am_iv x2]) rfl rfl ?_
    have q1 := am_Ig1709 hI
    refine am_rgetf (S1 := [am_iv (f 1709), am_iv x2]) rfl rfl ?_
    refine am_ric_ge rfl rfl (by unfold am_rg; omega) (by unfold am_rg; omega) (fun hc2 => ?_) (fun hc2 => ?_)
    · exact am_eret rfl rfl hI
    · refine am_raload_n rfl rfl rfl ?_
      refine am_rgetf (S1 := [.ref 17]) rfl rfl ?_
      refine am_rgetf (S1 := [.ref 18]) rfl rfl ?_
      refine am_riload_n rfl rfl rfl ?_
      have q3 : (a 18).length = 45 := am_Ll18 (am_IL 18 rfl hI)
      have i4 : am_ib (a 18) x2 := by unfold am_ib; omega
      have q5 := am_Lb18 (am_IL 18 rfl hI) i4
      refine am_riaload (l := a 18) rfl am_ge18 i4 ?_
      refine am_raload_n rfl rfl rfl ?_
      refine am_rgetf (S1 := [.ref 106, am_iv (am_at (a 18) x2)]) rfl rfl ?_
      refine am_rgetf (S1 := [.ref 108, am_iv (am_at (a 18) x2)]) rfl rfl ?_
      refine am_riload_n rfl rfl rfl ?_
      have q6 : (a 108).length = 200 := am_Ll108 (am_IL 108 rfl hI)
      have i7 : am_ib (a 108) x1 := by unfold am_ib; omega
      have q8 := am_Lb108 (am_IL 108 rfl hI) i7
      refine am_riaload (l := a 108) rfl am_ge108 i7 ?_
      refine am_ric_ne rfl rfl (by unfold am_rg; omega) (by unfold am_rg; omega) (fun hc9 => ?_) (fun hc9 => ?_)
      · refine am_riinc (L1 := [(0, .ref 114), (1, am_iv x1), (2, am_iv (x2 + 1))]) rfl rfl rfl rfl rfl ?_
        refine am_rgoto rfl rfl ?_
        exact ih (by omega) hI (by omega) (by omega) (by omega) (by omega) (by omega)
      · refine am_raload_n rfl rfl rfl ?_
        refine am_rgetf (S1 := [.ref 17]) rfl rfl ?_
        refine am_rgetf (S1 := [.ref 21]) rfl rfl ?_
        refine am_riload_n rfl rfl rfl ?_
        have q10 : (a 21).length = 45 := am_Ll21 (am_IL 21 rfl hI)
        have i11 : am_ib (a 21) x2 := by unfold am_ib; omega
        have q12 := am_Lb21 (am_IL 21 rfl hI) i11
        refine am_riaload (l := a 21) rfl am_ge21 i11 ?_
        refine am_riconst rfl ?_
        refine am_ric_ne rfl rfl (by unfold am_rg; omega) (by unfold am_rg; omega) (fun hc13 => ?_) (fun hc13 => ?_)
        · refine am_riinc (L1 := [(0, .ref 114), (1, am_iv x1), (2, am_iv (x2 + 1))]) rfl rfl rfl rfl rfl ?_
          refine am_rgoto rfl rfl ?_
          exact ih (by omega) hI (by omega) (by omega) (by omega) (by omega) (by omega)
        · refine am_raload_n rfl rfl rfl ?_
          refine am_rbipush rfl (by decide) ?_
          refine am_raload_n rfl rfl rfl ?_
          refine am_riload_n rfl rfl rfl ?_
          refine am_riload_n rfl rfl rfl ?_
          refine am_evirtualI (m := am_m26) (As := [.ref 114, am_iv x1, am_iv x2]) (S1 := [am_iv 16, .ref 114]) rfl rfl rfl rfl rfl rfl rfl rfl rfl rfl (am_TE.int (am_ct26 (y1 := x1) (y2 := x2) (by omega) hI (by omega) (by omega) (by omega) (by omega)) (fun b14 f14 a14 hq15 => ?_) (fun _ _ _ h => h))
          obtain ⟨rfl, rfl, hq15⟩ := hq15
          refine am_rif_ne rfl rfl (by unfold am_rg; omega) (fun hc16 => ?_) (fun hc16 => ?_)
          · refine am_riconst rfl ?_
            have q17 := am_Ig10606 hI
            refine am_evirtualV (m := am_m18) (As := [.ref 114, am_iv 16, am_iv 0]) (S1 := []) rfl rfl rfl rfl rfl rfl rfl rfl rfl rfl (am_TE.void (am_ct18 (y1 := 16) (y2 := 0) (by omega) hI (by omega) (by omega)) (fun f18 a18 hq19 => ?_) (fun _ _ _ h => h))
            obtain ⟨hI20, hq19⟩ := hq19
            refine am_riinc (L1 := [(0, .ref 114), (1, am_iv x1), (2, am_iv (x2 + 1))]) rfl rfl rfl rfl rfl ?_
            refine am_rgoto rfl rfl ?_
            exact ih (by omega) hI20 (by omega) (by omega) (by omega) (by omega) (by omega)
          · refine am_riconst rfl ?_
            refine am_rgoto rfl rfl ?_
            have q21 := am_Ig10606 hI
            refine am_evirtualV (m := am_m18) (As := [.ref 114, am_iv 16, am_iv 1]) (S1 := []) rfl rfl rfl rfl rfl rfl rfl rfl rfl rfl (am_TE.void (am_ct18 (y1 := 16) (y2 := 1) (by omega) hI (by omega) (by omega)) (fun f22 a22 hq23 => ?_) (fun _ _ _ h => h))
            obtain ⟨hI24, hq23⟩ := hq23
            refine am_riinc (L1 := [(0, .ref 114), (1, am_iv x1), (2, am_iv (x2 + 1))]) rfl rfl rfl rfl rfl ?_
            refine am_rgoto rfl rfl ?_
            exact ih (by omega) hI24 (by omega) (by omega) (by omega) (by omega) (by omega)
set_option maxRecDepth 100000 in
set_option maxHeartbeats 4000000 in
theorem am_ct25 {X : List Value} {w : Value} {e : Nat} {g : aF} {h : aA} {p : Bool} {d : Nat} {y1 : Int} {f : aF} {a : aA} (hd : 2 ≤ d) (hI : am_IV p g h f a) (hp0 : (-2147483648 ≤ y1 ∧ y1 ≤ 2147483647)) (hp1 : 0 ≤ y1) (hp2 : y1 < 200) :
    am_TE X d am_m25 0 (lv_args 0 [.ref 114, am_iv y1]) [] f a w e (am_QV (fun f1 a1 => am_IV p g h f1 a1)) (am_EC g h) := by
  obtain ⟨d, rfl⟩ : ∃ d0, d = d0 + 1 := ⟨d - 1, by omega⟩
  refine am_riconst rfl ?_
  refine am_ristore_n (L1 := [(0, .ref 114), (1, am_iv y1), (2, am_iv 0)]) rfl rfl rfl rfl rfl ?_
  exact am_ct25_2 hd (_ + 1) (Nat.lt_succ_self _) hI (by omega) (by omega) (by omega) (by omega) (by omega)
set_option maxRecDepth 100000 in
set_option maxHeartbeats 4000000 in
theorem am_ct22 {X : List Value} {w : Value} {e : Nat} {g : aF} {h : aA} {p : Bool} {d : Nat} {y1 : Int} {f : aF} {a : aA} (hd : 3 ≤ d) (hI : am_IV p g h f a) (hp0 : (-2147483648 ≤ y1 ∧ y1 ≤ 2147483647)) (hp1 : 0 ≤ y1) (hp2 : y1 < f 10606) (hp3 : am_at (a 107) y1 = 1) :
    am_TE X d am_m22 0 (lv_args 0 [.ref 114, am_iv y1]) [] f a w e (am_QV (fun f1 a1 => am_IV p g h f1 a1)) (am_EC g h) := by
  obtain ⟨d, rfl⟩ : ∃ d0, d = d0 + 1 := ⟨d - 1, by omega⟩
  have q1 := am_Ig10606 hI
  refine am_raload_n rfl rfl rfl ?_
  refine am_rgetf (S1 := [.ref 106]) rfl rfl ?_
  refine am_rgetf (S1 := [.ref 108]) rfl rfl ?_
  refine am_riload_n rfl rfl rfl ?_
  have q2 : (a 108).length = 200 := am_Ll108 (am_IL 108 rfl hI)
  have i3 : am_ib (a 108) y1 := by unfold am_ib; omega
  have q4 := am_Lb108 (am_IL 108 rfl hI) i3
  have r5 := hI.2.2.2.2.1 y1 (by omega) (by omega) (by omega)
  refine am_riaload (l := a 108) rfl am_ge108 i3 ?_
  refine am_ristore_n (L1 := [(0, .ref 114), (1, am_iv y1), (2, am_iv (am_at (a 108) y1))]) rfl rfl rfl rfl rfl ?_
  refine am_raload_n rfl rfl rfl ?_
  have q5 := am_Ig11406 hI
  refine am_rgetf (S1 := [am_iv (f 11406)]) rfl rfl ?_
  refine am_rif_ne rfl rfl (by unfold am_rg; omega) (fun hc6 => ?_) (fun hc6 => ?_)
  · refine am_raload_n rfl rfl rfl ?_
    refine am_rgetf (S1 := [.ref 116]) rfl rfl ?_
    refine am_raload_n rfl rfl rfl ?_
    refine am_rgetf (S1 := [am_iv (f 11406), .ref 116]) rfl rfl ?_
    refine am_riconst rfl ?_
    refine am_risub rfl ?_
    refine am_raload_n rfl rfl rfl ?_
    refine am_raload_n rfl rfl rfl ?_
    refine am_rgetf (S1 := [.ref 115, .ref 114, am_iv ((f 11406) - 1), .ref 116]) rfl rfl ?_
    refine am_raload_n rfl rfl rfl ?_
    refine am_rgetf (S1 := [am_iv (f 11406), .ref 115, .ref 114, am_iv ((f 11406) - 1), .ref 116]) rfl rfl ?_
    refine am_riconst rfl ?_
    refine am_risub rfl ?_
    have q7 : (a 115).length = 16 := am_Ll115 (am_IL 115 rfl hI)
    have i8 : am_ib (a 115) ((f 11406) - 1) := by unfold am_ib; omega
    have q9 := am_Lb115 (am_IL 115 rfl hI) i8
    have r6 := hI.2.2.2.2.2.1 ((f 11406) - 1) (by omega) (by omega)
    refine am_riaload (l := a 115) rfl am_ge115 i8 ?_
    refine am_evirtualR (m := am_m21) (As := [.ref 114, am_iv (am_at (a 115) ((f 11406) - 1))]) (S1 := [am_iv ((f 11406) - 1), .ref 116]) rfl rfl rfl rfl rfl rfl rfl rfl rfl rfl (am_TE.refr (am_ct21 (y1 := (am_at (a 115) ((f 11406) - 1))) (by omega) hI (by omega) (by omega) (by omega)) (fun b10 f10 a10 hq11 => ?_) (fun _ _ _ h => h))
    obtain ⟨rfl, rfl, hq11⟩ := hq11
    refine am_raload_n rfl rfl rfl ?_
    refine am_rgetf (S1 := [.ref 116, .ref (b10), am_iv ((f 11406) - 1), .ref 116]) rfl rfl ?_
    refine am_raload_n rfl rfl rfl ?_
    refine am_rgetf (S1 := [am_iv (f 11406), .ref 116, .ref (b10), am_iv ((f 11406) - 1), .ref 116]) rfl rfl ?_
    refine am_riconst rfl ?_
    refine am_risub rfl ?_
    have q12 : (a 116).length = 16 := am_Ll116 (am_IL 116 rfl hI)
    have i13 : am_ib (a 116) ((f 11406) - 1) := by unfold am_ib; omega
    have q14 := am_Lb116 (am_IL 116 rfl hI) i13
    refine am_riaload (l := a 116) rfl am_ge116 i13 ?_
    refine am_riload_n rfl rfl rfl ?_
    refine am_evirtualI (m := am_m49) (As := [.ref (b10), am_iv (am_at (a 116) ((f 11406) - 1)), am_iv (am_at (a 108) y1)]) (S1 := [am_iv ((f 11406) - 1), .ref 116]) rfl rfl rfl rfl rfl rfl rfl rfl (am_rcM hq11 rfl) rfl (am_TE.int (am_ct49 (c := b10) (y1 := (am_at (a 116) ((f 11406) - 1))) (y2 := (am_at (a 108) y1)) (by omega) hI hq11 (by omega) (by omega)) (fun b15 f15 a15 hq16 => ?_) (fun _ _ _ h => h))
    obtain ⟨rfl, rfl, hq16⟩ := hq16
    have i17 : am_ib (a 116) ((f 11406) - 1) := by unfold am_ib; omega
    have hl18 : am_LN 116 ((a 116).set ((f 11406) - 1).toNat b15) := am_LS116 (am_IL 116 rfl hI) (by omega) (by omega)
    refine am_riastore (l := a 116) (h1 := am_enc f (am_ud a 116 ((a 116).set ((f 11406) - 1).toNat b15)) w e) rfl am_ge116 i17 (am_sa116 _) ?_
    refine am_raload_n rfl rfl rfl ?_
    refine am_riconst rfl ?_
    refine am_raload_n rfl rfl rfl ?_
    refine am_riload_n rfl rfl rfl ?_
    have J19 := am_Ia116 hI hl18
    refine am_evirtualR (m := am_m21) (As := [.ref 114, am_iv (am_at (a 108) y1)]) (S1 := [am_iv 2, .ref 114]) rfl rfl rfl rfl rfl rfl rfl rfl rfl rfl (am_TE.refr (am_ct21 (y1 := (am_at (a 108) y1)) (by omega) J19 (by omega) (by omega) (by omega)) (fun b20 f20 a20 hq21 => ?_) (fun _ _ _ h => h))
    obtain ⟨rfl, rfl, hq21⟩ := hq21
    have q22 := am_IgM0 hq21 hI
    refine am_rgetf rfl (am_gfM0 hq21 rfl) ?_
    refine am_rif_ne rfl rfl (by unfold am_rg; omega) (fun hc23 => ?_) (fun hc23 => ?_)
    · refine am_riconst rfl ?_
      have J24 := am_Ia116 hI hl18
      refine am_evirtualV (m := am_m18) (As := [.ref 114, am_iv 2, am_iv 0]) (S1 := []) rfl rfl rfl rfl rfl rfl rfl rfl rfl rfl (am_TE.void (am_ct18 (y1 := 2) (y2 := 0) (by omega) J24 (by omega) (by omega)) (fun f25 a25 hq26 => ?_) (fun _ _ _ h => h))
      obtain ⟨hI27, hq26⟩ := hq26
      refine am_raload_n rfl rfl rfl ?_
      refine am_riload_n rfl rfl rfl ?_
      refine am_evirtualV (m := am_m25) (As := [.ref 114, am_iv y1]) (S1 := []) rfl rfl rfl rfl rfl rfl rfl rfl rfl rfl (am_TE.void (am_ct25 (y1 := y1) (by omega) hI27 (by omega) (by omega) (by omega)) (fun f28 a28 hq29 => ?_) (fun _ _ _ h => h))
      have hI30 := hq29
      refine am_raload_n rfl rfl rfl ?_
      have q31 := am_Ig11406 hI30
      refine am_rgetf (S1 := [am_iv (f28 11406)]) rfl rfl ?_
      refine am_rbipush rfl (by decide) ?_
      refine am_ric_ge rfl rfl (by unfold am_rg; omega) (by unfold am_rg; omega) (fun hc32 => ?_) (fun hc32 => ?_)
      · exact am_eret rfl rfl hI30
      · refine am_raload_n rfl rfl rfl ?_
        refine am_rgetf (S1 := [.ref 115]) rfl rfl ?_
        refine am_raload_n rfl rfl rfl ?_
        refine am_rgetf (S1 := [am_iv (f28 11406), .ref 115]) rfl rfl ?_
        refine am_riload_n rfl rfl rfl ?_
        have q33 : (a28 115).length = 16 := am_Ll115 (am_IL 115 rfl hI30)
        have i34 : am_ib (a28 115) (f28 11406) := by unfold am_ib; omega
        have hl35 : am_LN 115 ((a28 115).set (f28 11406).toNat (am_at (a 108) y1)) := am_LS115 (am_IL 115 rfl hI30) (by omega) (by omega)
        refine am_riastore (l := a28 115) (h1 := am_enc f28 (am_ud a28 115 ((a28 115).set (f28 11406).toNat (am_at (a 108) y1))) w e) rfl am_ge115 i34 (am_sa115 _) ?_
        refine am_raload_n rfl rfl rfl ?_
        refine am_rgetf (S1 := [.ref 116]) rfl rfl ?_
        refine am_raload_n rfl rfl rfl ?_
        refine am_rgetf (S1 := [am_iv (f28 11406), .ref 116]) rfl rfl ?_
        refine am_riconst rfl ?_
        have q36 : (a28 116).length = 16 := am_Ll116 (am_IL 116 rfl hI30)
        have i37 : am_ib (a28 116) (f28 11406) := by unfold am_ib; omega
        have hl38 : am_LN 116 ((a28 116).set (f28 11406).toNat 1) := am_LS116 (am_IL 116 rfl hI30) (by omega) (by omega)
        refine am_riastore (l := a28 116) (h1 := am_enc f28 (am_ud (am_ud a28 115 ((a28 115).set (f28 11406).toNat (am_at (a 108) y1))) 116 ((a28 116).set (f28 11406).toNat 1)) w e) rfl am_ge116 i37 (am_sa116 _) ?_
        refine am_raload_n rfl rfl rfl ?_
        refine am_rdup rfl rfl ?_
        refine am_rgetf (S1 := [am_iv (f28 11406), .ref 114]) rfl rfl ?_
        refine am_riconst rfl ?_
        refine am_riadd rfl ?_
        refine am_rputf (S1 := []) (h1 := am_enc (am_ud f28 11406 ((f28 11406) + 1)) (am_ud (am_ud a28 115 ((a28 115).set (f28 11406).toNat (am_at (a 108) y1))) 116 ((a28 116).set (f28 11406).toNat 1)) w e) rfl (am_pfB rfl am_ge114 rfl (am_sf11406 _)) (by rw [am_enc_len, am_enc_len]) ?_
        have J39 := am_Jf11406 (v := (f28 11406) + 1) hI30.1 (by omega) (by omega)
        have J40 := am_Ja115 J39 hl35
        have J41 := am_Ja116 J40 hl38
        have J42 : am_IV p g h (am_ud f28 11406 ((f28 11406) + 1)) (am_ud (am_ud a28 115 ((a28 115).set (f28 11406).toNat (am_at (a 108) y1))) 116 ((a28 116).set (f28 11406).toNat 1)) := ⟨J41, by
            exact ⟨hI30.2.1, hI30.2.2.1, hI30.2.2.2.1, hI30.2.2.2.2.1, am_R6_push hI30.2.2.2.2.2.1 (by omega) (by assumption) (by omega), hI30.2.2.2.2.2.2⟩
          ⟩
        exact am_eret rfl rfl J42
    · refine am_riconst rfl ?_
      refine am_rgoto rfl rfl ?_
      have J43 := am_Ia116 hI hl18
      refine am_evirtualV (m := am_m18) (As := [.ref 114, am_iv 2, am_iv 1]) (S1 := []) rfl rfl rfl rfl rfl rfl rfl rfl rfl rfl (am_TE.void (am_ct18 (y1 := 2) (y2 := 1) (by omega) J43 (by omega) (by omega)) (fun f44 a44 hq45 => ?_) (fun _ _ _ h => h))
      obtain ⟨hI46, hq45⟩ := hq45
      refine am_raload_n rfl rfl rfl ?_
      refine am_riload_n rfl rfl rfl ?_
      refine am_evirtualV (m := am_m25) (As := [.ref 114, am_iv y1]) (S1 := []) rfl rfl rfl rfl rfl rfl rfl rfl rfl rfl (am_TE.void (am_ct25 (y1 := y1) (by omega) hI46 (by omega) (by omega) (by omega)) (fun f47 a47 hq48 => ?_) (fun _ _ _ h => h))
      have hI49 := hq48
      refine am_raload_n rfl rfl rfl ?_
      have q50 := am_Ig11406 hI49
      refine am_rgetf (S1 := [am_iv (f47 11406)]) rfl rfl ?_
      refine am_rbipush rfl (by decide) ?_
      refine am_ric_ge rfl rfl (by unfold am_rg; omega) (by unfold am_rg; omega) (fun hc51 => ?_) (fun hc51 => ?_)
      · exact am_eret rfl rfl hI49
      · refine am_raload_n rfl rfl rfl ?_
        refine am_rgetf (S1 := [.ref 115]) rfl rfl ?_
        refine am_raload_n rfl rfl rfl ?_
        refine am_rgetf (S1 := [am_iv (f47 11406), .ref 115]) rfl rfl ?_
        refine am_riload_n rfl rfl rfl ?_
        have q52 : (a47 115).length = 16 := am_Ll115 (am_IL 115 rfl hI49)
        have i53 : am_ib (a47 115) (f47 11406) := by unfold am_ib; omega
        have hl54 : am_LN 115 ((a47 115).set (f47 11406).toNat (am_at (a 108) y1)) := am_LS115 (am_IL 115 rfl hI49) (by omega) (by omega)
        refine am_riastore (l := a47 115) (h1 := am_enc f47 (am_ud a47 115 ((a47 115).set (f47 11406).toNat (am_at (a 108) y1))) w e) rfl am_ge115 i53 (am_sa115 _) ?_
        refine am_raload_n rfl rfl rfl ?_
        refine am_rgetf (S1 := [.ref 116]) rfl rfl ?_
        refine am_raload_n rfl rfl rfl ?_
        refine am_rgetf (S1 := [am_iv (f47 11406), .ref 116]) rfl rfl ?_
        refine am_riconst rfl ?_
        have q55 : (a47 116).length = 16 := am_Ll116 (am_IL 116 rfl hI49)
        have i56 : am_ib (a47 116) (f47 11406) := by unfold am_ib; omega
        have hl57 : am_LN 116 ((a47 116).set (f47 11406).toNat 1) := am_LS116 (am_IL 116 rfl hI49) (by omega) (by omega)
        refine am_riastore (l := a47 116) (h1 := am_enc f47 (am_ud (am_ud a47 115 ((a47 115).set (f47 11406).toNat (am_at (a 108) y1))) 116 ((a47 116).set (f47 11406).toNat 1)) w e) rfl am_ge116 i56 (am_sa116 _) ?_
        refine am_raload_n rfl rfl rfl ?_
        refine am_rdup rfl rfl ?_
        refine am_rgetf (S1 := [am_iv (f47 11406), .ref 114]) rfl rfl ?_
        refine am_riconst rfl ?_
        refine am_riadd rfl ?_
        refine am_rputf (S1 := []) (h1 := am_enc (am_ud f47 11406 ((f47 11406) + 1)) (am_ud (am_ud a47 115 ((a47 115).set (f47 11406).toNat (am_at (a 108) y1))) 116 ((a47 116).set (f47 11406).toNat 1)) w e) rfl (am_pfB rfl am_ge114 rfl (am_sf11406 _)) (by rw [am_enc_len, am_enc_len]) ?_
        have J58 := am_Jf11406 (v := (f47 11406) + 1) hI49.1 (by omega) (by omega)
        have J59 := am_Ja115 J58 hl54
        have J60 := am_Ja116 J59 hl57
        have J61 : am_IV p g h (am_ud f47 11406 ((f47 11406) + 1)) (am_ud (am_ud a47 115 ((a47 115).set (f47 11406).toNat (am_at (a 108) y1))) 116 ((a47 116).set (f47 11406).toNat 1)) := ⟨J60, by
            exact ⟨hI49.2.1, hI49.2.2.1, hI49.2.2.2.1, hI49.2.2.2.2.1, am_R6_push hI49.2.2.2.2.2.1 (by omega) (by assumption) (by omega), hI49.2.2.2.2.2.2⟩
          ⟩
        exact am_eret rfl rfl J61
  · refine am_raload_n rfl rfl rfl ?_
    refine am_riconst rfl ?_
    refine am_riload_n rfl rfl rfl ?_
    refine am_raload_n rfl rfl rfl ?_
    refine am_rgetf (S1 := [.ref 12, am_iv (am_at (a 108) y1), am_iv 1, .ref 114]) rfl rfl ?_
    have q62 := am_Ig1207 hI
    refine am_rgetf (S1 := [am_iv (f 1207), am_iv (am_at (a 108) y1), am_iv 1, .ref 114]) rfl rfl ?_
    refine am_ric_eq rfl rfl (by unfold am_rg; omega) (by unfold am_rg; omega) (fun hc63 => ?_) (fun hc63 => ?_)
    · refine am_riconst rfl ?_
      refine am_evirtualV (m := am_m18) (As := [.ref 114, am_iv 1, am_iv 0]) (S1 := []) rfl rfl rfl rfl rfl rfl rfl rfl rfl rfl (am_TE.void (am_ct18 (y1 := 1) (y2 := 0) (by omega) hI (by omega) (by omega)) (fun f64 a64 hq65 => ?_) (fun _ _ _ h => h))
      obtain ⟨hI66, hq65⟩ := hq65
      refine am_rgoto rfl rfl ?_
      refine am_raload_n rfl rfl rfl ?_
      refine am_riconst rfl ?_
      refine am_raload_n rfl rfl rfl ?_
      refine am_riload_n rfl rfl rfl ?_
      refine am_evirtualR (m := am_m21) (As := [.ref 114, am_iv (am_at (a 108) y1)]) (S1 := [am_iv 2, .ref 114]) rfl rfl rfl rfl rfl rfl rfl rfl rfl rfl (am_TE.refr (am_ct21 (y1 := (am_at (a 108) y1)) (by omega) hI66 (by omega) (by omega) (by omega)) (fun b67 f67 a67 hq68 => ?_) (fun _ _ _ h => h))
      obtain ⟨rfl, rfl, hq68⟩ := hq68
      have q69 := am_IgM0 hq68 hI66
      refine am_rgetf rfl (am_gfM0 hq68 rfl) ?_
      refine am_rif_ne rfl rfl (by unfold am_rg; omega) (fun hc70 => ?_) (fun hc70 => ?_)
      · refine am_riconst rfl ?_
        have q71 := am_Ig10606 hI66
        refine am_evirtualV (m := am_m18) (As := [.ref 114, am_iv 2, am_iv 0]) (S1 := []) rfl rfl rfl rfl rfl rfl rfl rfl rfl rfl (am_TE.void (am_ct18 (y1 := 2) (y2 := 0) (by omega) hI66 (by omega) (by omega)) (fun f72 a72 hq73 => ?_) (fun _ _ _ h => h))
        obtain ⟨hI74, hq73⟩ := hq73
        refine am_raload_n rfl rfl rfl ?_
        refine am_riload_n rfl rfl rfl ?_
        refine am_evirtualV (m := am_m25) (As := [.ref 114, am_iv y1]) (S1 := []) rfl rfl rfl rfl rfl rfl rfl rfl rfl rfl (am_TE.void (am_ct25 (y1 := y1) (by omega) hI74 (by omega) (by omega) (by omega)) (fun f75 a75 hq76 => ?_) (fun _ _ _ h => h))
        have hI77 := hq76
        refine am_raload_n rfl rfl rfl ?_
        have q78 := am_Ig11406 hI77
        refine am_rgetf (S1 := [am_iv (f75 11406)]) rfl rfl ?_
        refine am_rbipush rfl (by decide) ?_
        refine am_ric_ge rfl rfl (by unfold am_rg; omega) (by unfold am_rg; omega) (fun hc79 => ?_) (fun hc79 => ?_)
        · exact am_eret rfl rfl hI77
        · refine am_raload_n rfl rfl rfl ?_
          refine am_rgetf (S1 := [.ref 115]) rfl rfl ?_
          refine am_raload_n rfl rfl rfl ?_
          refine am_rgetf (S1 := [am_iv (f75 11406), .ref 115]) rfl rfl ?_
          refine am_riload_n rfl rfl rfl ?_
          have q80 : (a75 115).length = 16 := am_Ll115 (am_IL 115 rfl hI77)
          have i81 : am_ib (a75 115) (f75 11406) := by unfold am_ib; omega
          have hl82 : am_LN 115 ((a75 115).set (f75 11406).toNat (am_at (a 108) y1)) := am_LS115 (am_IL 115 rfl hI77) (by omega) (by omega)
          refine am_riastore (l := a75 115) (h1 := am_enc f75 (am_ud a75 115 ((a75 115).set (f75 11406).toNat (am_at (a 108) y1))) w e) rfl am_ge115 i81 (am_sa115 _) ?_
          refine am_raload_n rfl rfl rfl ?_
          refine am_rgetf (S1 := [.ref 116]) rfl rfl ?_
          refine am_raload_n rfl rfl rfl ?_
          refine am_rgetf (S1 := [am_iv (f75 11406), .ref 116]) rfl rfl ?_
          refine am_riconst rfl ?_
          have q83 : (a75 116).length = 16 := am_Ll116 (am_IL 116 rfl hI77)
          have i84 : am_ib (a75 116) (f75 11406) := by unfold am_ib; omega
          have hl85 : am_LN 116 ((a75 116).set (f75 11406).toNat 1) := am_LS116 (am_IL 116 rfl hI77) (by omega) (by omega)
          refine am_riastore (l := a75 116) (h1 := am_enc f75 (am_ud (am_ud a75 115 ((a75 115).set (f75 11406).toNat (am_at (a 108) y1))) 116 ((a75 116).set (f75 11406).toNat 1)) w e) rfl am_ge116 i84 (am_sa116 _) ?_
          refine am_raload_n rfl rfl rfl ?_
          refine am_rdup rfl rfl ?_
          refine am_rgetf (S1 := [am_iv (f75 11406), .ref 114]) rfl rfl ?_
          refine am_riconst rfl ?_
          refine am_riadd rfl ?_
          refine am_rputf (S1 := []) (h1 := am_enc (am_ud f75 11406 ((f75 11406) + 1)) (am_ud (am_ud a75 115 ((a75 115).set (f75 11406).toNat (am_at (a 108) y1))) 116 ((a75 116).set (f75 11406).toNat 1)) w e) rfl (am_pfB rfl am_ge114 rfl (am_sf11406 _)) (by rw [am_enc_len, am_enc_len]) ?_
          have J86 := am_Jf11406 (v := (f75 11406) + 1) hI77.1 (by omega) (by omega)
          have J87 := am_Ja115 J86 hl82
          have J88 := am_Ja116 J87 hl85
          have J89 : am_IV p g h (am_ud f75 11406 ((f75 11406) + 1)) (am_ud (am_ud a75 115 ((a75 115).set (f75 11406).toNat (am_at (a 108) y1))) 116 ((a75 116).set (f75 11406).toNat 1)) := ⟨J88, by
              exact ⟨hI77.2.1, hI77.2.2.1, hI77.2.2.2.1, hI77.2.2.2.2.1, am_R6_push hI77.2.2.2.2.2.1 (by omega) (by assumption) (by omega), hI77.2.2.2.2.2.2⟩
            ⟩
          exact am_eret rfl rfl J89
      · refine am_riconst rfl ?_
        refine am_rgoto rfl rfl ?_
        have q90 := am_Ig10606 hI66
        refine am_evirtualV (m := am_m18) (As := [.ref 114, am_iv 2, am_iv 1]) (S1 := []) rfl rfl rfl rfl rfl rfl rfl rfl rfl rfl (am_TE.void (am_ct18 (y1 := 2) (y2 := 1) (by omega) hI66 (by omega) (by omega)) (fun f91 a91 hq92 => ?_) (fun _ _ _ h => h))
        obtain ⟨hI93, hq92⟩ := hq92
        refine am_raload_n rfl rfl rfl ?_
        refine am_riload_n rfl rfl rfl ?_
        refine am_evirtualV (m := am_m25) (As := [.ref 114, am_iv y1]) (S1 := []) rfl rfl rfl rfl rfl rfl rfl rfl rfl rfl (am_TE.void (am_ct25 (y1 := y1) (by omega) hI93 (by omega) (by omega) (by omega)) (fun f94 a94 hq95 => ?_) (fun _ _ _ h => h))
        have hI96 := hq95
        refine am_raload_n rfl rfl rfl ?_
        have q97 := am_Ig11406 hI96
        refine am_rgetf (S1 := [am_iv (f94 11406)]) rfl rfl ?_
        refine am_rbipush rfl (by decide) ?_
        refine am_ric_ge rfl rfl (by unfold am_rg; omega) (by unfold am_rg; omega) (fun hc98 => ?_) (fun hc98 => ?_)
        · exact am_eret rfl rfl hI96
        · refine am_raload_n rfl rfl rfl ?_
          refine am_rgetf (S1 := [.ref 115]) rfl rfl ?_
          refine am_raload_n rfl rfl rfl ?_
          refine am_rgetf (S1 := [am_iv (f94 11406), .ref 115]) rfl rfl ?_
          refine am_riload_n rfl rfl rfl ?_
          have q99 : (a94 115).length = 16 := am_Ll115 (am_IL 115 rfl hI96)
          have i100 : am_ib (a94 115) (f94 11406) := by unfold am_ib; omega
          have hl101 : am_LN 115 ((a94 115).set (f94 11406).toNat (am_at (a 108) y1)) := am_LS115 (am_IL 115 rfl hI96) (by omega) (by omega)
          refine am_riastore (l := a94 115) (h1 := am_enc f94 (am_ud a94 115 ((a94 115).set (f94 11406).toNat (am_at (a 108) y1))) w e) rfl am_ge115 i100 (am_sa115 _) ?_
          refine am_raload_n rfl rfl rfl ?_
          refine am_rgetf (S1 := [.ref 116]) rfl rfl ?_
          refine am_raload_n rfl rfl rfl ?_
          refine am_rgetf (S1 := [am_iv (f94 11406), .ref 116]) rfl rfl ?_
          refine am_riconst rfl ?_
          have q102 : (a94 116).length = 16 := am_Ll116 (am_IL 116 rfl hI96)
          have i103 : am_ib (a94 116) (f94 11406) := by unfold am_ib; omega
          have hl104 : am_LN 116 ((a94 116).set (f94 11406).toNat 1) := am_LS116 (am_IL 116 rfl hI96) (by omega) (by omega)
          refine am_riastore (l := a94 116) (h1 := am_enc f94 (am_ud (am_ud a94 115 ((a94 115).set (f94 11406).toNat (am_at (a 108) y1))) 116 ((a94 116).set (f94 11406).toNat 1)) w e) rfl am_ge116 i103 (am_sa116 _) ?_
          refine am_raload_n rfl rfl rfl ?_
          refine am_rdup rfl rfl ?_
          refine am_rgetf (S1 := [am_iv (f94 11406), .ref 114]) rfl rfl ?_
          refine am_riconst rfl ?_
          refine am_riadd rfl ?_
          refine am_rputf (S1 := []) (h1 := am_enc (am_ud f94 11406 ((f94 11406) + 1)) (am_ud (am_ud a94 115 ((a94 115).set (f94 11406).toNat (am_at (a 108) y1))) 116 ((a94 116).set (f94 11406).toNat 1)) w e) rfl (am_pfB rfl am_ge114 rfl (am_sf11406 _)) (by rw [am_enc_len, am_enc_len]) ?_
          have J105 := am_Jf11406 (v := (f94 11406) + 1) hI96.1 (by omega) (by omega)
          have J106 := am_Ja115 J105 hl101
          have J107 := am_Ja116 J106 hl104
          have J108 : am_IV p g h (am_ud f94 11406 ((f94 11406) + 1)) (am_ud (am_ud a94 115 ((a94 115).set (f94 11406).toNat (am_at (a 108) y1))) 116 ((a94 116).set (f94 11406).toNat 1)) := ⟨J107, by
              exact ⟨hI96.2.1, hI96.2.2.1, hI96.2.2.2.1, hI96.2.2.2.2.1, am_R6_push hI96.2.2.2.2.2.1 (by omega) (by assumption) (by omega), hI96.2.2.2.2.2.2⟩
            ⟩
          exact am_eret rfl rfl J108
    · refine am_riconst rfl ?_
      refine am_rgoto rfl rfl ?_
      refine am_evirtualV (m := am_m18) (As := [.ref 114, am_iv 1, am_iv 1]) (S1 := []) rfl rfl rfl rfl rfl rfl rfl rfl rfl rfl (am_TE.void (am_ct18 (y1 := 1) (y2 := 1) (by omega) hI (by omega) (by omega)) (fun f109 a109 hq110 => ?_) (fun _ _ _ h => h))
      obtain ⟨hI111, hq110⟩ := hq110
      refine am_rgoto rfl rfl ?_
      refine am_raload_n rfl rfl rfl ?_
      refine am_riconst rfl ?_
      refine am_raload_n rfl rfl rfl ?_
      refine am_riload_n rfl rfl rfl ?_
      refine am_evirtualR (m := am_m21) (As := [.ref 114, am_iv (am_at (a 108) y1)]) (S1 := [am_iv 2, .ref 114]) rfl rfl rfl rfl rfl rfl rfl rfl rfl rfl (am_TE.refr (am_ct21 (y1 := (am_at (a 108) y1)) (by omega) hI111 (by omega) (by omega) (by omega)) (fun b112 f112 a112 hq113 => ?_) (fun _ _ _ h => h))
      obtain ⟨rfl, rfl, hq113⟩ := hq113
      have q114 := am_IgM0 hq113 hI111
      refine am_rgetf rfl (am_gfM0 hq113 rfl) ?_
      refine am_rif_ne rfl rfl (by unfold am_rg; omega) (fun hc115 => ?_) (fun hc115 => ?_)
      · refine am_riconst rfl ?_
        have q116 := am_Ig10606 hI111
        refine am_evirtualV (m := am_m18) (As := [.ref 114, am_iv 2, am_iv 0]) (S1 := []) rfl rfl rfl rfl rfl rfl rfl rfl rfl rfl (am_TE.void (am_ct18 (y1 := 2) (y2 := 0) (by omega) hI111 (by omega) (by omega)) (fun f117 a117 hq118 => ?_) (fun _ _ _ h => h))
        obtain ⟨hI119, hq118⟩ := hq118
        refine am_raload_n rfl rfl rfl ?_
        refine am_riload_n rfl rfl rfl ?_
        refine am_evirtualV (m := am_m25) (As := [.ref 114, am_iv y1]) (S1 := []) rfl rfl rfl rfl rfl rfl rfl rfl rfl rfl (am_TE.void (am_ct25 (y1 := y1) (by omega) hI119 (by omega) (by omega) (by omega)) (fun f120 a120 hq121 => ?_) (fun _ _ _ h => h))
        have hI122 := hq121
        refine am_raload_n rfl rfl rfl ?_
        have q123 := am_Ig11406 hI122
        refine am_rgetf (S1 := [am_iv (f120 11406)]) rfl rfl ?_
        refine am_rbipush rfl (by decide) ?_
        refine am_ric_ge rfl rfl (by unfold am_rg; omega) (by unfold am_rg; omega) (fun hc124 => ?_) (fun hc124 => ?_)
        · exact am_eret rfl rfl hI122
        · refine am_raload_n rfl rfl rfl ?_
          refine am_rgetf (S1 := [.ref 115]) rfl rfl ?_
          refine am_raload_n rfl rfl rfl ?_
          refine am_rgetf (S1 := [am_iv (f120 11406), .ref 115]) rfl rfl ?_
          refine am_riload_n rfl rfl rfl ?_
          have q125 : (a120 115).length = 16 := am_Ll115 (am_IL 115 rfl hI122)
          have i126 : am_ib (a120 115) (f120 11406) := by unfold am_ib; omega
          have hl127 : am_LN 115 ((a120 115).set (f120 11406).toNat (am_at (a 108) y1)) := am_LS115 (am_IL 115 rfl hI122) (by omega) (by omega)
          refine am_riastore (l := a120 115) (h1 := am_enc f120 (am_ud a120 115 ((a120 115).set (f120 11406).toNat (am_at (a 108) y1))) w e) rfl am_ge115 i126 (am_sa115 _) ?_
          refine am_raload_n rfl rfl rfl ?_
          refine am_rgetf (S1 := [.ref 116]) rfl rfl ?_
          refine am_raload_n rfl rfl rfl ?_
          refine am_rgetf (S1 := [am_iv (f120 11406), .ref 116]) rfl rfl ?_
          refine am_riconst rfl ?_
          have q128 : (a120 116).length = 16 := am_Ll116 (am_IL 116 rfl hI122)
          have i129 : am_ib (a120 116) (f120 11406) := by unfold am_ib; omega
          have hl130 : am_LN 116 ((a120 116).set (f120 11406).toNat 1) := am_LS116 (am_IL 116 rfl hI122) (by omega) (by omega)
          refine am_riastore (l := a120 116) (h1 := am_enc f120 (am_ud (am_ud a120 115 ((a120 115).set (f120 11406).toNat (am_at (a 108) y1))) 116 ((a120 116).set (f120 11406).toNat 1)) w e) rfl am_ge116 i129 (am_sa116 _) ?_
          refine am_raload_n rfl rfl rfl ?_
          refine am_rdup rfl rfl ?_
          refine am_rgetf (S1 := [am_iv (f120 11406), .ref 114]) rfl rfl ?_
          refine am_riconst rfl ?_
          refine am_riadd rfl ?_
          refine am_rputf (S1 := []) (h1 := am_enc (am_ud f120 11406 ((f120 11406) + 1)) (am_ud (am_ud a120 115 ((a120 115).set (f120 11406).toNat (am_at (a 108) y1))) 116 ((a120 116).set (f120 11406).toNat 1)) w e) rfl (am_pfB rfl am_ge114 rfl (am_sf11406 _)) (by rw [am_enc_len, am_enc_len]) ?_
          have J131 := am_Jf11406 (v := (f120 11406) + 1) hI122.1 (by omega) (by omega)
          have J132 := am_Ja115 J131 hl127
          have J133 := am_Ja116 J132 hl130
          have J134 : am_IV p g h (am_ud f120 11406 ((f120 11406) + 1)) (am_ud (am_ud a120 115 ((a120 115).set (f120 11406).toNat (am_at (a 108) y1))) 116 ((a120 116).set (f120 11406).toNat 1)) := ⟨J133, by
              exact ⟨hI122.2.1, hI122.2.2.1, hI122.2.2.2.1, hI122.2.2.2.2.1, am_R6_push hI122.2.2.2.2.2.1 (by omega) (by assumption) (by omega), hI122.2.2.2.2.2.2⟩
            ⟩
          exact am_eret rfl rfl J134
      · refine am_riconst rfl ?_
        refine am_rgoto rfl rfl ?_
        have q135 := am_Ig10606 hI111
        refine am_evirtualV (m := am_m18) (As := [.ref 114, am_iv 2, am_iv 1]) (S1 := []) rfl rfl rfl rfl rfl rfl rfl rfl rfl rfl (am_TE.void (am_ct18 (y1 := 2) (y2 := 1) (by omega) hI111 (by omega) (by omega)) (fun f136 a136 hq137 => ?_) (fun _ _ _ h => h))
        obtain ⟨hI138, hq137⟩ := hq137
        refine am_raload_n rfl rfl rfl ?_
        refine am_riload_n rfl rfl rfl ?_
        refine am_evirtualV (m := am_m25) (As := [.ref 114, am_iv y1]) (S1 := []) rfl rfl rfl rfl rfl rfl rfl rfl rfl rfl (am_TE.void (am_ct25 (y1 := y1) (by omega) hI138 (by omega) (by omega) (by omega)) (fun f139 a139 hq140 => ?_) (fun _ _ _ h => h))
        have hI141 := hq140
        refine am_raload_n rfl rfl rfl ?_
        have q142 := am_Ig11406 hI141
        refine am_rgetf (S1 := [am_iv (f139 11406)]) rfl rfl ?_
        refine am_rbipush rfl (by decide) ?_
        refine am_ric_ge rfl rfl (by unfold am_rg; omega) (by unfold am_rg; omega) (fun hc143 => ?_) (fun hc143 => ?_)
        · exact am_eret rfl rfl hI141
        · refine am_raload_n rfl rfl rfl ?_
          refine am_rgetf (S1 := [.ref 115]) rfl rfl ?_
          refine am_raload_n rfl rfl rfl ?_
          refine am_rgetf (S1 := [am_iv (f139 11406), .ref 115]) rfl rfl ?_
          refine am_riload_n rfl rfl rfl ?_
          have q144 : (a139 115).length = 16 := am_Ll115 (am_IL 115 rfl hI141)
          have i145 : am_ib (a139 115) (f139 11406) := by unfold am_ib; omega
          have hl146 : am_LN 115 ((a139 115).set (f139 11406).toNat (am_at (a 108) y1)) := am_LS115 (am_IL 115 rfl hI141) (by omega) (by omega)
          refine am_riastore (l := a139 115) (h1 := am_enc f139 (am_ud a139 115 ((a139 115).set (f139 11406).toNat (am_at (a 108) y1))) w e) rfl am_ge115 i145 (am_sa115 _) ?_
          refine am_raload_n rfl rfl rfl ?_
          refine am_rgetf (S1 := [.ref 116]) rfl rfl ?_
          refine am_raload_n rfl rfl rfl ?_
          refine am_rgetf (S1 := [am_iv (f139 11406), .ref 116]) rfl rfl ?_
          refine am_riconst rfl ?_
          have q147 : (a139 116).length = 16 := am_Ll116 (am_IL 116 rfl hI141)
          have i148 : am_ib (a139 116) (f139 11406) := by unfold am_ib; omega
          have hl149 : am_LN 116 ((a139 116).set (f139 11406).toNat 1) := am_LS116 (am_IL 116 rfl hI141) (by omega) (by omega)
          refine am_riastore (l := a139 116) (h1 := am_enc f139 (am_ud (am_ud a139 115 ((a139 115).set (f139 11406).toNat (am_at (a 108) y1))) 116 ((a139 116).set (f139 11406).toNat 1)) w e) rfl am_ge116 i148 (am_sa116 _) ?_
          refine am_raload_n rfl rfl rfl ?_
          refine am_rdup rfl rfl ?_
          refine am_rgetf (S1 := [am_iv (f139 11406), .ref 114]) rfl rfl ?_
          refine am_riconst rfl ?_
          refine am_riadd rfl ?_
          refine am_rputf (S1 := []) (h1 := am_enc (am_ud f139 11406 ((f139 11406) + 1)) (am_ud (am_ud a139 115 ((a139 115).set (f139 11406).toNat (am_at (a 108) y1))) 116 ((a139 116).set (f139 11406).toNat 1)) w e) rfl (am_pfB rfl am_ge114 rfl (am_sf11406 _)) (by rw [am_enc_len, am_enc_len]) ?_
          have J150 := am_Jf11406 (v := (f139 11406) + 1) hI141.1 (by omega) (by omega)
          have J151 := am_Ja115 J150 hl146
          have J152 := am_Ja116 J151 hl149
          have J153 : am_IV p g h (am_ud f139 11406 ((f139 11406) + 1)) (am_ud (am_ud a139 115 ((a139 115).set (f139 11406).toNat (am_at (a 108) y1))) 116 ((a139 116).set (f139 11406).toNat 1)) := ⟨J152, by
              exact ⟨hI141.2.1, hI141.2.2.1, hI141.2.2.2.1, hI141.2.2.2.2.1, am_R6_push hI141.2.2.2.2.2.1 (by omega) (by assumption) (by omega), hI141.2.2.2.2.2.2⟩
            ⟩
          exact am_eret rfl rfl J153
set_option maxRecDepth 100000 in
set_option maxHeartbeats 4000000 in
theorem am_ct23 {X : List Value} {w : Value} {e : Nat} {g : aF} {h : aA} {p : Bool} {d : Nat} {y1 : Int} {f : aF} {a : aA} (hd : 3 ≤ d) (hI : am_IV p g h f a) (hp0 : (-2147483648 ≤ y1 ∧ y1 ≤ 2147483647)) (hp1 : 0 ≤ y1) (hp2 : y1 < f 10606) :
    am_TE X d am_m23 0 (lv_args 0 [.ref 114, am_iv y1]) [] f a w e (am_QV (fun f1 a1 => am_IV p g h f1 a1)) (am_EC g h) := by
  obtain ⟨d, rfl⟩ : ∃ d0, d = d0 + 1 := ⟨d - 1, by omega⟩
  have q1 := am_Ig10606 hI
  refine am_raload_n rfl rfl rfl ?_
  have q2 := am_Ig11406 hI
  refine am_rgetf (S1 := [am_iv (f 11406)]) rfl rfl ?_
  refine am_rif_le rfl rfl (by unfold am_rg; omega) (fun hc3 => ?_) (fun hc3 => ?_)
  · exact am_eret rfl rfl hI
  · refine am_raload_n rfl rfl rfl ?_
    refine am_rgetf (S1 := [.ref 116]) rfl rfl ?_
    refine am_raload_n rfl rfl rfl ?_
    refine am_rgetf (S1 := [am_iv (f 11406), .ref 116]) rfl rfl ?_
    refine am_riconst rfl ?_
    refine am_risub rfl ?_
    refine am_raload_n rfl rfl rfl ?_
    refine am_raload_n rfl rfl rfl ?_
    refine am_rgetf (S1 := [.ref 115, .ref 114, am_iv ((f 11406) - 1), .ref 116]) rfl rfl ?_
    refine am_raload_n rfl rfl rfl ?_
    refine am_rgetf (S1 := [am_iv (f 11406), .ref 115, .ref 114, am_iv ((f 11406) - 1), .ref 116]) rfl rfl ?_
    refine am_riconst rfl ?_
    refine am_risub rfl ?_
    have q4 : (a 115).length = 16 := am_Ll115 (am_IL 115 rfl hI)
    have i5 : am_ib (a 115) ((f 11406) - 1) := by unfold am_ib; omega
    have q6 := am_Lb115 (am_IL 115 rfl hI) i5
    have r6 := hI.2.2.2.2.2.1 ((f 11406) - 1) (by omega) (by omega)
    refine am_riaload (l := a 115) rfl am_ge115 i5 ?_
    refine am_evirtualR (m := am_m21) (As := [.ref 114, am_iv (am_at (a 115) ((f 11406) - 1))]) (S1 := [am_iv ((f 11406) - 1), .ref 116]) rfl rfl rfl rfl rfl rfl rfl rfl rfl rfl (am_TE.refr (am_ct21 (y1 := (am_at (a 115) ((f 11406) - 1))) (by omega) hI (by omega) (by omega) (by omega)) (fun b7 f7 a7 hq8 => ?_) (fun _ _ _ h => h))
    obtain ⟨rfl, rfl, hq8⟩ := hq8
    refine am_raload_n rfl rfl rfl ?_
    refine am_rgetf (S1 := [.ref 116, .ref (b7), am_iv ((f 11406) - 1), .ref 116]) rfl rfl ?_
    refine am_raload_n rfl rfl rfl ?_
    refine am_rgetf (S1 := [am_iv (f 11406), .ref 116, .ref (b7), am_iv ((f 11406) - 1), .ref 116]) rfl rfl ?_
    refine am_riconst rfl ?_
    refine am_risub rfl ?_
    have q9 : (a 116).length = 16 := am_Ll116 (am_IL 116 rfl hI)
    have i10 : am_ib (a 116) ((f 11406) - 1) := by unfold am_ib; omega
    have q11 := am_Lb116 (am_IL 116 rfl hI) i10
    refine am_riaload (l := a 116) rfl am_ge116 i10 ?_
    refine am_raload_n rfl rfl rfl ?_
    refine am_rgetf (S1 := [.ref 106, am_iv (am_at (a 116) ((f 11406) - 1)), .ref (b7), am_iv ((f 11406) - 1), .ref 116]) rfl rfl ?_
    refine am_riload_n rfl rfl rfl ?_
    refine am_evirtualI (m := am_m13) (As := [.ref 106, am_iv y1]) (S1 := [am_iv (am_at (a 116) ((f 11406) - 1)), .ref (b7), am_iv ((f 11406) - 1), .ref 116]) rfl rfl rfl rfl rfl rfl rfl rfl rfl rfl (am_TE.int (am_ct13 (y1 := y1) (by omega) hI (by omega) (by omega) (by omega)) (fun b12 f12 a12 hq13 => ?_) (fun _ _ _ h => h))
    obtain ⟨rfl, rfl, hq13⟩ := hq13
    refine am_evirtualI (m := am_m51) (As := [.ref (b7), am_iv (am_at (a 116) ((f 11406) - 1)), am_iv b12]) (S1 := [am_iv ((f 11406) - 1), .ref 116]) rfl rfl rfl rfl rfl rfl rfl rfl (am_rcM hq8 rfl) rfl (am_TE.int (am_ct51 (c := b7) (y1 := (am_at (a 116) ((f 11406) - 1))) (y2 := b12) (by omega) hI hq8 (by omega) (by omega)) (fun b14 f14 a14 hq15 => ?_) (fun _ _ _ h => h))
    obtain ⟨rfl, rfl, hq15⟩ := hq15
    have i16 : am_ib (a 116) ((f 11406) - 1) := by unfold am_ib; omega
    have hl17 : am_LN 116 ((a 116).set ((f 11406) - 1).toNat b14) := am_LS116 (am_IL 116 rfl hI) (by omega) (by omega)
    refine am_riastore (l := a 116) (h1 := am_enc f (am_ud a 116 ((a 116).set ((f 11406) - 1).toNat b14)) w e) rfl am_ge116 i16 (am_sa116 _) ?_
    have J18 := am_Ia116 hI hl17
    exact am_eret rfl rfl J18
set_option maxRecDepth 100000 in
set_option maxHeartbeats 4000000 in
theorem am_ct24 {X : List Value} {w : Value} {e : Nat} {g : aF} {h : aA} {p : Bool} {d : Nat} {f : aF} {a : aA} (hd : 2 ≤ d) (hI : am_IV p g h f a) :
    am_TE X d am_m24 0 (lv_args 0 [.ref 114]) [] f a w e (am_QV (fun f1 a1 => am_IV p g h f1 a1)) (am_EC g h) := by
  obtain ⟨d, rfl⟩ : ∃ d0, d = d0 + 1 := ⟨d - 1, by omega⟩
  refine am_raload_n rfl rfl rfl ?_
  have q1 := am_Ig11406 hI
  refine am_rgetf (S1 := [am_iv (f 11406)]) rfl rfl ?_
  refine am_rif_le rfl rfl (by unfold am_rg; omega) (fun hc2 => ?_) (fun hc2 => ?_)
  · exact am_eret rfl rfl hI
  · refine am_raload_n rfl rfl rfl ?_
    refine am_rdup rfl rfl ?_
    refine am_rgetf (S1 := [am_iv (f 11406), .ref 114]) rfl rfl ?_
    refine am_riconst rfl ?_
    refine am_risub rfl ?_
    refine am_rputf (S1 := []) (h1 := am_enc (am_ud f 11406 ((f 11406) - 1)) a w e) rfl (am_pfB rfl am_ge114 rfl (am_sf11406 _)) (by rw [am_enc_len, am_enc_len]) ?_
    refine am_raload_n rfl rfl rfl ?_
    refine am_riconst rfl ?_
    refine am_raload_n rfl rfl rfl ?_
    refine am_rgetf (S1 := [.ref 116, am_iv 4, .ref 114]) rfl rfl ?_
    refine am_raload_n rfl rfl rfl ?_
    refine am_rgetf (S1 := [am_iv ((f 11406) - 1), .ref 116, am_iv 4, .ref 114]) rfl rfl ?_
    have q3 : (a 116).length = 16 := am_Ll116 (am_IL 116 rfl hI)
    have i4 : am_ib (a 116) ((f 11406) - 1) := by unfold am_ib; omega
    have q5 := am_Lb116 (am_IL 116 rfl hI) i4
    refine am_riaload (l := a 116) rfl am_ge116 i4 ?_
    refine am_raload_n rfl rfl rfl ?_
    refine am_raload_n rfl rfl rfl ?_
    refine am_rgetf (S1 := [.ref 115, .ref 114, am_iv (am_at (a 116) ((f 11406) - 1)), am_iv 4, .ref 114]) rfl rfl ?_
    refine am_raload_n rfl rfl rfl ?_
    refine am_rgetf (S1 := [am_iv ((f 11406) - 1), .ref 115, .ref 114, am_iv (am_at (a 116) ((f 11406) - 1)), am_iv 4, .ref 114]) rfl rfl ?_
    have q6 : (a 115).length = 16 := am_Ll115 (am_IL 115 rfl hI)
    have i7 : am_ib (a 115) ((f 11406) - 1) := by unfold am_ib; omega
    have q8 := am_Lb115 (am_IL 115 rfl hI) i7
    have r6 := hI.2.2.2.2.2.1 ((f 11406) - 1) (by omega) (by omega)
    refine am_riaload (l := a 115) rfl am_ge115 i7 ?_
    have J9 := am_Jf11406 (v := (f 11406) - 1) hI.1 (by omega) (by omega)
    have J10 : am_IV p g h (am_ud f 11406 ((f 11406) - 1)) a := ⟨J9, by
        exact ⟨hI.2.1, hI.2.2.1, hI.2.2.2.1, hI.2.2.2.2.1, am_R6_pop (n := f 11406) (m := f 11406 - 1) hI.2.2.2.2.2.1 (by omega), hI.2.2.2.2.2.2⟩
      ⟩
    refine am_evirtualR (m := am_m21) (As := [.ref 114, am_iv (am_at (a 115) ((f 11406) - 1))]) (S1 := [am_iv (am_at (a 116) ((f 11406) - 1)), am_iv 4, .ref 114]) rfl rfl rfl rfl rfl rfl rfl rfl rfl rfl (am_TE.refr (am_ct21 (y1 := (am_at (a 115) ((f 11406) - 1))) (by omega) J10 (by omega) (by omega) (by omega)) (fun b11 f11 a11 hq12 => ?_) (fun _ _ _ h => h))
    obtain ⟨rfl, rfl, hq12⟩ := hq12
    refine am_rgetf rfl (am_gfM5 hq12 rfl) ?_
    have q13 := am_and_rg (am_at (a 116) ((f 11406) - 1)) ((am_ud f 11406 ((f 11406) - 1)) (100 * b11 + 5))
    refine am_riand rfl ?_
    refine am_rif_ne rfl rfl (by unfold am_rg; omega) (fun hc14 => ?_) (fun hc14 => ?_)
    · refine am_riconst rfl ?_
      have J15 := am_Jf11406 (v := (f 11406) - 1) hI.1 (by omega) (by omega)
      have J16 : am_IV p g h (am_ud f 11406 ((f 11406) - 1)) a := ⟨J15, by
          exact ⟨hI.2.1, hI.2.2.1, hI.2.2.2.1, hI.2.2.2.2.1, am_R6_pop (n := f 11406) (m := f 11406 - 1) hI.2.2.2.2.2.1 (by omega), hI.2.2.2.2.2.2⟩
        ⟩
      have q17 := am_Ig10606 hI
      refine am_evirtualV (m := am_m18) (As := [.ref 114, am_iv 4, am_iv 0]) (S1 := []) rfl rfl rfl rfl rfl rfl rfl rfl rfl rfl (am_TE.void (am_ct18 (y1 := 4) (y2 := 0) (by omega) J16 (by omega) (by omega)) (fun f18 a18 hq19 => ?_) (fun _ _ _ h => h))
      obtain ⟨hI20, hq19⟩ := hq19
      exact am_eret rfl rfl hI20
    · refine am_riconst rfl ?_
      refine am_rgoto rfl rfl ?_
      have J21 := am_Jf11406 (v := (f 11406) - 1) hI.1 (by omega) (by omega)
      have J22 : am_IV p g h (am_ud f 11406 ((f 11406) - 1)) a := ⟨J21, by
          exact ⟨hI.2.1, hI.2.2.1, hI.2.2.2.1, hI.2.2.2.2.1, am_R6_pop (n := f 11406) (m := f 11406 - 1) hI.2.2.2.2.2.1 (by omega), hI.2.2.2.2.2.2⟩
        ⟩
      have q23 := am_Ig10606 hI
      refine am_evirtualV (m := am_m18) (As := [.ref 114, am_iv 4, am_iv 1]) (S1 := []) rfl rfl rfl rfl rfl rfl rfl rfl rfl rfl (am_TE.void (am_ct18 (y1 := 4) (y2 := 1) (by omega) J22 (by omega) (by omega)) (fun f24 a24 hq25 => ?_) (fun _ _ _ h => h))
      obtain ⟨hI26, hq25⟩ := hq25
      exact am_eret rfl rfl hI26
set_option maxRecDepth 100000 in
set_option maxHeartbeats 4000000 in
theorem am_ct28_6 {X : List Value} {w : Value} {e : Nat} {g : aF} {h : aA} {p : Bool} {E : Nat → aF → aA → Prop} {d : Nat} (hd : 2 ≤ d + 1) (n : Nat) :
    ∀ {f : aF} {a : aA} {x1 : Int} {x3 : Int} {x4 : Int} {x5 : Int}, (x3 - x5).toNat < n → am_IV p g h f a → (-2147483648 ≤ x1 ∧ x1 ≤ 2147483647) → (-2147483648 ≤ x3 ∧ x3 ≤ 2147483647) → (-2147483648 ≤ x4 ∧ x4 ≤ 2147483647) → (-2147483648 ≤ x5 ∧ x5 ≤ 2147483647) → 0 ≤ x4 → x4 ≤ x5 → x3 ≤ 720 → 0 ≤ x1 → x1 < f 10606 → am_TE X (d + 1) am_m28 6 [(0, .ref 114), (1, am_iv x1), (3, am_iv x3), (4, am_iv x4), (5, am_iv x5)] [] f a w e (am_QI (fun b f1 a1 => f = f1 ∧ a = a1 ∧ (b = 0 ∨ b = 1))) E := by
  induction n with
  | zero => intros; omega
  | succ n ih =>
    intro f a x1 x3 x4 x5 hn hI hp0 hp1 hp2 hp3 hp4 hp5 hp6 hp7 hp8
    have q1 := am_Ig10606 hI
    refine am_riload rfl rfl rfl ?_
    refine am_riload_n rfl rfl rfl ?_
    refine am_ric_ge rfl rfl (by unfold am_rg; omega) (by unfold am_rg; omega) (fun hc2 => ?_) (fun hc2 => ?_)
    · refine am_riconst rfl ?_
      exact am_ebret rfl rfl (by omega) ⟨rfl, rfl, (show ((0 : Int) = 0 ∨ (0 : Int) = 1) by omega)⟩
    · refine am_raload_n rfl rfl rfl ?_
      refine am_rgetf (S1 := [.ref 2]) rfl rfl ?_
      refine am_rgetf (S1 := [.ref 3]) rfl rfl ?_
      refine am_riload rfl rfl rfl ?_
      have q3 : (a 3).length = 720 := am_Ll3 (am_IL 3 rfl hI)
      have i4 : am_ib (a 3) x5 := by unfold am_ib; omega
      have q5 := am_Lb3 (am_IL 3 rfl hI) i4
      refine am_riaload (l := a 3) rfl am_ge3 i4 ?_
      refine am_estaticI (m := am_m110) (As := [am_iv (am_at (a 3) x5)]) (S1 := []) rfl rfl rfl rfl rfl rfl rfl rfl (am_TE.int (am_ct110 (y1 := (am_at (a 3) x5)) (by omega) (by omega)) (fun b6 f6 a6 hq7 => ?_) (fun _ _ _ h => h))
      obtain ⟨rfl, rfl, hq7⟩ := hq7
      refine am_rif_ne rfl rfl (by unfold am_rg; omega) (fun hc8 => ?_) (fun hc8 => ?_)
      · refine am_riinc (L1 := [(0, .ref 114), (1, am_iv x1), (3, am_iv x3), (4, am_iv x4), (5, am_iv (x5 + 1))]) rfl rfl rfl rfl rfl ?_
        refine am_rgoto rfl rfl ?_
        exact ih (by omega) hI (by omega) (by omega) (by omega) (by omega) (by omega) (by omega) (by omega) (by omega) (by omega)
      · refine am_riload rfl rfl rfl ?_
        refine am_riload rfl rfl rfl ?_
        refine am_ric_le rfl rfl (by unfold am_rg; omega) (by unfold am_rg; omega) (fun hc9 => ?_) (fun hc9 => ?_)
        · refine am_riload rfl rfl rfl ?_
          refine am_riconst rfl ?_
          refine am_riadd rfl ?_
          refine am_ristore (L1 := [(0, .ref 114), (1, am_iv x1), (3, am_iv x3), (4, am_iv (x5 + 1)), (5, am_iv x5)]) rfl rfl rfl rfl rfl ?_
          refine am_riinc (L1 := [(0, .ref 114), (1, am_iv x1), (3, am_iv x3), (4, am_iv (x5 + 1)), (5, am_iv (x5 + 1))]) rfl rfl rfl rfl rfl ?_
          refine am_rgoto rfl rfl ?_
          exact ih (by omega) hI (by omega) (by omega) (by omega) (by omega) (by omega) (by omega) (by omega) (by omega) (by omega)
        · refine am_raload_n rfl rfl rfl ?_
          refine am_rgetf (S1 := [.ref 106]) rfl rfl ?_
          refine am_riload_n rfl rfl rfl ?_
          refine am_raload_n rfl rfl rfl ?_
          refine am_rgetf (S1 := [.ref 2, am_iv x1, .ref 106]) rfl rfl ?_
          refine am_rgetf (S1 := [.ref 3, am_iv x1, .ref 106]) rfl rfl ?_
          refine am_riload rfl rfl rfl ?_
          refine am_riload rfl rfl rfl ?_
          refine am_riload rfl rfl rfl ?_
          refine am_risub rfl ?_
          refine am_evirtualI (m := am_m12) (As := [.ref 106, am_iv x1, .ref 3, am_iv x4, am_iv (x5 - x4)]) (S1 := []) rfl rfl rfl rfl rfl rfl rfl rfl rfl rfl (am_TE.int (am_ct12s (y1 := x1) (y3 := x4) (y4 := (x5 - x4)) (by omega) hI (by omega) (by omega) (by omega) (by omega) (by omega) (by omega) (by omega)) (fun b10 f10 a10 hq11 => ?_) (fun _ _ _ h => h))
          obtain ⟨rfl, rfl, hq11⟩ := hq11
          refine am_rif_eq rfl rfl (by unfold am_rg; omega) (fun hc12 => ?_) (fun hc12 => ?_)
          · refine am_riload rfl rfl rfl ?_
            refine am_riconst rfl ?_
            refine am_riadd rfl ?_
            refine am_ristore (L1 := [(0, .ref 114), (1, am_iv x1), (3, am_iv x3), (4, am_iv (x5 + 1)), (5, am_iv x5)]) rfl rfl rfl rfl rfl ?_
            refine am_riinc (L1 := [(0, .ref 114), (1, am_iv x1), (3, am_iv x3), (4, am_iv (x5 + 1)), (5, am_iv (x5 + 1))]) rfl rfl rfl rfl rfl ?_
            refine am_rgoto rfl rfl ?_
            exact ih (by omega) hI (by omega) (by omega) (by omega) (by omega) (by omega) (by omega) (by omega) (by omega) (by omega)
          · refine am_riconst rfl ?_
            exact am_ebret rfl rfl (by omega) ⟨rfl, rfl, (show ((1 : Int) = 0 ∨ (1 : Int) = 1) by omega)⟩
set_option maxRecDepth 100000 in
set_option maxHeartbeats 4000000 in
theorem am_ct28 {X : List Value} {w : Value} {e : Nat} {g : aF} {h : aA} {p : Bool} {E : Nat → aF → aA → Prop} {d : Nat} {y1 : Int} {y2 : Int} {y3 : Int} {f : aF} {a : aA} (hd : 2 ≤ d) (hI : am_IV p g h f a) (hp0 : (-2147483648 ≤ y1 ∧ y1 ≤ 2147483647)) (hp1 : (-2147483648 ≤ y2 ∧ y2 ≤ 2147483647)) (hp2 : (-2147483648 ≤ y3 ∧ y3 ≤ 2147483647)) (hp3 : 0 ≤ y1) (hp4 : y1 < f 10606) (hp5 : 0 ≤ y2) (hp6 : y2 ≤ 720) (hp7 : 0 ≤ y3) (hp8 : y3 ≤ 720) :
    am_TE X d am_m28 0 (lv_args 0 [.ref 114, am_iv y1, am_iv y2, am_iv y3]) [] f a w e (am_QI (fun b f1 a1 => f = f1 ∧ a = a1 ∧ (b = 0 ∨ b = 1))) E := by
  obtain ⟨d, rfl⟩ : ∃ d0, d = d0 + 1 := ⟨d - 1, by omega⟩
  have q1 := am_Ig10606 hI
  refine am_riload_n rfl rfl rfl ?_
  refine am_ristore (L1 := [(0, .ref 114), (1, am_iv y1), (2, am_iv y2), (3, am_iv y3), (4, am_iv y2)]) rfl rfl rfl rfl rfl ?_
  refine am_riload_n rfl rfl rfl ?_
  refine am_ristore (L1 := [(0, .ref 114), (1, am_iv y1), (2, am_iv y2), (3, am_iv y3), (4, am_iv y2), (5, am_iv y2)]) rfl rfl rfl rfl rfl ?_
  exact am_T.drop (L1 := [(0, .ref 114), (1, am_iv y1), (3, am_iv y3), (4, am_iv y2), (5, am_iv y2)]) (am_ct28_6 hd (_ + 1) (Nat.lt_succ_self _) hI (by omega) (by omega) (by omega) (by omega) (by omega) (by omega) (by omega) (by omega) (by omega)) (by simp)
set_option maxRecDepth 100000 in
set_option maxHeartbeats 4000000 in
theorem am_ct29_2 {X : List Value} {w : Value} {e : Nat} {g : aF} {h : aA} {p : Bool} {E : Nat → aF → aA → Prop} {d : Nat} (hd : 2 ≤ d + 1) (n : Nat) :
    ∀ {f : aF} {a : aA} {x1 : Int} {x2 : Int} {x3 : Int}, (x1 - x3).toNat < n → am_IV p g h f a → (-2147483648 ≤ x1 ∧ x1 ≤ 2147483647) → (-2147483648 ≤ x2 ∧ x2 ≤ 2147483647) → (-2147483648 ≤ x3 ∧ x3 ≤ 2147483647) → 0 ≤ x3 → x1 ≤ f 10606 → 0 ≤ x2 → x2 < f 10606 → am_TE X (d + 1) am_m29 2 [(0, .ref 114), (1, am_iv x1), (2, am_iv x2), (3, am_iv x3)] [] f a w e (am_QI (fun b f1 a1 => f = f1 ∧ a = a1 ∧ (b = 0 ∨ b = 1))) E := by
  induction n with
  | zero => intros; omega
  | succ n ih =>
    intro f a x1 x2 x3 hn hI hp0 hp1 hp2 hp3 hp4 hp5 hp6
    have q1 := am_Ig10606 hI
    refine am_riload_n rfl rfl rfl ?_
    refine am_riload_n rfl rfl rfl ?_
    refine am_ric_ge rfl rfl (by unfold am_rg; omega) (by unfold am_rg; omega) (fun hc2 => ?_) (fun hc2 => ?_)
    · refine am_riconst rfl ?_
      exact am_ebret rfl rfl (by omega) ⟨rfl, rfl, (show ((0 : Int) = 0 ∨ (0 : Int) = 1) by omega)⟩
    · refine am_raload_n rfl rfl rfl ?_
      refine am_rgetf (S1 := [.ref 106]) rfl rfl ?_
      refine am_rgetf (S1 := [.ref 111]) rfl rfl ?_
      refine am_riload_n rfl rfl rfl ?_
      have q3 : (a 111).length = 200 := am_Ll111 (am_IL 111 rfl hI)
      have i4 : am_ib (a 111) x3 := by unfold am_ib; omega
      have q5 := am_Lb111 (am_IL 111 rfl hI) i4
      refine am_riaload (l := a 111) rfl am_ge111 i4 ?_
      refine am_ristore (L1 := [(0, .ref 114), (1, am_iv x1), (2, am_iv x2), (3, am_iv x3), (4, am_iv (am_at (a 111) x3))]) rfl rfl rfl rfl rfl ?_
      refine am_riload rfl rfl rfl ?_
      refine am_riconst rfl ?_
      refine am_ric_eq rfl rfl (by unfold am_rg; omega) (by unfold am_rg; omega) (fun hc6 => ?_) (fun hc6 => ?_)
      · refine am_riinc (L1 := [(0, .ref 114), (1, am_iv x1), (2, am_iv x2), (3, am_iv (x3 + 1)), (4, am_iv (am_at (a 111) x3))]) rfl rfl rfl rfl rfl ?_
        refine am_rgoto rfl rfl ?_
        exact am_T.drop (L1 := [(0, .ref 114), (1, am_iv x1), (2, am_iv x2), (3, am_iv (x3 + 1))]) (ih (by omega) hI (by omega) (by omega) (by omega) (by omega) (by omega) (by omega) (by omega)) (by simp)
      · refine am_raload_n rfl rfl rfl ?_
        refine am_rgetf (S1 := [.ref 17]) rfl rfl ?_
        refine am_rgetf (S1 := [.ref 20]) rfl rfl ?_
        refine am_riload rfl rfl rfl ?_
        have q7 : (a 20).length = 45 := am_Ll20 (am_IL 20 rfl hI)
        have i8 : am_ib (a 20) (am_at (a 111) x3) := by unfold am_ib; omega
        have q9 := am_Lb20 (am_IL 20 rfl hI) i8
        refine am_riaload (l := a 20) rfl am_ge20 i8 ?_
        refine am_riconst rfl ?_
        refine am_ric_ne rfl rfl (by unfold am_rg; omega) (by unfold am_rg; omega) (fun hc10 => ?_) (fun hc10 => ?_)
        · refine am_riinc (L1 := [(0, .ref 114), (1, am_iv x1), (2, am_iv x2), (3, am_iv (x3 + 1)), (4, am_iv (am_at (a 111) x3))]) rfl rfl rfl rfl rfl ?_
          refine am_rgoto rfl rfl ?_
          exact am_T.drop (L1 := [(0, .ref 114), (1, am_iv x1), (2, am_iv x2), (3, am_iv (x3 + 1))]) (ih (by omega) hI (by omega) (by omega) (by omega) (by omega) (by omega) (by omega) (by omega)) (by simp)
        · refine am_raload_n rfl rfl rfl ?_
          refine am_rgetf (S1 := [.ref 106]) rfl rfl ?_
          refine am_riload_n rfl rfl rfl ?_
          refine am_raload_n rfl rfl rfl ?_
          refine am_rgetf (S1 := [.ref 106, am_iv x3, .ref 106]) rfl rfl ?_
          refine am_rgetf (S1 := [.ref 112, am_iv x3, .ref 106]) rfl rfl ?_
          refine am_raload_n rfl rfl rfl ?_
          refine am_rgetf (S1 := [.ref 106, .ref 112, am_iv x3, .ref 106]) rfl rfl ?_
          refine am_rgetf (S1 := [.ref 109, .ref 112, am_iv x3, .ref 106]) rfl rfl ?_
          refine am_riload_n rfl rfl rfl ?_
          have q11 : (a 109).length = 200 := am_Ll109 (am_IL 109 rfl hI)
          have i12 : am_ib (a 109) x2 := by unfold am_ib; omega
          have q13 := am_Lb109 (am_IL 109 rfl hI) i12
          have r1 := hI.2.2.2.1 x2 (by omega) (by omega)
          have r2 := am_Ig10607 hI
          refine am_riaload (l := a 109) rfl am_ge109 i12 ?_
          refine am_raload_n rfl rfl rfl ?_
          refine am_rgetf (S1 := [.ref 106, am_iv (am_at (a 109) x2), .ref 112, am_iv x3, .ref 106]) rfl rfl ?_
          refine am_rgetf (S1 := [.ref 110, am_iv (am_at (a 109) x2), .ref 112, am_iv x3, .ref 106]) rfl rfl ?_
          refine am_riload_n rfl rfl rfl ?_
          have q14 : (a 110).length = 200 := am_Ll110 (am_IL 110 rfl hI)
          have i15 : am_ib (a 110) x2 := by unfold am_ib; omega
          have q16 := am_Lb110 (am_IL 110 rfl hI) i15
          refine am_riaload (l := a 110) rfl am_ge110 i15 ?_
          refine am_evirtualI (m := am_m12) (As := [.ref 106, am_iv x3, .ref 112, am_iv (am_at (a 109) x2), am_iv (am_at (a 110) x2)]) (S1 := []) rfl rfl rfl rfl rfl rfl rfl rfl rfl rfl (am_TE.int (am_ct12e (y1 := x3) (y3 := (am_at (a 109) x2)) (y4 := (am_at (a 110) x2)) (by omega) hI (by omega) (by omega) (by omega) (by omega) (by omega) (by omega) (by omega)) (fun b17 f17 a17 hq18 => ?_) (fun _ _ _ h => h))
          obtain ⟨rfl, rfl, hq18⟩ := hq18
          refine am_rif_eq rfl rfl (by unfold am_rg; omega) (fun hc19 => ?_) (fun hc19 => ?_)
          · refine am_riinc (L1 := [(0, .ref 114), (1, am_iv x1), (2, am_iv x2), (3, am_iv (x3 + 1)), (4, am_iv (am_at (a 111) x3))]) rfl rfl rfl rfl rfl ?_
            refine am_rgoto rfl rfl ?_
            exact am_T.drop (L1 := [(0, .ref 114), (1, am_iv x1), (2, am_iv x2), (3, am_iv (x3 + 1))]) (ih (by omega) hI (by omega) (by omega) (by omega) (by omega) (by omega) (by omega) (by omega)) (by simp)
          · refine am_riconst rfl ?_
            exact am_ebret rfl rfl (by omega) ⟨rfl, rfl, (show ((1 : Int) = 0 ∨ (1 : Int) = 1) by omega)⟩
set_option maxRecDepth 100000 in
set_option maxHeartbeats 4000000 in
theorem am_ct29 {X : List Value} {w : Value} {e : Nat} {g : aF} {h : aA} {p : Bool} {E : Nat → aF → aA → Prop} {d : Nat} {y1 : Int} {y2 : Int} {f : aF} {a : aA} (hd : 2 ≤ d) (hI : am_IV p g h f a) (hp0 : (-2147483648 ≤ y1 ∧ y1 ≤ 2147483647)) (hp1 : (-2147483648 ≤ y2 ∧ y2 ≤ 2147483647)) (hp2 : y1 ≤ f 10606) (hp3 : 0 ≤ y2) (hp4 : y2 < f 10606) :
    am_TE X d am_m29 0 (lv_args 0 [.ref 114, am_iv y1, am_iv y2]) [] f a w e (am_QI (fun b f1 a1 => f = f1 ∧ a = a1 ∧ (b = 0 ∨ b = 1))) E := by
  obtain ⟨d, rfl⟩ : ∃ d0, d = d0 + 1 := ⟨d - 1, by omega⟩
  have q1 := am_Ig10606 hI
  refine am_riconst rfl ?_
  refine am_ristore_n (L1 := [(0, .ref 114), (1, am_iv y1), (2, am_iv y2), (3, am_iv 0)]) rfl rfl rfl rfl rfl ?_
  exact am_ct29_2 hd (_ + 1) (Nat.lt_succ_self _) hI (by omega) (by omega) (by omega) (by omega) (by omega) (by omega) (by omega)
set_option maxRecDepth 100000 in
set_option maxHeartbeats 4000000 in
theorem am_ct27 {X : List Value} {w : Value} {e : Nat} {g : aF} {h : aA} {p : Bool} {d : Nat} {y1 : Int} {y2 : Int} {f : aF} {a : aA} (hd : 3 ≤ d) (hI : am_IV p g h f a) (hp0 : (-2147483648 ≤ y1 ∧ y1 ≤ 2147483647)) (hp1 : (-2147483648 ≤ y2 ∧ y2 ≤ 2147483647)) (hp2 : 0 ≤ y1) (hp3 : y1 < f 10606) (hp4 : -1 ≤ y2) (hp5 : y2 ≤ 44) :
    am_TE X d am_m27 0 (lv_args 0 [.ref 114, am_iv y1, am_iv y2]) [] f a w e (am_QV (fun f1 a1 => am_IV p g h f1 a1)) (am_EC g h) := by
  obtain ⟨d, rfl⟩ : ∃ d0, d = d0 + 1 := ⟨d - 1, by omega⟩
  have q1 := am_Ig10606 hI
  refine am_riload_n rfl rfl rfl ?_
  refine am_riconst rfl ?_
  refine am_ric_ne rfl rfl (by unfold am_rg; omega) (by unfold am_rg; omega) (fun hc2 => ?_) (fun hc2 => ?_)
  · refine am_raload_n rfl rfl rfl ?_
    refine am_rgetf (S1 := [.ref 17]) rfl rfl ?_
    refine am_rgetf (S1 := [.ref 21]) rfl rfl ?_
    refine am_riload_n rfl rfl rfl ?_
    have q3 : (a 21).length = 45 := am_Ll21 (am_IL 21 rfl hI)
    have i4 : am_ib (a 21) y2 := by unfold am_ib; omega
    have q5 := am_Lb21 (am_IL 21 rfl hI) i4
    refine am_riaload (l := a 21) rfl am_ge21 i4 ?_
    refine am_riconst rfl ?_
    refine am_ric_ne rfl rfl (by unfold am_rg; omega) (by unfold am_rg; omega) (fun hc6 => ?_) (fun hc6 => ?_)
    · refine am_raload_n rfl rfl rfl ?_
      refine am_rgetf (S1 := [.ref 17]) rfl rfl ?_
      refine am_rgetf (S1 := [.ref 20]) rfl rfl ?_
      refine am_riload_n rfl rfl rfl ?_
      have q7 : (a 20).length = 45 := am_Ll20 (am_IL 20 rfl hI)
      have i8 : am_ib (a 20) y2 := by unfold am_ib; omega
      have q9 := am_Lb20 (am_IL 20 rfl hI) i8
      refine am_riaload (l := a 20) rfl am_ge20 i8 ?_
      refine am_rsw rfl (by unfold am_rg; omega) rfl (fun hc10 => ?_) (fun h8 h9 => ?_)
      · exact am_eret rfl rfl hI
      · rcases (show (am_at (a 20) y2) = 1 ∨ (am_at (a 20) y2) = 2 ∨ (am_at (a 20) y2) = 3 ∨ (am_at (a 20) y2) = 4 by omega) with hc10 | hc10 | hc10 | hc10
        · refine ⟨_, _, by rw [hc10]; rfl, rfl, ?_⟩
          refine am_raload_n rfl rfl rfl ?_
          refine am_rsipush rfl (by decide) ?_
          refine am_raload_n rfl rfl rfl ?_
          refine am_rgetf (S1 := [.ref 106, am_iv 128, .ref 114]) rfl rfl ?_
          refine am_riload_n rfl rfl rfl ?_
          refine am_evirtualI (m := am_m14) (As := [.ref 106, am_iv y1]) (S1 := [am_iv 128, .ref 114]) rfl rfl rfl rfl rfl rfl rfl rfl rfl rfl (am_TE.int (am_ct14 (y1 := y1) (by omega) hI (by omega) (by omega) (by omega)) (fun b11 f11 a11 hq12 => ?_) (fun _ _ _ h => h))
          obtain ⟨rfl, rfl, hq12⟩ := hq12
          refine am_rif_eq rfl rfl (by unfold am_rg; omega) (fun hc13 => ?_) (fun hc13 => ?_)
          · refine am_riconst rfl ?_
            refine am_rgoto rfl rfl ?_
            refine am_evirtualV (m := am_m18) (As := [.ref 114, am_iv 128, am_iv 1]) (S1 := []) rfl rfl rfl rfl rfl rfl rfl rfl rfl rfl (am_TE.void (am_ct18 (y1 := 128) (y2 := 1) (by omega) hI (by omega) (by omega)) (fun f14 a14 hq15 => ?_) (fun _ _ _ h => h))
            obtain ⟨hI16, hq15⟩ := hq15
            refine am_rgoto rfl rfl ?_
            exact am_eret rfl rfl hI16
          · refine am_raload_n rfl rfl rfl ?_
            refine am_rgetf (S1 := [.ref 106, am_iv 128, .ref 114]) rfl rfl ?_
            refine am_riload_n rfl rfl rfl ?_
            refine am_evirtualI (m := am_m15) (As := [.ref 106, am_iv y1]) (S1 := [am_iv 128, .ref 114]) rfl rfl rfl rfl rfl rfl rfl rfl rfl rfl (am_TE.int (am_ct15 (y1 := y1) (by omega) hI (by omega) (by omega) (by omega)) (fun b17 f17 a17 hq18 => ?_) (fun _ _ _ h => h))
            obtain ⟨rfl, rfl, hq18⟩ := hq18
            refine am_rif_eq rfl rfl (by unfold am_rg; omega) (fun hc19 => ?_) (fun hc19 => ?_)
            · refine am_riconst rfl ?_
              refine am_rgoto rfl rfl ?_
              refine am_evirtualV (m := am_m18) (As := [.ref 114, am_iv 128, am_iv 1]) (S1 := []) rfl rfl rfl rfl rfl rfl rfl rfl rfl rfl (am_TE.void (am_ct18 (y1 := 128) (y2 := 1) (by omega) hI (by omega) (by omega)) (fun f20 a20 hq21 => ?_) (fun _ _ _ h => h))
              obtain ⟨hI22, hq21⟩ := hq21
              refine am_rgoto rfl rfl ?_
              exact am_eret rfl rfl hI22
            · refine am_raload_n rfl rfl rfl ?_
              refine am_riload_n rfl rfl rfl ?_
              refine am_riload_n rfl rfl rfl ?_
              refine am_evirtualI (m := am_m29) (As := [.ref 114, am_iv y1, am_iv y1]) (S1 := [am_iv 128, .ref 114]) rfl rfl rfl rfl rfl rfl rfl rfl rfl rfl (am_TE.int (am_ct29 (y1 := y1) (y2 := y1) (by omega) hI (by omega) (by omega) (by omega) (by omega) (by omega)) (fun b23 f23 a23 hq24 => ?_) (fun _ _ _ h => h))
              obtain ⟨rfl, rfl, hq24⟩ := hq24
              refine am_rif_eq rfl rfl (by unfold am_rg; omega) (fun hc25 => ?_) (fun hc25 => ?_)
              · refine am_riconst rfl ?_
                refine am_evirtualV (m := am_m18) (As := [.ref 114, am_iv 128, am_iv 0]) (S1 := []) rfl rfl rfl rfl rfl rfl rfl rfl rfl rfl (am_TE.void (am_ct18 (y1 := 128) (y2 := 0) (by omega) hI (by omega) (by omega)) (fun f26 a26 hq27 => ?_) (fun _ _ _ h => h))
                obtain ⟨hI28, hq27⟩ := hq27
                refine am_rgoto rfl rfl ?_
                exact am_eret rfl rfl hI28
              · refine am_riconst rfl ?_
                refine am_rgoto rfl rfl ?_
                refine am_evirtualV (m := am_m18) (As := [.ref 114, am_iv 128, am_iv 1]) (S1 := []) rfl rfl rfl rfl rfl rfl rfl rfl rfl rfl (am_TE.void (am_ct18 (y1 := 128) (y2 := 1) (by omega) hI (by omega) (by omega)) (fun f29 a29 hq30 => ?_) (fun _ _ _ h => h))
                obtain ⟨hI31, hq30⟩ := hq30
                refine am_rgoto rfl rfl ?_
                exact am_eret rfl rfl hI31
        · refine ⟨_, _, by rw [hc10]; rfl, rfl, ?_⟩
          refine am_raload_n rfl rfl rfl ?_
          refine am_rsipush rfl (by decide) ?_
          refine am_raload_n rfl rfl rfl ?_
          refine am_raload_n rfl rfl rfl ?_
          refine am_rgetf (S1 := [.ref 106, .ref 114, am_iv 256, .ref 114]) rfl rfl ?_
          refine am_rgetf (S1 := [am_iv (f 10606), .ref 114, am_iv 256, .ref 114]) rfl rfl ?_
          refine am_riload_n rfl rfl rfl ?_
          refine am_evirtualI (m := am_m29) (As := [.ref 114, am_iv (f 10606), am_iv y1]) (S1 := [am_iv 256, .ref 114]) rfl rfl rfl rfl rfl rfl rfl rfl rfl rfl (am_TE.int (am_ct29 (y1 := (f 10606)) (y2 := y1) (by omega) hI (by omega) (by omega) (by omega) (by omega) (by omega)) (fun b32 f32 a32 hq33 => ?_) (fun _ _ _ h => h))
          obtain ⟨rfl, rfl, hq33⟩ := hq33
          refine am_rif_ne rfl rfl (by unfold am_rg; omega) (fun hc34 => ?_) (fun hc34 => ?_)
          · refine am_riconst rfl ?_
            refine am_evirtualV (m := am_m18) (As := [.ref 114, am_iv 256, am_iv 0]) (S1 := []) rfl rfl rfl rfl rfl rfl rfl rfl rfl rfl (am_TE.void (am_ct18 (y1 := 256) (y2 := 0) (by omega) hI (by omega) (by omega)) (fun f35 a35 hq36 => ?_) (fun _ _ _ h => h))
            obtain ⟨hI37, hq36⟩ := hq36
            refine am_rgoto rfl rfl ?_
            exact am_eret rfl rfl hI37
          · refine am_riconst rfl ?_
            refine am_rgoto rfl rfl ?_
            refine am_evirtualV (m := am_m18) (As := [.ref 114, am_iv 256, am_iv 1]) (S1 := []) rfl rfl rfl rfl rfl rfl rfl rfl rfl rfl (am_TE.void (am_ct18 (y1 := 256) (y2 := 1) (by omega) hI (by omega) (by omega)) (fun f38 a38 hq39 => ?_) (fun _ _ _ h => h))
            obtain ⟨hI40, hq39⟩ := hq39
            refine am_rgoto rfl rfl ?_
            exact am_eret rfl rfl hI40
        · refine ⟨_, _, by rw [hc10]; rfl, rfl, ?_⟩
          refine am_raload_n rfl rfl rfl ?_
          refine am_rbipush rfl (by decide) ?_
          refine am_raload_n rfl rfl rfl ?_
          refine am_rgetf (S1 := [.ref 106, am_iv 64, .ref 114]) rfl rfl ?_
          refine am_riload_n rfl rfl rfl ?_
          refine am_evirtualI (m := am_m14) (As := [.ref 106, am_iv y1]) (S1 := [am_iv 64, .ref 114]) rfl rfl rfl rfl rfl rfl rfl rfl rfl rfl (am_TE.int (am_ct14 (y1 := y1) (by omega) hI (by omega) (by omega) (by omega)) (fun b41 f41 a41 hq42 => ?_) (fun _ _ _ h => h))
          obtain ⟨rfl, rfl, hq42⟩ := hq42
          refine am_rif_ne rfl rfl (by unfold am_rg; omega) (fun hc43 => ?_) (fun hc43 => ?_)
          · refine am_riconst rfl ?_
            refine am_evirtualV (m := am_m18) (As := [.ref 114, am_iv 64, am_iv 0]) (S1 := []) rfl rfl rfl rfl rfl rfl rfl rfl rfl rfl (am_TE.void (am_ct18 (y1 := 64) (y2 := 0) (by omega) hI (by omega) (by omega)) (fun f44 a44 hq45 => ?_) (fun _ _ _ h => h))
            obtain ⟨hI46, hq45⟩ := hq45
            refine am_rgoto rfl rfl ?_
            exact am_eret rfl rfl hI46
          · refine am_riconst rfl ?_
            refine am_rgoto rfl rfl ?_
            refine am_evirtualV (m := am_m18) (As := [.ref 114, am_iv 64, am_iv 1]) (S1 := []) rfl rfl rfl rfl rfl rfl rfl rfl rfl rfl (am_TE.void (am_ct18 (y1 := 64) (y2 := 1) (by omega) hI (by omega) (by omega)) (fun f47 a47 hq48 => ?_) (fun _ _ _ h => h))
            obtain ⟨hI49, hq48⟩ := hq48
            refine am_rgoto rfl rfl ?_
            exact am_eret rfl rfl hI49
        · refine ⟨_, _, by rw [hc10]; rfl, rfl, ?_⟩
          refine am_raload_n rfl rfl rfl ?_
          refine am_rbipush rfl (by decide) ?_
          refine am_raload_n rfl rfl rfl ?_
          refine am_riload_n rfl rfl rfl ?_
          refine am_raload_n rfl rfl rfl ?_
          refine am_rgetf (S1 := [.ref 17, am_iv y1, .ref 114, am_iv 64, .ref 114]) rfl rfl ?_
          refine am_rgetf (S1 := [.ref 22, am_iv y1, .ref 114, am_iv 64, .ref 114]) rfl rfl ?_
          refine am_riload_n rfl rfl rfl ?_
          have q50 : (a 22).length = 45 := am_Ll22 (am_IL 22 rfl hI)
          have i51 : am_ib (a 22) y2 := by unfold am_ib; omega
          have q52 := am_Lb22 (am_IL 22 rfl hI) i51
          refine am_riaload (l := a 22) rfl am_ge22 i51 ?_
          refine am_raload_n rfl rfl rfl ?_
          refine am_rgetf (S1 := [.ref 17, am_iv (am_at (a 22) y2), am_iv y1, .ref 114, am_iv 64, .ref 114]) rfl rfl ?_
          refine am_rgetf (S1 := [.ref 23, am_iv (am_at (a 22) y2), am_iv y1, .ref 114, am_iv 64, .ref 114]) rfl rfl ?_
          refine am_riload_n rfl rfl rfl ?_
          have q53 : (a 23).length = 45 := am_Ll23 (am_IL 23 rfl hI)
          have i54 : am_ib (a 23) y2 := by unfold am_ib; omega
          have q55 := am_Lb23 (am_IL 23 rfl hI) i54
          refine am_riaload (l := a 23) rfl am_ge23 i54 ?_
          refine am_evirtualI (m := am_m28) (As := [.ref 114, am_iv y1, am_iv (am_at (a 22) y2), am_iv (am_at (a 23) y2)]) (S1 := [am_iv 64, .ref 114]) rfl rfl rfl rfl rfl rfl rfl rfl rfl rfl (am_TE.int (am_ct28 (y1 := y1) (y2 := (am_at (a 22) y2)) (y3 := (am_at (a 23) y2)) (by omega) hI (by omega) (by omega) (by omega) (by omega) (by omega) (by omega) (by omega) (by omega) (by omega)) (fun b56 f56 a56 hq57 => ?_) (fun _ _ _ h => h))
          obtain ⟨rfl, rfl, hq57⟩ := hq57
          refine am_rif_ne rfl rfl (by unfold am_rg; omega) (fun hc58 => ?_) (fun hc58 => ?_)
          · refine am_riconst rfl ?_
            refine am_evirtualV (m := am_m18) (As := [.ref 114, am_iv 64, am_iv 0]) (S1 := []) rfl rfl rfl rfl rfl rfl rfl rfl rfl rfl (am_TE.void (am_ct18 (y1 := 64) (y2 := 0) (by omega) hI (by omega) (by omega)) (fun f59 a59 hq60 => ?_) (fun _ _ _ h => h))
            obtain ⟨hI61, hq60⟩ := hq60
            refine am_rgoto rfl rfl ?_
            exact am_eret rfl rfl hI61
          · refine am_riconst rfl ?_
            refine am_rgoto rfl rfl ?_
            refine am_evirtualV (m := am_m18) (As := [.ref 114, am_iv 64, am_iv 1]) (S1 := []) rfl rfl rfl rfl rfl rfl rfl rfl rfl rfl (am_TE.void (am_ct18 (y1 := 64) (y2 := 1) (by omega) hI (by omega) (by omega)) (fun f62 a62 hq63 => ?_) (fun _ _ _ h => h))
            obtain ⟨hI64, hq63⟩ := hq63
            refine am_rgoto rfl rfl ?_
            exact am_eret rfl rfl hI64
    · refine am_raload_n rfl rfl rfl ?_
      refine am_rgetf (S1 := [.ref 106]) rfl rfl ?_
      refine am_riload_n rfl rfl rfl ?_
      refine am_raload_n rfl rfl rfl ?_
      refine am_rgetf (S1 := [.ref 17, am_iv y1, .ref 106]) rfl rfl ?_
      refine am_rgetf (S1 := [.ref 26, am_iv y1, .ref 106]) rfl rfl ?_
      refine am_raload_n rfl rfl rfl ?_
      refine am_rgetf (S1 := [.ref 17, .ref 26, am_iv y1, .ref 106]) rfl rfl ?_
      refine am_rgetf (S1 := [.ref 24, .ref 26, am_iv y1, .ref 106]) rfl rfl ?_
      refine am_riload_n rfl rfl rfl ?_
      have q65 : (a 24).length = 45 := am_Ll24 (am_IL 24 rfl hI)
      have i66 : am_ib (a 24) y2 := by unfold am_ib; omega
      have q67 := am_Lb24 (am_IL 24 rfl hI) i66
      have r8 := hI.2.2.2.2.2.2 y2 (by omega) (by omega)
      refine am_riaload (l := a 24) rfl am_ge24 i66 ?_
      refine am_raload_n rfl rfl rfl ?_
      refine am_rgetf (S1 := [.ref 17, am_iv (am_at (a 24) y2), .ref 26, am_iv y1, .ref 106]) rfl rfl ?_
      refine am_rgetf (S1 := [.ref 25, am_iv (am_at (a 24) y2), .ref 26, am_iv y1, .ref 106]) rfl rfl ?_
      refine am_riload_n rfl rfl rfl ?_
      have q68 : (a 25).length = 45 := am_Ll25 (am_IL 25 rfl hI)
      have i69 : am_ib (a 25) y2 := by unfold am_ib; omega
      have q70 := am_Lb25 (am_IL 25 rfl hI) i69
      refine am_riaload (l := a 25) rfl am_ge25 i69 ?_
      refine am_evirtualI (m := am_m12) (As := [.ref 106, am_iv y1, .ref 26, am_iv (am_at (a 24) y2), am_iv (am_at (a 25) y2)]) (S1 := []) rfl rfl rfl rfl rfl rfl rfl rfl rfl rfl (am_TE.int (am_ct12t (y1 := y1) (y3 := (am_at (a 24) y2)) (y4 := (am_at (a 25) y2)) (by omega) hI (by omega) (by omega) (by omega) (by omega) (by omega) (by omega) (by omega)) (fun b71 f71 a71 hq72 => ?_) (fun _ _ _ h => h))
      obtain ⟨rfl, rfl, hq72⟩ := hq72
      refine am_ristore_n (L1 := [(0, .ref 114), (1, am_iv y1), (2, am_iv y2), (3, am_iv b71)]) rfl rfl rfl rfl rfl ?_
      refine am_raload_n rfl rfl rfl ?_
      refine am_rbipush rfl (by decide) ?_
      refine am_riload_n rfl rfl rfl ?_
      refine am_rif_ne rfl rfl (by unfold am_rg; omega) (fun hc73 => ?_) (fun hc73 => ?_)
      · refine am_riconst rfl ?_
        refine am_evirtualV (m := am_m18) (As := [.ref 114, am_iv 32, am_iv 0]) (S1 := []) rfl rfl rfl rfl rfl rfl rfl rfl rfl rfl (am_TE.void (am_ct18 (y1 := 32) (y2 := 0) (by omega) hI (by omega) (by omega)) (fun f74 a74 hq75 => ?_) (fun _ _ _ h => h))
        obtain ⟨hI76, hq75⟩ := hq75
        refine am_raload_n rfl rfl rfl ?_
        refine am_rgetf (S1 := [.ref 17]) rfl rfl ?_
        refine am_rgetf (S1 := [.ref 20]) rfl rfl ?_
        refine am_riload_n rfl rfl rfl ?_
        have q77 : (a74 20).length = 45 := am_Ll20 (am_IL 20 rfl hI76)
        have i78 : am_ib (a74 20) y2 := by unfold am_ib; omega
        have q79 := am_Lb20 (am_IL 20 rfl hI76) i78
        refine am_riaload (l := a74 20) rfl am_ge20 i78 ?_
        refine am_rsw rfl (by unfold am_rg; omega) rfl (fun hc80 => ?_) (fun h8 h9 => ?_)
        · exact am_eret rfl rfl hI76
        · rcases (show (am_at (a74 20) y2) = 1 ∨ (am_at (a74 20) y2) = 2 ∨ (am_at (a74 20) y2) = 3 ∨ (am_at (a74 20) y2) = 4 by omega) with hc80 | hc80 | hc80 | hc80
          · refine ⟨_, _, by rw [hc80]; rfl, rfl, ?_⟩
            refine am_raload_n rfl rfl rfl ?_
            refine am_rsipush rfl (by decide) ?_
            refine am_raload_n rfl rfl rfl ?_
            refine am_rgetf (S1 := [.ref 106, am_iv 128, .ref 114]) rfl rfl ?_
            refine am_riload_n rfl rfl rfl ?_
            refine am_evirtualI (m := am_m14) (As := [.ref 106, am_iv y1]) (S1 := [am_iv 128, .ref 114]) rfl rfl rfl rfl rfl rfl rfl rfl rfl rfl (am_TE.int (am_ct14 (y1 := y1) (by omega) hI76 (by omega) (by omega) (by omega)) (fun b81 f81 a81 hq82 => ?_) (fun _ _ _ h => h))
            obtain ⟨rfl, rfl, hq82⟩ := hq82
            refine am_rif_eq rfl rfl (by unfold am_rg; omega) (fun hc83 => ?_) (fun hc83 => ?_)
            · refine am_riconst rfl ?_
              refine am_rgoto rfl rfl ?_
              have q84 := am_Ig10606 hI76
              refine am_evirtualV (m := am_m18) (As := [.ref 114, am_iv 128, am_iv 1]) (S1 := []) rfl rfl rfl rfl rfl rfl rfl rfl rfl rfl (am_TE.void (am_ct18 (y1 := 128) (y2 := 1) (by omega) hI76 (by omega) (by omega)) (fun f85 a85 hq86 => ?_) (fun _ _ _ h => h))
              obtain ⟨hI87, hq86⟩ := hq86
              refine am_rgoto rfl rfl ?_
              exact am_eret rfl rfl hI87
            · refine am_raload_n rfl rfl rfl ?_
              refine am_rgetf (S1 := [.ref 106, am_iv 128, .ref 114]) rfl rfl ?_
              refine am_riload_n rfl rfl rfl ?_
              refine am_evirtualI (m := am_m15) (As := [.ref 106, am_iv y1]) (S1 := [am_iv 128, .ref 114]) rfl rfl rfl rfl rfl rfl rfl rfl rfl rfl (am_TE.int (am_ct15 (y1 := y1) (by omega) hI76 (by omega) (by omega) (by omega)) (fun b88 f88 a88 hq89 => ?_) (fun _ _ _ h => h))
              obtain ⟨rfl, rfl, hq89⟩ := hq89
              refine am_rif_eq rfl rfl (by unfold am_rg; omega) (fun hc90 => ?_) (fun hc90 => ?_)
              · refine am_riconst rfl ?_
                refine am_rgoto rfl rfl ?_
                have q91 := am_Ig10606 hI76
                refine am_evirtualV (m := am_m18) (As := [.ref 114, am_iv 128, am_iv 1]) (S1 := []) rfl rfl rfl rfl rfl rfl rfl rfl rfl rfl (am_TE.void (am_ct18 (y1 := 128) (y2 := 1) (by omega) hI76 (by omega) (by omega)) (fun f92 a92 hq93 => ?_) (fun _ _ _ h => h))
                obtain ⟨hI94, hq93⟩ := hq93
                refine am_rgoto rfl rfl ?_
                exact am_eret rfl rfl hI94
              · refine am_raload_n rfl rfl rfl ?_
                refine am_riload_n rfl rfl rfl ?_
                refine am_riload_n rfl rfl rfl ?_
                refine am_evirtualI (m := am_m29) (As := [.ref 114, am_iv y1, am_iv y1]) (S1 := [am_iv 128, .ref 114]) rfl rfl rfl rfl rfl rfl rfl rfl rfl rfl (am_TE.int (am_ct29 (y1 := y1) (y2 := y1) (by omega) hI76 (by omega) (by omega) (by omega) (by omega) (by omega)) (fun b95 f95 a95 hq96 => ?_) (fun _ _ _ h => h))
                obtain ⟨rfl, rfl, hq96⟩ := hq96
                refine am_rif_eq rfl rfl (by unfold am_rg; omega) (fun hc97 => ?_) (fun hc97 => ?_)
                · refine am_riconst rfl ?_
                  have q98 := am_Ig10606 hI76
                  refine am_evirtualV (m := am_m18) (As := [.ref 114, am_iv 128, am_iv 0]) (S1 := []) rfl rfl rfl rfl rfl rfl rfl rfl rfl rfl (am_TE.void (am_ct18 (y1 := 128) (y2 := 0) (by omega) hI76 (by omega) (by omega)) (fun f99 a99 hq100 => ?_) (fun _ _ _ h => h))
                  obtain ⟨hI101, hq100⟩ := hq100
                  refine am_rgoto rfl rfl ?_
                  exact am_eret rfl rfl hI101
                · refine am_riconst rfl ?_
                  refine am_rgoto rfl rfl ?_
                  have q102 := am_Ig10606 hI76
                  refine am_evirtualV (m := am_m18) (As := [.ref 114, am_iv 128, am_iv 1]) (S1 := []) rfl rfl rfl rfl rfl rfl rfl rfl rfl rfl (am_TE.void (am_ct18 (y1 := 128) (y2 := 1) (by omega) hI76 (by omega) (by omega)) (fun f103 a103 hq104 => ?_) (fun _ _ _ h => h))
                  obtain ⟨hI105, hq104⟩ := hq104
                  refine am_rgoto rfl rfl ?_
                  exact am_eret rfl rfl hI105
          · refine ⟨_, _, by rw [hc80]; rfl, rfl, ?_⟩
            refine am_raload_n rfl rfl rfl ?_
            refine am_rsipush rfl (by decide) ?_
            refine am_raload_n rfl rfl rfl ?_
            refine am_raload_n rfl rfl rfl ?_
            refine am_rgetf (S1 := [.ref 106, .ref 114, am_iv 256, .ref 114]) rfl rfl ?_
            have q106 := am_Ig10606 hI76
            refine am_rgetf (S1 := [am_iv (f74 10606), .ref 114, am_iv 256, .ref 114]) rfl rfl ?_
            refine am_riload_n rfl rfl rfl ?_
            refine am_evirtualI (m := am_m29) (As := [.ref 114, am_iv (f74 10606), am_iv y1]) (S1 := [am_iv 256, .ref 114]) rfl rfl rfl rfl rfl rfl rfl rfl rfl rfl (am_TE.int (am_ct29 (y1 := (f74 10606)) (y2 := y1) (by omega) hI76 (by omega) (by omega) (by omega) (by omega) (by omega)) (fun b107 f107 a107 hq108 => ?_) (fun _ _ _ h => h))
            obtain ⟨rfl, rfl, hq108⟩ := hq108
            refine am_rif_ne rfl rfl (by unfold am_rg; omega) (fun hc109 => ?_) (fun hc109 => ?_)
            · refine am_riconst rfl ?_
              refine am_evirtualV (m := am_m18) (As := [.ref 114, am_iv 256, am_iv 0]) (S1 := []) rfl rfl rfl rfl rfl rfl rfl rfl rfl rfl (am_TE.void (am_ct18 (y1 := 256) (y2 := 0) (by omega) hI76 (by omega) (by omega)) (fun f110 a110 hq111 => ?_) (fun _ _ _ h => h))
              obtain ⟨hI112, hq111⟩ := hq111
              refine am_rgoto rfl rfl ?_
              exact am_eret rfl rfl hI112
            · refine am_riconst rfl ?_
              refine am_rgoto rfl rfl ?_
              refine am_evirtualV (m := am_m18) (As := [.ref 114, am_iv 256, am_iv 1]) (S1 := []) rfl rfl rfl rfl rfl rfl rfl rfl rfl rfl (am_TE.void (am_ct18 (y1 := 256) (y2 := 1) (by omega) hI76 (by omega) (by omega)) (fun f113 a113 hq114 => ?_) (fun _ _ _ h => h))
              obtain ⟨hI115, hq114⟩ := hq114
              refine am_rgoto rfl rfl ?_
              exact am_eret rfl rfl hI115
          · refine ⟨_, _, by rw [hc80]; rfl, rfl, ?_⟩
            refine am_raload_n rfl rfl rfl ?_
            refine am_rbipush rfl (by decide) ?_
            refine am_raload_n rfl rfl rfl ?_
            refine am_rgetf (S1 := [.ref 106, am_iv 64, .ref 114]) rfl rfl ?_
            refine am_riload_n rfl rfl rfl ?_
            refine am_evirtualI (m := am_m14) (As := [.ref 106, am_iv y1]) (S1 := [am_iv 64, .ref 114]) rfl rfl rfl rfl rfl rfl rfl rfl rfl rfl (am_TE.int (am_ct14 (y1 := y1) (by omega) hI76 (by omega) (by omega) (by omega)) (fun b116 f116 a116 hq117 => ?_) (fun _ _ _ h => h))
            obtain ⟨rfl, rfl, hq117⟩ := hq117
            refine am_rif_ne rfl rfl (by unfold am_rg; omega) (fun hc118 => ?_) (fun hc118 => ?_)
            · refine am_riconst rfl ?_
              have q119 := am_Ig10606 hI76
              refine am_evirtualV (m := am_m18) (As := [.ref 114, am_iv 64, am_iv 0]) (S1 := []) rfl rfl rfl rfl rfl rfl rfl rfl rfl rfl (am_TE.void (am_ct18 (y1 := 64) (y2 := 0) (by omega) hI76 (by omega) (by omega)) (fun f120 a120 hq121 => ?_) (fun _ _ _ h => h))
              obtain ⟨hI122, hq121⟩ := hq121
              refine am_rgoto rfl rfl ?_
              exact am_eret rfl rfl hI122
            · refine am_riconst rfl ?_
              refine am_rgoto rfl rfl ?_
              have q123 := am_Ig10606 hI76
              refine am_evirtualV (m := am_m18) (As := [.ref 114, am_iv 64, am_iv 1]) (S1 := []) rfl rfl rfl rfl rfl rfl rfl rfl rfl rfl (am_TE.void (am_ct18 (y1 := 64) (y2 := 1) (by omega) hI76 (by omega) (by omega)) (fun f124 a124 hq125 => ?_) (fun _ _ _ h => h))
              obtain ⟨hI126, hq125⟩ := hq125
              refine am_rgoto rfl rfl ?_
              exact am_eret rfl rfl hI126
          · refine ⟨_, _, by rw [hc80]; rfl, rfl, ?_⟩
            refine am_raload_n rfl rfl rfl ?_
            refine am_rbipush rfl (by decide) ?_
            refine am_raload_n rfl rfl rfl ?_
            refine am_riload_n rfl rfl rfl ?_
            refine am_raload_n rfl rfl rfl ?_
            refine am_rgetf (S1 := [.ref 17, am_iv y1, .ref 114, am_iv 64, .ref 114]) rfl rfl ?_
            refine am_rgetf (S1 := [.ref 22, am_iv y1, .ref 114, am_iv 64, .ref 114]) rfl rfl ?_
            refine am_riload_n rfl rfl rfl ?_
            have q127 : (a74 22).length = 45 := am_Ll22 (am_IL 22 rfl hI76)
            have i128 : am_ib (a74 22) y2 := by unfold am_ib; omega
            have q129 := am_Lb22 (am_IL 22 rfl hI76) i128
            refine am_riaload (l := a74 22) rfl am_ge22 i128 ?_
            refine am_raload_n rfl rfl rfl ?_
            refine am_rgetf (S1 := [.ref 17, am_iv (am_at (a74 22) y2), am_iv y1, .ref 114, am_iv 64, .ref 114]) rfl rfl ?_
            refine am_rgetf (S1 := [.ref 23, am_iv (am_at (a74 22) y2), am_iv y1, .ref 114, am_iv 64, .ref 114]) rfl rfl ?_
            refine am_riload_n rfl rfl rfl ?_
            have q130 : (a74 23).length = 45 := am_Ll23 (am_IL 23 rfl hI76)
            have i131 : am_ib (a74 23) y2 := by unfold am_ib; omega
            have q132 := am_Lb23 (am_IL 23 rfl hI76) i131
            refine am_riaload (l := a74 23) rfl am_ge23 i131 ?_
            refine am_evirtualI (m := am_m28) (As := [.ref 114, am_iv y1, am_iv (am_at (a74 22) y2), am_iv (am_at (a74 23) y2)]) (S1 := [am_iv 64, .ref 114]) rfl rfl rfl rfl rfl rfl rfl rfl rfl rfl (am_TE.int (am_ct28 (y1 := y1) (y2 := (am_at (a74 22) y2)) (y3 := (am_at (a74 23) y2)) (by omega) hI76 (by omega) (by omega) (by omega) (by omega) (by omega) (by omega) (by omega) (by omega) (by omega)) (fun b133 f133 a133 hq134 => ?_) (fun _ _ _ h => h))
            obtain ⟨rfl, rfl, hq134⟩ := hq134
            refine am_rif_ne rfl rfl (by unfold am_rg; omega) (fun hc135 => ?_) (fun hc135 => ?_)
            · refine am_riconst rfl ?_
              have q136 := am_Ig10606 hI76
              refine am_evirtualV (m := am_m18) (As := [.ref 114, am_iv 64, am_iv 0]) (S1 := []) rfl rfl rfl rfl rfl rfl rfl rfl rfl rfl (am_TE.void (am_ct18 (y1 := 64) (y2 := 0) (by omega) hI76 (by omega) (by omega)) (fun f137 a137 hq138 => ?_) (fun _ _ _ h => h))
              obtain ⟨hI139, hq138⟩ := hq138
              refine am_rgoto rfl rfl ?_
              exact am_eret rfl rfl hI139
            · refine am_riconst rfl ?_
              refine am_rgoto rfl rfl ?_
              have q140 := am_Ig10606 hI76
              refine am_evirtualV (m := am_m18) (As := [.ref 114, am_iv 64, am_iv 1]) (S1 := []) rfl rfl rfl rfl rfl rfl rfl rfl rfl rfl (am_TE.void (am_ct18 (y1 := 64) (y2 := 1) (by omega) hI76 (by omega) (by omega)) (fun f141 a141 hq142 => ?_) (fun _ _ _ h => h))
              obtain ⟨hI143, hq142⟩ := hq142
              refine am_rgoto rfl rfl ?_
              exact am_eret rfl rfl hI143
      · refine am_riconst rfl ?_
        refine am_rgoto rfl rfl ?_
        refine am_evirtualV (m := am_m18) (As := [.ref 114, am_iv 32, am_iv 1]) (S1 := []) rfl rfl rfl rfl rfl rfl rfl rfl rfl rfl (am_TE.void (am_ct18 (y1 := 32) (y2 := 1) (by omega) hI (by omega) (by omega)) (fun f144 a144 hq145 => ?_) (fun _ _ _ h => h))
        obtain ⟨hI146, hq145⟩ := hq145
        refine am_raload_n rfl rfl rfl ?_
        refine am_rgetf (S1 := [.ref 17]) rfl rfl ?_
        refine am_rgetf (S1 := [.ref 20]) rfl rfl ?_
        refine am_riload_n rfl rfl rfl ?_
        have q147 : (a144 20).length = 45 := am_Ll20 (am_IL 20 rfl hI146)
        have i148 : am_ib (a144 20) y2 := by unfold am_ib; omega
        have q149 := am_Lb20 (am_IL 20 rfl hI146) i148
        refine am_riaload (l := a144 20) rfl am_ge20 i148 ?_
        refine am_rsw rfl (by unfold am_rg; omega) rfl (fun hc150 => ?_) (fun h8 h9 => ?_)
        · exact am_eret rfl rfl hI146
        · rcases (show (am_at (a144 20) y2) = 1 ∨ (am_at (a144 20) y2) = 2 ∨ (am_at (a144 20) y2) = 3 ∨ (am_at (a144 20) y2) = 4 by omega) with hc150 | hc150 | hc150 | hc150
          · refine ⟨_, _, by rw [hc150]; rfl, rfl, ?_⟩
            refine am_raload_n rfl rfl rfl ?_
            refine am_rsipush rfl (by decide) ?_
            refine am_raload_n rfl rfl rfl ?_
            refine am_rgetf (S1 := [.ref 106, am_iv 128, .ref 114]) rfl rfl ?_
            refine am_riload_n rfl rfl rfl ?_
            refine am_evirtualI (m := am_m14) (As := [.ref 106, am_iv y1]) (S1 := [am_iv 128, .ref 114]) rfl rfl rfl rfl rfl rfl rfl rfl rfl rfl (am_TE.int (am_ct14 (y1 := y1) (by omega) hI146 (by omega) (by omega) (by omega)) (fun b151 f151 a151 hq152 => ?_) (fun _ _ _ h => h))
            obtain ⟨rfl, rfl, hq152⟩ := hq152
            refine am_rif_eq rfl rfl (by unfold am_rg; omega) (fun hc153 => ?_) (fun hc153 => ?_)
            · refine am_riconst rfl ?_
              refine am_rgoto rfl rfl ?_
              have q154 := am_Ig10606 hI146
              refine am_evirtualV (m := am_m18) (As := [.ref 114, am_iv 128, am_iv 1]) (S1 := []) rfl rfl rfl rfl rfl rfl rfl rfl rfl rfl (am_TE.void (am_ct18 (y1 := 128) (y2 := 1) (by omega) hI146 (by omega) (by omega)) (fun f155 a155 hq156 => ?_) (fun _ _ _ h => h))
              obtain ⟨hI157, hq156⟩ := hq156
              refine am_rgoto rfl rfl ?_
              exact am_eret rfl rfl hI157
            · refine am_raload_n rfl rfl rfl ?_
              refine am_rgetf (S1 := [.ref 106, am_iv 128, .ref 114]) rfl rfl ?_
              refine am_riload_n rfl rfl rfl ?_
              refine am_evirtualI (m := am_m15) (As := [.ref 106, am_iv y1]) (S1 := [am_iv 128, .ref 114]) rfl rfl rfl rfl rfl rfl rfl rfl rfl rfl (am_TE.int (am_ct15 (y1 := y1) (by omega) hI146 (by omega) (by omega) (by omega)) (fun b158 f158 a158 hq159 => ?_) (fun _ _ _ h => h))
              obtain ⟨rfl, rfl, hq159⟩ := hq159
              refine am_rif_eq rfl rfl (by unfold am_rg; omega) (fun hc160 => ?_) (fun hc160 => ?_)
              · refine am_riconst rfl ?_
                refine am_rgoto rfl rfl ?_
                have q161 := am_Ig10606 hI146
                refine am_evirtualV (m := am_m18) (As := [.ref 114, am_iv 128, am_iv 1]) (S1 := []) rfl rfl rfl rfl rfl rfl rfl rfl rfl rfl (am_TE.void (am_ct18 (y1 := 128) (y2 := 1) (by omega) hI146 (by omega) (by omega)) (fun f162 a162 hq163 => ?_) (fun _ _ _ h => h))
                obtain ⟨hI164, hq163⟩ := hq163
                refine am_rgoto rfl rfl ?_
                exact am_eret rfl rfl hI164
              · refine am_raload_n rfl rfl rfl ?_
                refine am_riload_n rfl rfl rfl ?_
                refine am_riload_n rfl rfl rfl ?_
                refine am_evirtualI (m := am_m29) (As := [.ref 114, am_iv y1, am_iv y1]) (S1 := [am_iv 128, .ref 114]) rfl rfl rfl rfl rfl rfl rfl rfl rfl rfl (am_TE.int (am_ct29 (y1 := y1) (y2 := y1) (by omega) hI146 (by omega) (by omega) (by omega) (by omega) (by omega)) (fun b165 f165 a165 hq166 => ?_) (fun _ _ _ h => h))
                obtain ⟨rfl, rfl, hq166⟩ := hq166
                refine am_rif_eq rfl rfl (by unfold am_rg; omega) (fun hc167 => ?_) (fun hc167 => ?_)
                · refine am_riconst rfl ?_
                  have q168 := am_Ig10606 hI146
                  refine am_evirtualV (m := am_m18) (As := [.ref 114, am_iv 128, am_iv 0]) (S1 := []) rfl rfl rfl rfl rfl rfl rfl rfl rfl rfl (am_TE.void (am_ct18 (y1 := 128) (y2 := 0) (by omega) hI146 (by omega) (by omega)) (fun f169 a169 hq170 => ?_) (fun _ _ _ h => h))
                  obtain ⟨hI171, hq170⟩ := hq170
                  refine am_rgoto rfl rfl ?_
                  exact am_eret rfl rfl hI171
                · refine am_riconst rfl ?_
                  refine am_rgoto rfl rfl ?_
                  have q172 := am_Ig10606 hI146
                  refine am_evirtualV (m := am_m18) (As := [.ref 114, am_iv 128, am_iv 1]) (S1 := []) rfl rfl rfl rfl rfl rfl rfl rfl rfl rfl (am_TE.void (am_ct18 (y1 := 128) (y2 := 1) (by omega) hI146 (by omega) (by omega)) (fun f173 a173 hq174 => ?_) (fun _ _ _ h => h))
                  obtain ⟨hI175, hq174⟩ := hq174
                  refine am_rgoto rfl rfl ?_
                  exact am_eret rfl rfl hI175
          · refine ⟨_, _, by rw [hc150]; rfl, rfl, ?_⟩
            refine am_raload_n rfl rfl rfl ?_
            refine am_rsipush rfl (by decide) ?_
            refine am_raload_n rfl rfl rfl ?_
            refine am_raload_n rfl rfl rfl ?_
            refine am_rgetf (S1 := [.ref 106, .ref 114, am_iv 256, .ref 114]) rfl rfl ?_
            have q176 := am_Ig10606 hI146
            refine am_rgetf (S1 := [am_iv (f144 10606), .ref 114, am_iv 256, .ref 114]) rfl rfl ?_
            refine am_riload_n rfl rfl rfl ?_
            refine am_evirtualI (m := am_m29) (As := [.ref 114, am_iv (f144 10606), am_iv y1]) (S1 := [am_iv 256, .ref 114]) rfl rfl rfl rfl rfl rfl rfl rfl rfl rfl (am_TE.int (am_ct29 (y1 := (f144 10606)) (y2 := y1) (by omega) hI146 (by omega) (by omega) (by omega) (by omega) (by omega)) (fun b177 f177 a177 hq178 => ?_) (fun _ _ _ h => h))
            obtain ⟨rfl, rfl, hq178⟩ := hq178
            refine am_rif_ne rfl rfl (by unfold am_rg; omega) (fun hc179 => ?_) (fun hc179 => ?_)
            · refine am_riconst rfl ?_
              refine am_evirtualV (m := am_m18) (As := [.ref 114, am_iv 256, am_iv 0]) (S1 := []) rfl rfl rfl rfl rfl rfl rfl rfl rfl rfl (am_TE.void (am_ct18 (y1 := 256) (y2 := 0) (by omega) hI146 (by omega) (by omega)) (fun f180 a180 hq181 => ?_) (fun _ _ _ h => h))
              obtain ⟨hI182, hq181⟩ := hq181
              refine am_rgoto rfl rfl ?_
              exact am_eret rfl rfl hI182
            · refine am_riconst rfl ?_
              refine am_rgoto rfl rfl ?_
              refine am_evirtualV (m := am_m18) (As := [.ref 114, am_iv 256, am_iv 1]) (S1 := []) rfl rfl rfl rfl rfl rfl rfl rfl rfl rfl (am_TE.void (am_ct18 (y1 := 256) (y2 := 1) (by omega) hI146 (by omega) (by omega)) (fun f183 a183 hq184 => ?_) (fun _ _ _ h => h))
              obtain ⟨hI185, hq184⟩ := hq184
              refine am_rgoto rfl rfl ?_
              exact am_eret rfl rfl hI185
          · refine ⟨_, _, by rw [hc150]; rfl, rfl, ?_⟩
            refine am_raload_n rfl rfl rfl ?_
            refine am_rbipush rfl (by decide) ?_
            refine am_raload_n rfl rfl rfl ?_
            refine am_rgetf (S1 := [.ref 106, am_iv 64, .ref 114]) rfl rfl ?_
            refine am_riload_n rfl rfl rfl ?_
            refine am_evirtualI (m := am_m14) (As := [.ref 106, am_iv y1]) (S1 := [am_iv 64, .ref 114]) rfl rfl rfl rfl rfl rfl rfl rfl rfl rfl (am_TE.int (am_ct14 (y1 := y1) (by omega) hI146 (by omega) (by omega) (by omega)) (fun b186 f186 a186 hq187 => ?_) (fun _ _ _ h => h))
            obtain ⟨rfl, rfl, hq187⟩ := hq187
            refine am_rif_ne rfl rfl (by unfold am_rg; omega) (fun hc188 => ?_) (fun hc188 => ?_)
            · refine am_riconst rfl ?_
              have q189 := am_Ig10606 hI146
              refine am_evirtualV (m := am_m18) (As := [.ref 114, am_iv 64, am_iv 0]) (S1 := []) rfl rfl rfl rfl rfl rfl rfl rfl rfl rfl (am_TE.void (am_ct18 (y1 := 64) (y2 := 0) (by omega) hI146 (by omega) (by omega)) (fun f190 a190 hq191 => ?_) (fun _ _ _ h => h))
              obtain ⟨hI192, hq191⟩ := hq191
              refine am_rgoto rfl rfl ?_
              exact am_eret rfl rfl hI192
            · refine am_riconst rfl ?_
              refine am_rgoto rfl rfl ?_
              have q193 := am_Ig10606 hI146
              refine am_evirtualV (m := am_m18) (As := [.ref 114, am_iv 64, am_iv 1]) (S1 := []) rfl rfl rfl rfl rfl rfl rfl rfl rfl rfl (am_TE.void (am_ct18 (y1 := 64) (y2 := 1) (by omega) hI146 (by omega) (by omega)) (fun f194 a194 hq195 => ?_) (fun _ _ _ h => h))
              obtain ⟨hI196, hq195⟩ := hq195
              refine am_rgoto rfl rfl ?_
              exact am_eret rfl rfl hI196
          · refine ⟨_, _, by rw [hc150]; rfl, rfl, ?_⟩
            refine am_raload_n rfl rfl rfl ?_
            refine am_rbipush rfl (by decide) ?_
            refine am_raload_n rfl rfl rfl ?_
            refine am_riload_n rfl rfl rfl ?_
            refine am_raload_n rfl rfl rfl ?_
            refine am_rgetf (S1 := [.ref 17, am_iv y1, .ref 114, am_iv 64, .ref 114]) rfl rfl ?_
            refine am_rgetf (S1 := [.ref 22, am_iv y1, .ref 114, am_iv 64, .ref 114]) rfl rfl ?_
            refine am_riload_n rfl rfl rfl ?_
            have q197 : (a144 22).length = 45 := am_Ll22 (am_IL 22 rfl hI146)
            have i198 : am_ib (a144 22) y2 := by unfold am_ib; omega
            have q199 := am_Lb22 (am_IL 22 rfl hI146) i198
            refine am_riaload (l := a144 22) rfl am_ge22 i198 ?_
            refine am_raload_n rfl rfl rfl ?_
            refine am_rgetf (S1 := [.ref 17, am_iv (am_at (a144 22) y2), am_iv y1, .ref 114, am_iv 64, .ref 114]) rfl rfl ?_
            refine am_rgetf (S1 := [.ref 23, am_iv (am_at (a144 22) y2), am_iv y1, .ref 114, am_iv 64, .ref 114]) rfl rfl ?_
            refine am_riload_n rfl rfl rfl ?_
            have q200 : (a144 23).length = 45 := am_Ll23 (am_IL 23 rfl hI146)
            have i201 : am_ib (a144 23) y2 := by unfold am_ib; omega
            have q202 := am_Lb23 (am_IL 23 rfl hI146) i201
            refine am_riaload (l := a144 23) rfl am_ge23 i201 ?_
            refine am_evirtualI (m := am_m28) (As := [.ref 114, am_iv y1, am_iv (am_at (a144 22) y2), am_iv (am_at (a144 23) y2)]) (S1 := [am_iv 64, .ref 114]) rfl rfl rfl rfl rfl rfl rfl rfl rfl rfl (am_TE.int (am_ct28 (y1 := y1) (y2 := (am_at (a144 22) y2)) (y3 := (am_at (a144 23) y2)) (by omega) hI146 (by omega) (by omega) (by omega) (by omega) (by omega) (by omega) (by omega) (by omega) (by omega)) (fun b203 f203 a203 hq204 => ?_) (fun _ _ _ h => h))
            obtain ⟨rfl, rfl, hq204⟩ := hq204
            refine am_rif_ne rfl rfl (by unfold am_rg; omega) (fun hc205 => ?_) (fun hc205 => ?_)
            · refine am_riconst rfl ?_
              have q206 := am_Ig10606 hI146
              refine am_evirtualV (m := am_m18) (As := [.ref 114, am_iv 64, am_iv 0]) (S1 := []) rfl rfl rfl rfl rfl rfl rfl rfl rfl rfl (am_TE.void (am_ct18 (y1 := 64) (y2 := 0) (by omega) hI146 (by omega) (by omega)) (fun f207 a207 hq208 => ?_) (fun _ _ _ h => h))
              obtain ⟨hI209, hq208⟩ := hq208
              refine am_rgoto rfl rfl ?_
              exact am_eret rfl rfl hI209
            · refine am_riconst rfl ?_
              refine am_rgoto rfl rfl ?_
              have q210 := am_Ig10606 hI146
              refine am_evirtualV (m := am_m18) (As := [.ref 114, am_iv 64, am_iv 1]) (S1 := []) rfl rfl rfl rfl rfl rfl rfl rfl rfl rfl (am_TE.void (am_ct18 (y1 := 64) (y2 := 1) (by omega) hI146 (by omega) (by omega)) (fun f211 a211 hq212 => ?_) (fun _ _ _ h => h))
              obtain ⟨hI213, hq212⟩ := hq212
              refine am_rgoto rfl rfl ?_
              exact am_eret rfl rfl hI213
  · refine am_raload_n rfl rfl rfl ?_
    refine am_rdup rfl rfl ?_
    have q214 := am_Ig11407 hI
    refine am_rgetf (S1 := [am_iv (f 11407), .ref 114]) rfl rfl ?_
    refine am_rbipush rfl (by decide) ?_
    have q215 := am_or_rg (f 11407) 8
    refine am_rior rfl ?_
    refine am_rputf (S1 := []) (h1 := am_enc (am_ud f 11407 (am_or (f 11407) 8)) a w e) rfl (am_pfB rfl am_ge114 rfl (am_sf11407 _)) (by rw [am_enc_len, am_enc_len]) ?_
    have J216 := am_If11407 (v := am_or (f 11407) 8) hI (by omega) (by omega)
    exact am_eret rfl rfl J216
set_option maxRecDepth 100000 in
set_option maxHeartbeats 4000000 in
theorem am_ct20 {X : List Value} {w : Value} {e : Nat} {g : aF} {h : aA} {p : Bool} {d : Nat} {y1 : Int} {f : aF} {a : aA} (hd : 4 ≤ d) (hI : am_IV p g h f a) (hp0 : (-2147483648 ≤ y1 ∧ y1 ≤ 2147483647)) (hp1 : 0 ≤ y1) (hp2 : y1 < f 10606) :
    am_TE X d am_m20 0 (lv_args 0 [.ref 114, am_iv y1]) [] f a w e (am_QV (fun f1 a1 => am_IV p g h f1 a1)) (am_EC g h) := by
  obtain ⟨d, rfl⟩ : ∃ d0, d = d0 + 1 := ⟨d - 1, by omega⟩
  have q1 := am_Ig10606 hI
  refine am_raload_n rfl rfl rfl ?_
  refine am_rgetf (S1 := [.ref 106]) rfl rfl ?_
  refine am_rgetf (S1 := [.ref 107]) rfl rfl ?_
  refine am_riload_n rfl rfl rfl ?_
  have q2 : (a 107).length = 200 := am_Ll107 (am_IL 107 rfl hI)
  have i3 : am_ib (a 107) y1 := by unfold am_ib; omega
  have q4 := am_Lb107 (am_IL 107 rfl hI) i3
  refine am_riaload (l := a 107) rfl am_ge107 i3 ?_
  refine am_rsw rfl (by unfold am_rg; omega) rfl (fun hc5 => ?_) (fun h8 h9 => ?_)
  · refine am_raload_n rfl rfl rfl ?_
    refine am_evirtualV (m := am_m24) (As := [.ref 114]) (S1 := []) rfl rfl rfl rfl rfl rfl rfl rfl rfl rfl (am_TE.void (am_ct24  (by omega) hI) (fun f6 a6 hq7 => ?_) (fun _ _ _ h => h))
    have hI8 := hq7
    exact am_eret rfl rfl hI8
  · rcases (show (am_at (a 107) y1) = 1 ∨ (am_at (a 107) y1) = 2 ∨ (am_at (a 107) y1) = 3 by omega) with hc5 | hc5 | hc5
    · refine ⟨_, _, by rw [hc5]; rfl, rfl, ?_⟩
      refine am_raload_n rfl rfl rfl ?_
      refine am_riload_n rfl rfl rfl ?_
      refine am_evirtualV (m := am_m22) (As := [.ref 114, am_iv y1]) (S1 := []) rfl rfl rfl rfl rfl rfl rfl rfl rfl rfl (am_TE.void (am_ct22 (y1 := y1) (by omega) hI (by omega) (by omega) (by omega) (by omega)) (fun f9 a9 hq10 => ?_) (fun _ _ _ h => h))
      have hI11 := hq10
      refine am_rgoto rfl rfl ?_
      exact am_eret rfl rfl hI11
    · refine ⟨_, _, by rw [hc5]; rfl, rfl, ?_⟩
      refine am_raload_n rfl rfl rfl ?_
      refine am_riload_n rfl rfl rfl ?_
      refine am_raload_n rfl rfl rfl ?_
      refine am_rgetf (S1 := [.ref 106, am_iv y1, .ref 114]) rfl rfl ?_
      refine am_rgetf (S1 := [.ref 111, am_iv y1, .ref 114]) rfl rfl ?_
      refine am_riload_n rfl rfl rfl ?_
      have q12 : (a 111).length = 200 := am_Ll111 (am_IL 111 rfl hI)
      have i13 : am_ib (a 111) y1 := by unfold am_ib; omega
      have q14 := am_Lb111 (am_IL 111 rfl hI) i13
      refine am_riaload (l := a 111) rfl am_ge111 i13 ?_
      refine am_evirtualV (m := am_m27) (As := [.ref 114, am_iv y1, am_iv (am_at (a 111) y1)]) (S1 := []) rfl rfl rfl rfl rfl rfl rfl rfl rfl rfl (am_TE.void (am_ct27 (y1 := y1) (y2 := (am_at (a 111) y1)) (by omega) hI (by omega) (by omega) (by omega) (by omega) (by omega) (by omega)) (fun f15 a15 hq16 => ?_) (fun _ _ _ h => h))
      have hI17 := hq16
      refine am_rgoto rfl rfl ?_
      exact am_eret rfl rfl hI17
    · refine ⟨_, _, by rw [hc5]; rfl, rfl, ?_⟩
      refine am_raload_n rfl rfl rfl ?_
      refine am_riload_n rfl rfl rfl ?_
      refine am_evirtualV (m := am_m23) (As := [.ref 114, am_iv y1]) (S1 := []) rfl rfl rfl rfl rfl rfl rfl rfl rfl rfl (am_TE.void (am_ct23 (y1 := y1) (by omega) hI (by omega) (by omega) (by omega)) (fun f18 a18 hq19 => ?_) (fun _ _ _ h => h))
      have hI20 := hq19
      refine am_rgoto rfl rfl ?_
      exact am_eret rfl rfl hI20
set_option maxRecDepth 100000 in
set_option maxHeartbeats 4000000 in
theorem am_ct17_29 {X : List Value} {w : Value} {e : Nat} {g : aF} {h : aA} {p : Bool} {d : Nat} (hd : 5 ≤ d + 1) (n : Nat) :
    ∀ {f : aF} {a : aA} {x1 : Int}, (200 - x1).toNat < n → am_IV p g h f a → (-2147483648 ≤ x1 ∧ x1 ≤ 2147483647) → 0 ≤ x1 → am_TE X (d + 1) am_m17 29 [(0, .ref 114), (1, am_iv x1)] [] f a w e (am_QI (fun b f1 a1 => am_IV p g h f1 a1 ∧ (-2147483648 ≤ b ∧ b ≤ 2147483647))) (am_EC g h) := by
  induction n with
  | zero => intros; omega
  | succ n ih =>
    intro f a x1 hn hI hp0 hp1
    refine am_riload_n rfl rfl rfl ?_
    refine am_raload_n rfl rfl rfl ?_
    refine am_rgetf (S1 := [.ref 106, am_iv x1]) rfl rfl ?_
    have q1 := am_Ig10606 hI
    refine am_rgetf (S1 := [am_iv (f 10606), am_iv x1]) rfl rfl ?_
    refine am_ric_ge rfl rfl (by unfold am_rg; omega) (by unfold am_rg; omega) (fun hc2 => ?_) (fun hc2 => ?_)
    · refine am_raload_n rfl rfl rfl ?_
      have q3 := am_Ig11407 hI
      refine am_rgetf (S1 := [am_iv (f 11407)]) rfl rfl ?_
      exact am_eiret rfl rfl ⟨hI, (show (-2147483648 ≤ f 11407 ∧ f 11407 ≤ 2147483647) by omega)⟩
    · refine am_raload_n rfl rfl rfl ?_
      refine am_riload_n rfl rfl rfl ?_
      refine am_evirtualV (m := am_m20) (As := [.ref 114, am_iv x1]) (S1 := []) rfl rfl rfl rfl rfl rfl rfl rfl rfl rfl (am_TE.void (am_ct20 (y1 := x1) (by omega) hI (by omega) (by omega) (by omega)) (fun f4 a4 hq5 => ?_) (fun _ _ _ h => h))
      have hI6 := hq5
      refine am_riinc (L1 := [(0, .ref 114), (1, am_iv (x1 + 1))]) rfl rfl rfl rfl rfl ?_
      refine am_rgoto rfl rfl ?_
      exact ih (by omega) hI6 (by omega) (by omega)
set_option maxRecDepth 100000 in
set_option maxHeartbeats 4000000 in
theorem am_ct17 {X : List Value} {w : Value} {e : Nat} {g : aF} {h : aA} {p : Bool} {d : Nat} {f : aF} {a : aA} (hd : 5 ≤ d) (hI : am_IV p g h f a) :
    am_TE X d am_m17 0 (lv_args 0 [.ref 114]) [] f a w e (am_QI (fun b f1 a1 => am_IV p g h f1 a1 ∧ (-2147483648 ≤ b ∧ b ≤ 2147483647))) (am_EC g h) := by
  obtain ⟨d, rfl⟩ : ∃ d0, d = d0 + 1 := ⟨d - 1, by omega⟩
  refine am_raload_n rfl rfl rfl ?_
  refine am_rgetf (S1 := [.ref 12]) rfl rfl ?_
  have q1 := am_Ig1207 hI
  refine am_rgetf (S1 := [am_iv (f 1207)]) rfl rfl ?_
  refine am_riconst rfl ?_
  refine am_ric_ne rfl rfl (by unfold am_rg; omega) (by unfold am_rg; omega) (fun hc2 => ?_) (fun hc2 => ?_)
  · refine am_raload_n rfl rfl rfl ?_
    refine am_riconst rfl ?_
    refine am_rputf (S1 := []) (h1 := am_enc (am_ud f 11407 0) a w e) rfl (am_pfB rfl am_ge114 rfl (am_sf11407 _)) (by rw [am_enc_len, am_enc_len]) ?_
    refine am_raload_n rfl rfl rfl ?_
    refine am_riconst rfl ?_
    refine am_rputf (S1 := []) (h1 := am_enc (am_ud (am_ud f 11407 0) 11406 0) a w e) rfl (am_pfB rfl am_ge114 rfl (am_sf11406 _)) (by rw [am_enc_len, am_enc_len]) ?_
    refine am_raload_n rfl rfl rfl ?_
    have J3 := am_Jf11407 (v := 0) hI.1 (by omega) (by omega)
    have J4 := am_Jf11406 (v := 0) J3 (by omega) (by omega)
    have J5 : am_IV p g h (am_ud (am_ud f 11407 0) 11406 0) a := ⟨J4, by
        exact ⟨hI.2.1, hI.2.2.1, hI.2.2.2.1, hI.2.2.2.2.1, am_R6_0 _, hI.2.2.2.2.2.2⟩
      ⟩
    refine am_evirtualV (m := am_m19) (As := [.ref 114]) (S1 := []) rfl rfl rfl rfl rfl rfl rfl rfl rfl rfl (am_TE.void (am_ct19  (by omega) J5) (fun f6 a6 hq7 => ?_) (fun _ _ _ h => h))
    have hI8 := hq7
    refine am_riconst rfl ?_
    refine am_ristore_n (L1 := [(0, .ref 114), (1, am_iv 0)]) rfl rfl rfl rfl rfl ?_
    exact am_ct17_29 hd (_ + 1) (Nat.lt_succ_self _) hI8 (by omega) (by omega)
  · refine am_riconst rfl ?_
    exact am_eiret rfl rfl ⟨hI, (show (-2147483648 ≤ (1 : Int) ∧ (1 : Int) ≤ 2147483647) by omega)⟩
