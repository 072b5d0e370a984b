set_option maxRecDepth 100000 in
set_option maxHeartbeats 4000000 in
theorem am_ct92 {X : List Value} {w : Value} {e : Nat} {g : aF} {h : aA} {p : Bool} {d : Nat} {y1 : Int} {f : aF} {a : aA} (hd : 2 ≤ d) (hI : am_IV p g h f a) (hp0 : (-2147483648 ≤ y1 ∧ y1 ≤ 2147483647)) (hp1 : 0 ≤ y1) (hp2 : y1 ≤ 122) :
    am_TE X d am_m92 0 (lv_args 0 [.ref 113, am_iv y1]) [] f a w e (am_QV (fun f1 a1 => am_IV p g h f1 a1)) (am_EC g h) := by
  obtain ⟨d, rfl⟩ : ∃ d0, d = d0 + 1 := ⟨d - 1, by omega⟩
  refine am_raload_n rfl rfl rfl ?_
  refine am_rgetf (S1 := [.ref 4]) rfl rfl ?_
  refine am_riload_n rfl rfl rfl ?_
  refine am_evirtualV (m := am_m62) (As := [.ref 4, am_iv y1]) (S1 := []) rfl rfl rfl rfl rfl rfl rfl rfl rfl rfl (am_TE.void (am_ct62 (y1 := y1) (by omega) hI (by omega)) (fun f1 a1 hq2 => ?_) (fun _ _ _ h => h))
  have hI3 := hq2
  refine am_raload_n rfl rfl rfl ?_
  refine am_rgetf (S1 := [.ref 106]) rfl rfl ?_
  refine am_riconst rfl ?_
  refine am_riload_n rfl rfl rfl ?_
  have q4 := am_Ig10606 hI3
  have q5 := am_Ig10607 hI3
  refine am_evirtualV (m := am_m9) (As := [.ref 106, am_iv 4, am_iv y1]) (S1 := []) rfl rfl rfl rfl rfl rfl rfl rfl rfl rfl (am_TE.void (am_ct9 (y1 := 4) (y2 := y1) (by omega) hI3 (by omega) (by omega) (by omega) (by omega) (by omega)) (fun f6 a6 hq7 => ?_) (fun _ _ _ h => h))
  obtain ⟨hI8, hq7⟩ := hq7
  exact am_eret rfl rfl hI8
set_option maxRecDepth 100000 in
set_option maxHeartbeats 4000000 in
theorem am_ct91 {X : List Value} {w : Value} {e : Nat} {g : aF} {h : aA} {p : Bool} {d : Nat} {f : aF} {a : aA} (hd : 3 ≤ d) (hI : am_IV p g h f a) :
    am_TE X d am_m91 0 (lv_args 0 [.ref 113]) [] f a w e (am_QV (fun f1 a1 => am_IV p g h f1 a1)) (am_EC g h) := by
  obtain ⟨d, rfl⟩ : ∃ d0, d = d0 + 1 := ⟨d - 1, by omega⟩
  refine am_raload_n rfl rfl rfl ?_
  refine am_rgetf (S1 := [.ref 2]) rfl rfl ?_
  have q1 := am_Ig201 hI
  refine am_evirtualI (m := am_m75) (As := [.ref 2]) (S1 := []) rfl rfl rfl rfl rfl rfl rfl rfl rfl rfl (am_TE.int (am_ct75  (by omega) hI) (fun b2 f2 a2 hq3 => ?_) (fun _ _ _ h => h))
  obtain ⟨hI4, hq3⟩ := hq3
  refine am_ristore_n (L1 := [(0, .ref 113), (1, am_iv b2)]) rfl rfl rfl rfl rfl ?_
  refine am_raload_n rfl rfl rfl ?_
  refine am_rgetf (S1 := [.ref 2]) rfl rfl ?_
  have q5 := am_Ig201 hI4
  refine am_evirtualI (m := am_m78) (As := [.ref 2]) (S1 := []) rfl rfl rfl rfl rfl rfl rfl rfl rfl rfl (am_TE.int (am_ct78  (by omega) hI4) (fun b6 f6 a6 hq7 => ?_) (fun _ _ _ h => h))
  obtain ⟨hI8, hq7⟩ := hq7
  refine am_rpop rfl rfl ?_
  refine am_raload_n rfl rfl rfl ?_
  refine am_rgetf (S1 := [.ref 2]) rfl rfl ?_
  refine am_rbipush rfl (by decide) ?_
  have q9 := am_Ig201 hI8
  refine am_evirtualV (m := am_m74) (As := [.ref 2, am_iv 62]) (S1 := []) rfl rfl rfl rfl rfl rfl rfl rfl rfl rfl (am_TE.void (am_ct74 (y1 := 62) (by omega) hI8 (by omega)) (fun f10 a10 hq11 => ?_) (fun _ _ _ h => h))
  obtain ⟨hI12, hq11⟩ := hq11
  refine am_raload_n rfl rfl rfl ?_
  refine am_riload_n rfl rfl rfl ?_
  refine am_evirtualV (m := am_m92) (As := [.ref 113, am_iv b2]) (S1 := []) rfl rfl rfl rfl rfl rfl rfl rfl rfl rfl (am_TE.void (am_ct92 (y1 := b2) (by omega) hI12 (by omega) (by omega) (by omega)) (fun f13 a13 hq14 => ?_) (fun _ _ _ h => h))
  have hI15 := hq14
  exact am_eret rfl rfl hI15
set_option maxRecDepth 100000 in
set_option maxHeartbeats 4000000 in
theorem am_ct90_2 {X : List Value} {w : Value} {e : Nat} {g : aF} {h : aA} {p : Bool} {d : Nat} (hd : 3 ≤ d + 1) (n : Nat) :
    ∀ {f : aF} {a : aA} {x1 : Int} {x2 : Int} {x3 : Int}, (45 - x3).toNat < n → am_IV p g h f a → (-2147483648 ≤ x1 ∧ x1 ≤ 2147483647) → (-2147483648 ≤ x2 ∧ x2 ≤ 2147483647) → (-2147483648 ≤ x3 ∧ x3 ≤ 2147483647) → 0 ≤ x3 → am_TE X (d + 1) am_m90 2 [(0, .ref 113), (1, am_iv x1), (2, am_iv x2), (3, am_iv x3)] [] f a w e (am_QV (fun f1 a1 => am_IV p g h f1 a1)) (am_EC g h) := by
  induction n with
  | zero => intros; omega
  | succ n ih =>
    intro f a x1 x2 x3 hn hI hp0 hp1 hp2 hp3
    refine am_riload_n rfl rfl rfl ?_
    refine am_raload_n rfl rfl rfl ?_
    refine am_rgetf (S1 := [.ref 17, am_iv x3]) rfl rfl ?_
    have q1 := am_Ig1709 hI
    refine am_rgetf (S1 := [am_iv (f 1709), am_iv x3]) rfl rfl ?_
    refine am_ric_ge rfl rfl (by unfold am_rg; omega) (by unfold am_rg; omega) (fun hc2 => ?_) (fun hc2 => ?_)
    · exact am_eret rfl rfl hI
    · refine am_raload_n rfl rfl rfl ?_
      refine am_rgetf (S1 := [.ref 17]) rfl rfl ?_
      refine am_rgetf (S1 := [.ref 19]) rfl rfl ?_
      refine am_riload_n rfl rfl rfl ?_
      have q3 : (a 19).length = 45 := am_Ll19 (am_IL 19 rfl hI)
      have i4 : am_ib (a 19) x3 := by unfold am_ib; omega
      have q5 := am_Lb19 (am_IL 19 rfl hI) i4
      refine am_riaload (l := a 19) rfl am_ge19 i4 ?_
      refine am_ristore (L1 := [(0, .ref 113), (1, am_iv x1), (2, am_iv x2), (3, am_iv x3), (4, am_iv (am_at (a 19) x3))]) rfl rfl rfl rfl rfl ?_
      refine am_riload_n rfl rfl rfl ?_
      refine am_riload rfl rfl rfl ?_
      refine am_rbipush rfl (by decide) ?_
      refine am_risub rfl ?_
      have q6 := am_shr_rg x2 ((am_at (a 19) x3) - 97)
      refine am_rishr rfl ?_
      refine am_riconst rfl ?_
      have q7 := am_and_rg (am_shr x2 ((am_at (a 19) x3) - 97)) 1
      refine am_riand rfl ?_
      refine am_rif_ne rfl rfl (by unfold am_rg; omega) (fun hc8 => ?_) (fun hc8 => ?_)
      · refine am_riconst rfl ?_
        refine am_ristore (L1 := [(0, .ref 113), (1, am_iv x1), (2, am_iv x2), (3, am_iv x3), (4, am_iv (am_at (a 19) x3)), (5, am_iv 0)]) rfl rfl rfl rfl rfl ?_
        refine am_raload_n rfl rfl rfl ?_
        refine am_rgetf (S1 := [.ref 17]) rfl rfl ?_
        refine am_rgetf (S1 := [.ref 18]) rfl rfl ?_
        refine am_riload_n rfl rfl rfl ?_
        have q9 : (a 18).length = 45 := am_Ll18 (am_IL 18 rfl hI)
        have i10 : am_ib (a 18) x3 := by unfold am_ib; omega
        have q11 := am_Lb18 (am_IL 18 rfl hI) i10
        refine am_riaload (l := a 18) rfl am_ge18 i10 ?_
        refine am_riload_n rfl rfl rfl ?_
        refine am_ric_ne rfl rfl (by unfold am_rg; omega) (by unfold am_rg; omega) (fun hc12 => ?_) (fun hc12 => ?_)
        · refine am_riinc (L1 := [(0, .ref 113), (1, am_iv x1), (2, am_iv x2), (3, am_iv (x3 + 1)), (4, am_iv (am_at (a 19) x3)), (5, am_iv 0)]) rfl rfl rfl rfl rfl ?_
          refine am_rgoto rfl rfl ?_
          exact am_T.drop (L1 := [(0, .ref 113), (1, am_iv x1), (2, am_iv x2), (3, am_iv (x3 + 1))]) (ih (by omega) hI (by omega) (by omega) (by omega) (by omega)) (by simp)
        · refine am_riload rfl rfl rfl ?_
          refine am_rif_eq rfl rfl (by unfold am_rg; omega) (fun hc13 => ?_) (fun hc13 => ?_)
          rotate_left
          · exfalso; omega
          refine am_riinc (L1 := [(0, .ref 113), (1, am_iv x1), (2, am_iv x2), (3, am_iv (x3 + 1)), (4, am_iv (am_at (a 19) x3)), (5, am_iv 0)]) rfl rfl rfl rfl rfl ?_
          refine am_rgoto rfl rfl ?_
          exact am_T.drop (L1 := [(0, .ref 113), (1, am_iv x1), (2, am_iv x2), (3, am_iv (x3 + 1))]) (ih (by omega) hI (by omega) (by omega) (by omega) (by omega)) (by simp)
      · refine am_riconst rfl ?_
        refine am_rgoto rfl rfl ?_
        refine am_ristore (L1 := [(0, .ref 113), (1, am_iv x1), (2, am_iv x2), (3, am_iv x3), (4, am_iv (am_at (a 19) x3)), (5, am_iv 1)]) rfl rfl rfl rfl rfl ?_
        refine am_raload_n rfl rfl rfl ?_
        refine am_rgetf (S1 := [.ref 17]) rfl rfl ?_
        refine am_rgetf (S1 := [.ref 18]) rfl rfl ?_
        refine am_riload_n rfl rfl rfl ?_
        have q14 : (a 18).length = 45 := am_Ll18 (am_IL 18 rfl hI)
        have i15 : am_ib (a 18) x3 := by unfold am_ib; omega
        have q16 := am_Lb18 (am_IL 18 rfl hI) i15
        refine am_riaload (l := a 18) rfl am_ge18 i15 ?_
        refine am_riload_n rfl rfl rfl ?_
        refine am_ric_ne rfl rfl (by unfold am_rg; omega) (by unfold am_rg; omega) (fun hc17 => ?_) (fun hc17 => ?_)
        · refine am_riinc (L1 := [(0, .ref 113), (1, am_iv x1), (2, am_iv x2), (3, am_iv (x3 + 1)), (4, am_iv (am_at (a 19) x3)), (5, am_iv 1)]) rfl rfl rfl rfl rfl ?_
          refine am_rgoto rfl rfl ?_
          exact am_T.drop (L1 := [(0, .ref 113), (1, am_iv x1), (2, am_iv x2), (3, am_iv (x3 + 1))]) (ih (by omega) hI (by omega) (by omega) (by omega) (by omega)) (by simp)
        · refine am_riload rfl rfl rfl ?_
          refine am_rif_eq rfl rfl (by unfold am_rg; omega) (fun hc18 => ?_) (fun hc18 => ?_)
          · exfalso; omega
          refine am_raload_n rfl rfl rfl ?_
          refine am_rgetf (S1 := [.ref 17]) rfl rfl ?_
          refine am_riload_n rfl rfl rfl ?_
          refine am_evirtualI (m := am_m6) (As := [.ref 17, am_iv x3]) (S1 := []) rfl rfl rfl rfl rfl rfl rfl rfl rfl rfl (am_TE.int (am_ct6 (y1 := x3) (by omega) hI (by omega) (by omega) (by omega)) (fun b19 f19 a19 hq20 => ?_) (fun _ _ _ h => h))
          obtain ⟨rfl, rfl, hq20⟩ := hq20
          refine am_rif_eq rfl rfl (by unfold am_rg; omega) (fun hc21 => ?_) (fun hc21 => ?_)
          · refine am_riinc (L1 := [(0, .ref 113), (1, am_iv x1), (2, am_iv x2), (3, am_iv (x3 + 1)), (4, am_iv (am_at (a 19) x3)), (5, am_iv 1)]) rfl rfl rfl rfl rfl ?_
            refine am_rgoto rfl rfl ?_
            exact am_T.drop (L1 := [(0, .ref 113), (1, am_iv x1), (2, am_iv x2), (3, am_iv (x3 + 1))]) (ih (by omega) hI (by omega) (by omega) (by omega) (by omega)) (by simp)
          · refine am_raload_n rfl rfl rfl ?_
            refine am_rgetf (S1 := [.ref 106]) rfl rfl ?_
            refine am_riload rfl rfl rfl ?_
            refine am_riload_n rfl rfl rfl ?_
            refine am_raload_n rfl rfl rfl ?_
            refine am_rgetf (S1 := [.ref 17, am_iv x3, am_iv (am_at (a 19) x3), .ref 106]) rfl rfl ?_
            refine am_rgetf (S1 := [.ref 26, am_iv x3, am_iv (am_at (a 19) x3), .ref 106]) rfl rfl ?_
            refine am_raload_n rfl rfl rfl ?_
            refine am_rgetf (S1 := [.ref 17, .ref 26, am_iv x3, am_iv (am_at (a 19) x3), .ref 106]) rfl rfl ?_
            refine am_rgetf (S1 := [.ref 24, .ref 26, am_iv x3, am_iv (am_at (a 19) x3), .ref 106]) rfl rfl ?_
            refine am_riload_n rfl rfl rfl ?_
            have q22 : (a 24).length = 45 := am_Ll24 (am_IL 24 rfl hI)
            have i23 : am_ib (a 24) x3 := by unfold am_ib; omega
            have q24 := am_Lb24 (am_IL 24 rfl hI) i23
            have r8 := hI.2.2.2.2.2.2 x3 (by omega) (by omega)
            refine am_riaload (l := a 24) rfl am_ge24 i23 ?_
            refine am_raload_n rfl rfl rfl ?_
            refine am_rgetf (S1 := [.ref 17, am_iv (am_at (a 24) x3), .ref 26, am_iv x3, am_iv (am_at (a 19) x3), .ref 106]) rfl rfl ?_
            refine am_rgetf (S1 := [.ref 25, am_iv (am_at (a 24) x3), .ref 26, am_iv x3, am_iv (am_at (a 19) x3), .ref 106]) rfl rfl ?_
            refine am_riload_n rfl rfl rfl ?_
            have q25 : (a 25).length = 45 := am_Ll25 (am_IL 25 rfl hI)
            have i26 : am_ib (a 25) x3 := by unfold am_ib; omega
            have q27 := am_Lb25 (am_IL 25 rfl hI) i26
            refine am_riaload (l := a 25) rfl am_ge25 i26 ?_
            refine am_evirtualV (m := am_m10) (As := [.ref 106, am_iv (am_at (a 19) x3), am_iv x3, .ref 26, am_iv (am_at (a 24) x3), am_iv (am_at (a 25) x3)]) (S1 := []) rfl rfl rfl rfl rfl rfl rfl rfl rfl rfl (am_TE.void (am_ct10t (y1 := (am_at (a 19) x3)) (y2 := x3) (y4 := (am_at (a 24) x3)) (y5 := (am_at (a 25) x3)) (by omega) hI (by omega) (by omega) (by omega) (by omega) (by omega) (by omega) (by omega) (by omega) (by omega) (by omega) (by omega)) (fun f28 a28 hq29 => ?_) (fun _ _ _ h => h))
            have hI30 := hq29
            refine am_riinc (L1 := [(0, .ref 113), (1, am_iv x1), (2, am_iv x2), (3, am_iv (x3 + 1)), (4, am_iv (am_at (a 19) x3)), (5, am_iv 1)]) rfl rfl rfl rfl rfl ?_
            refine am_rgoto rfl rfl ?_
            exact am_T.drop (L1 := [(0, .ref 113), (1, am_iv x1), (2, am_iv x2), (3, am_iv (x3 + 1))]) (ih (by omega) hI30 (by omega) (by omega) (by omega) (by omega)) (by simp)
set_option maxRecDepth 100000 in
set_option maxHeartbeats 4000000 in
theorem am_ct90 {X : List Value} {w : Value} {e : Nat} {g : aF} {h : aA} {p : Bool} {d : Nat} {y1 : Int} {y2 : Int} {f : aF} {a : aA} (hd : 3 ≤ d) (hI : am_IV p g h f a) (hp0 : (-2147483648 ≤ y1 ∧ y1 ≤ 2147483647)) (hp1 : (-2147483648 ≤ y2 ∧ y2 ≤ 2147483647)) :
    am_TE X d am_m90 0 (lv_args 0 [.ref 113, am_iv y1, am_iv y2]) [] f a w e (am_QV (fun f1 a1 => am_IV p g h f1 a1)) (am_EC g h) := by
  obtain ⟨d, rfl⟩ : ∃ d0, d = d0 + 1 := ⟨d - 1, by omega⟩
  refine am_riconst rfl ?_
  refine am_ristore_n (L1 := [(0, .ref 113), (1, am_iv y1), (2, am_iv y2), (3, am_iv 0)]) rfl rfl rfl rfl rfl ?_
  exact am_ct90_2 hd (_ + 1) (Nat.lt_succ_self _) hI (by omega) (by omega) (by omega) (by omega)
set_option maxRecDepth 100000 in
set_option maxHeartbeats 4000000 in
theorem am_ct89 {X : List Value} {w : Value} {e : Nat} {g : aF} {h : aA} {d : Nat} {y1 : Int} {y2 : Int} {f : aF} {a : aA} (hd : 5 ≤ d) (hI : am_IV true g h f a) (hp0 : (-2147483648 ≤ y1 ∧ y1 ≤ 2147483647)) (hp1 : (-2147483648 ≤ y2 ∧ y2 ≤ 2147483647)) :
    am_TE X d am_m89 0 (lv_args 0 [.ref 113, am_iv y1, am_iv y2]) [] f a w e (am_QI (fun b f1 a1 => am_IV true g h f1 a1 ∧ (-2147483648 ≤ b ∧ b ≤ 2147483647))) (am_EC g h) := by
  obtain ⟨d, rfl⟩ : ∃ d0, d = d0 + 1 := ⟨d - 1, by omega⟩
  refine am_raload_n rfl rfl rfl ?_
  refine am_rgetf (S1 := [.ref 2]) rfl rfl ?_
  have q1 := am_Ig201 hI
  refine am_evirtualI (m := am_m75) (As := [.ref 2]) (S1 := []) rfl rfl rfl rfl rfl rfl rfl rfl rfl rfl (am_TE.int (am_ct75  (by omega) hI) (fun b2 f2 a2 hq3 => ?_) (fun _ _ _ h => h))
  obtain ⟨hI4, hq3⟩ := hq3
  refine am_ristore_n (L1 := [(0, .ref 113), (1, am_iv y1), (2, am_iv y2), (3, am_iv b2)]) rfl rfl rfl rfl rfl ?_
  refine am_riconst rfl ?_
  refine am_riload_n rfl rfl rfl ?_
  refine am_rbipush rfl (by decide) ?_
  refine am_risub rfl ?_
  have q5 := am_shl_rg 1 (b2 - 97)
  refine am_rishl rfl ?_
  refine am_ristore (L1 := [(0, .ref 113), (1, am_iv y1), (2, am_iv y2), (3, am_iv b2), (4, am_iv (am_shl 1 (b2 - 97)))]) rfl rfl rfl rfl rfl ?_
  refine am_riload_n rfl rfl rfl ?_
  refine am_riload rfl rfl rfl ?_
  have q6 := am_and_rg y2 (am_shl 1 (b2 - 97))
  refine am_riand rfl ?_
  refine am_rif_eq rfl rfl (by unfold am_rg; omega) (fun hc7 => ?_) (fun hc7 => ?_)
  · refine am_raload_n rfl rfl rfl ?_
    refine am_rgetf (S1 := [.ref 2]) rfl rfl ?_
    have q8 := am_Ig201 hI4
    refine am_evirtualI (m := am_m78) (As := [.ref 2]) (S1 := []) rfl rfl rfl rfl rfl rfl rfl rfl rfl rfl (am_TE.int (am_ct78  (by omega) hI4) (fun b9 f9 a9 hq10 => ?_) (fun _ _ _ h => h))
    obtain ⟨hI11, hq10⟩ := hq10
    refine am_rpop rfl rfl ?_
    refine am_raload_n rfl rfl rfl ?_
    refine am_rgetf (S1 := [.ref 2]) rfl rfl ?_
    refine am_rbipush rfl (by decide) ?_
    have q12 := am_Ig201 hI11
    refine am_evirtualV (m := am_m74) (As := [.ref 2, am_iv 61]) (S1 := []) rfl rfl rfl rfl rfl rfl rfl rfl rfl rfl (am_TE.void (am_ct74 (y1 := 61) (by omega) hI11 (by omega)) (fun f13 a13 hq14 => ?_) (fun _ _ _ h => h))
    obtain ⟨hI15, hq14⟩ := hq14
    refine am_raload_n rfl rfl rfl ?_
    refine am_rgetf (S1 := [.ref 2]) rfl rfl ?_
    have q16 := am_Ig201 hI15
    refine am_evirtualI (m := am_m78) (As := [.ref 2]) (S1 := []) rfl rfl rfl rfl rfl rfl rfl rfl rfl rfl (am_TE.int (am_ct78  (by omega) hI15) (fun b17 f17 a17 hq18 => ?_) (fun _ _ _ h => h))
    obtain ⟨hI19, hq18⟩ := hq18
    refine am_rpop rfl rfl ?_
    refine am_raload_n rfl rfl rfl ?_
    refine am_rgetf (S1 := [.ref 17]) rfl rfl ?_
    refine am_riload_n rfl rfl rfl ?_
    refine am_riload_n rfl rfl rfl ?_
    refine am_evirtualI (m := am_m2) (As := [.ref 17, am_iv y1, am_iv b2]) (S1 := []) rfl rfl rfl rfl rfl rfl rfl rfl rfl rfl (am_TE.int (am_ct2 (y1 := y1) (y2 := b2) (by omega) hI19 (by omega) (by omega)) (fun b20 f20 a20 hq21 => ?_) (fun _ _ _ h => h))
    have q22 := am_Ig1709 hI19
    obtain ⟨rfl, rfl, hq21⟩ := hq21
    have r1 := am_Ig1709 hI19
    refine am_ristore (L1 := [(0, .ref 113), (1, am_iv y1), (2, am_iv y2), (3, am_iv b2), (4, am_iv (am_shl 1 (b2 - 97))), (5, am_iv b20)]) rfl rfl rfl rfl rfl ?_
    refine am_raload_n rfl rfl rfl ?_
    refine am_rgetf (S1 := [.ref 10]) rfl rfl ?_
    refine am_riload rfl rfl rfl ?_
    refine am_riconst rfl ?_
    refine am_ric_eq rfl rfl (by unfold am_rg; omega) (by unfold am_rg; omega) (fun hc23 => ?_) (fun hc23 => ?_)
    · refine am_riconst rfl ?_
      refine am_evirtualV (m := am_m94) (As := [.ref 10, am_iv 0]) (S1 := []) rfl rfl rfl rfl rfl rfl rfl rfl rfl rfl (am_TE.void (am_ct94 (y1 := 0) (by omega) hI19 (by omega)) (fun f24 a24 hq25 => ?_) (fun _ _ _ h => h))
      have hI26 := hq25
      refine am_raload_n rfl rfl rfl ?_
      refine am_rgetf (S1 := [.ref 106]) rfl rfl ?_
      refine am_riload_n rfl rfl rfl ?_
      refine am_riload rfl rfl rfl ?_
      refine am_raload_n rfl rfl rfl ?_
      refine am_rgetf (S1 := [.ref 10, am_iv b20, am_iv b2, .ref 106]) rfl rfl ?_
      refine am_rgetf (S1 := [.ref 11, am_iv b20, am_iv b2, .ref 106]) rfl rfl ?_
      refine am_riconst rfl ?_
      refine am_raload_n rfl rfl rfl ?_
      refine am_rgetf (S1 := [.ref 10, am_iv 0, .ref 11, am_iv b20, am_iv b2, .ref 106]) rfl rfl ?_
      have q27 := am_Ig1003 hI26
      refine am_rgetf (S1 := [am_iv (f24 1003), am_iv 0, .ref 11, am_iv b20, am_iv b2, .ref 106]) rfl rfl ?_
      refine am_evirtualV (m := am_m10) (As := [.ref 106, am_iv b2, am_iv b20, .ref 11, am_iv 0, am_iv (f24 1003)]) (S1 := []) rfl rfl rfl rfl rfl rfl rfl rfl rfl rfl (am_TE.void (am_ct10v (y1 := b2) (y2 := b20) (y4 := 0) (y5 := (f24 1003)) (by omega) hI26 (by omega) (by omega) (by omega) (by omega) (by omega) (by omega) (by omega) (by omega) (by omega) (by omega) (by omega)) (fun f28 a28 hq29 => ?_) (fun _ _ _ h => h))
      have hI30 := hq29
      refine am_riload_n rfl rfl rfl ?_
      refine am_riload rfl rfl rfl ?_
      have q31 := am_or_rg y2 (am_shl 1 (b2 - 97))
      refine am_rior rfl ?_
      exact am_eiret rfl rfl ⟨hI30, (show (-2147483648 ≤ am_or y2 (am_shl 1 (b2 - 97)) ∧ am_or y2 (am_shl 1 (b2 - 97)) ≤ 2147483647) by omega)⟩
    · refine am_raload_n rfl rfl rfl ?_
      refine am_rgetf (S1 := [.ref 17, .ref 10]) rfl rfl ?_
      refine am_rgetf (S1 := [.ref 20, .ref 10]) rfl rfl ?_
      refine am_riload rfl rfl rfl ?_
      have q32 : (a17 20).length = 45 := am_Ll20 (am_IL 20 rfl hI19)
      have i33 : am_ib (a17 20) b20 := by unfold am_ib; omega
      have q34 := am_Lb20 (am_IL 20 rfl hI19) i33
      refine am_riaload (l := a17 20) rfl am_ge20 i33 ?_
      refine am_rif_eq rfl rfl (by unfold am_rg; omega) (fun hc35 => ?_) (fun hc35 => ?_)
      · refine am_riconst rfl ?_
        refine am_evirtualV (m := am_m94) (As := [.ref 10, am_iv 0]) (S1 := []) rfl rfl rfl rfl rfl rfl rfl rfl rfl rfl (am_TE.void (am_ct94 (y1 := 0) (by omega) hI19 (by omega)) (fun f36 a36 hq37 => ?_) (fun _ _ _ h => h))
        have hI38 := hq37
        refine am_raload_n rfl rfl rfl ?_
        refine am_rgetf (S1 := [.ref 106]) rfl rfl ?_
        refine am_riload_n rfl rfl rfl ?_
        refine am_riload rfl rfl rfl ?_
        refine am_raload_n rfl rfl rfl ?_
        refine am_rgetf (S1 := [.ref 10, am_iv b20, am_iv b2, .ref 106]) rfl rfl ?_
        refine am_rgetf (S1 := [.ref 11, am_iv b20, am_iv b2, .ref 106]) rfl rfl ?_
        refine am_riconst rfl ?_
        refine am_raload_n rfl rfl rfl ?_
        refine am_rgetf (S1 := [.ref 10, am_iv 0, .ref 11, am_iv b20, am_iv b2, .ref 106]) rfl rfl ?_
        have q39 := am_Ig1003 hI38
        refine am_rgetf (S1 := [am_iv (f36 1003), am_iv 0, .ref 11, am_iv b20, am_iv b2, .ref 106]) rfl rfl ?_
        refine am_evirtualV (m := am_m10) (As := [.ref 106, am_iv b2, am_iv b20, .ref 11, am_iv 0, am_iv (f36 1003)]) (S1 := []) rfl rfl rfl rfl rfl rfl rfl rfl rfl rfl (am_TE.void (am_ct10v (y1 := b2) (y2 := b20) (y4 := 0) (y5 := (f36 1003)) (by omega) hI38 (by omega) (by omega) (by omega) (by omega) (by omega) (by omega) (by omega) (by omega) (by omega) (by omega) (by omega)) (fun f40 a40 hq41 => ?_) (fun _ _ _ h => h))
        have hI42 := hq41
        refine am_riload_n rfl rfl rfl ?_
        refine am_riload rfl rfl rfl ?_
        have q43 := am_or_rg y2 (am_shl 1 (b2 - 97))
        refine am_rior rfl ?_
        exact am_eiret rfl rfl ⟨hI42, (show (-2147483648 ≤ am_or y2 (am_shl 1 (b2 - 97)) ∧ am_or y2 (am_shl 1 (b2 - 97)) ≤ 2147483647) by omega)⟩
      · refine am_riconst rfl ?_
        refine am_rgoto rfl rfl ?_
        refine am_evirtualV (m := am_m94) (As := [.ref 10, am_iv 1]) (S1 := []) rfl rfl rfl rfl rfl rfl rfl rfl rfl rfl (am_TE.void (am_ct94 (y1 := 1) (by omega) hI19 (by omega)) (fun f44 a44 hq45 => ?_) (fun _ _ _ h => h))
        have hI46 := hq45
        refine am_raload_n rfl rfl rfl ?_
        refine am_rgetf (S1 := [.ref 106]) rfl rfl ?_
        refine am_riload_n rfl rfl rfl ?_
        refine am_riload rfl rfl rfl ?_
        refine am_raload_n rfl rfl rfl ?_
        refine am_rgetf (S1 := [.ref 10, am_iv b20, am_iv b2, .ref 106]) rfl rfl ?_
        refine am_rgetf (S1 := [.ref 11, am_iv b20, am_iv b2, .ref 106]) rfl rfl ?_
        refine am_riconst rfl ?_
        refine am_raload_n rfl rfl rfl ?_
        refine am_rgetf (S1 := [.ref 10, am_iv 0, .ref 11, am_iv b20, am_iv b2, .ref 106]) rfl rfl ?_
        have q47 := am_Ig1003 hI46
        refine am_rgetf (S1 := [am_iv (f44 1003), am_iv 0, .ref 11, am_iv b20, am_iv b2, .ref 106]) rfl rfl ?_
        refine am_evirtualV (m := am_m10) (As := [.ref 106, am_iv b2, am_iv b20, .ref 11, am_iv 0, am_iv (f44 1003)]) (S1 := []) rfl rfl rfl rfl rfl rfl rfl rfl rfl rfl (am_TE.void (am_ct10v (y1 := b2) (y2 := b20) (y4 := 0) (y5 := (f44 1003)) (by omega) hI46 (by omega) (by omega) (by omega) (by omega) (by omega) (by omega) (by omega) (by omega) (by omega) (by omega) (by omega)) (fun f48 a48 hq49 => ?_) (fun _ _ _ h => h))
        have hI50 := hq49
        refine am_riload_n rfl rfl rfl ?_
        refine am_riload rfl rfl rfl ?_
        have q51 := am_or_rg y2 (am_shl 1 (b2 - 97))
        refine am_rior rfl ?_
        exact am_eiret rfl rfl ⟨hI50, (show (-2147483648 ≤ am_or y2 (am_shl 1 (b2 - 97)) ∧ am_or y2 (am_shl 1 (b2 - 97)) ≤ 2147483647) by omega)⟩
  · exact am_ethrow rfl rfl rfl rfl ⟨by decide, hI4.weak⟩
set_option maxRecDepth 100000 in
set_option maxHeartbeats 4000000 in
theorem am_ct88_47 {X : List Value} {w : Value} {e : Nat} {g : aF} {h : aA} {d : Nat} (hd : 6 ≤ d + 1) (n : Nat) :
    ∀ {f : aF} {a : aA} {x1 : Int} {x2 : Int} {x3 : Int} {x4 : Int}, (1000000 - x4).toNat < n → am_IV true g h f a → (-2147483648 ≤ x1 ∧ x1 ≤ 2147483647) → (-2147483648 ≤ x2 ∧ x2 ≤ 2147483647) → (-2147483648 ≤ x3 ∧ x3 ≤ 2147483647) → (-2147483648 ≤ x4 ∧ x4 ≤ 2147483647) → 0 ≤ x4 → 97 ≤ x1 → x1 ≤ 122 → am_TE X (d + 1) am_m88 47 [(0, .ref 113), (1, am_iv x1), (2, am_iv x2), (3, am_iv x3), (4, am_iv x4)] [] f a w e (am_QV (fun f1 a1 => am_IV true g h f1 a1)) (am_EC g h) := by
  induction n with
  | zero => intros; omega
  | succ n ih =>
    intro f a x1 x2 x3 x4 hn hI hp0 hp1 hp2 hp3 hp4 hp5 hp6
    refine am_riload rfl rfl rfl ?_
    refine am_rldc (x := 1000000) rfl rfl (by decide) ?_
    refine am_ric_ge rfl rfl (by unfold am_rg; omega) (by unfold am_rg; omega) (fun hc1 => ?_) (fun hc1 => ?_)
    · refine am_raload_n rfl rfl rfl ?_
      refine am_rgetf (S1 := [.ref 2]) rfl rfl ?_
      refine am_rldcs rfl rfl rfl ?_
      have q2 := am_Ig201 hI
      refine am_evirtualI (m := am_m77) (As := [.ref 2, .ref (1000000 + 31)]) (S1 := []) rfl rfl rfl rfl rfl rfl rfl rfl rfl rfl (am_TE.int (am_ct77  (by omega) hI (by decide)) (fun b3 f3 a3 hq4 => ?_) (fun _ _ _ h => h))
      obtain ⟨hI5, hq4⟩ := hq4
      refine am_ristore (L1 := [(0, .ref 113), (1, am_iv x1), (2, am_iv x2), (3, am_iv x3), (4, am_iv b3)]) rfl rfl rfl rfl rfl ?_
      refine am_raload_n rfl rfl rfl ?_
      refine am_rgetf (S1 := [.ref 2]) rfl rfl ?_
      refine am_rbipush rfl (by decide) ?_
      have q6 := am_Ig201 hI5
      refine am_evirtualV (m := am_m74) (As := [.ref 2, am_iv 62]) (S1 := []) rfl rfl rfl rfl rfl rfl rfl rfl rfl rfl (am_TE.void (am_ct74 (y1 := 62) (by omega) hI5 (by omega)) (fun f7 a7 hq8 => ?_) (fun _ _ _ h => h))
      obtain ⟨hI9, hq8⟩ := hq8
      refine am_raload_n rfl rfl rfl ?_
      refine am_riload_n rfl rfl rfl ?_
      refine am_riload_n rfl rfl rfl ?_
      refine am_evirtualV (m := am_m90) (As := [.ref 113, am_iv x1, am_iv x2]) (S1 := []) rfl rfl rfl rfl rfl rfl rfl rfl rfl rfl (am_TE.void (am_ct90 (y1 := x1) (y2 := x2) (by omega) hI9 (by omega) (by omega)) (fun f10 a10 hq11 => ?_) (fun _ _ _ h => h))
      have hI12 := hq11
      refine am_riload rfl rfl rfl ?_
      refine am_rif_eq rfl rfl (by unfold am_rg; omega) (fun hc13 => ?_) (fun hc13 => ?_)
      · exact am_eret rfl rfl hI12
      · refine am_raload_n rfl rfl rfl ?_
        refine am_riload_n rfl rfl rfl ?_
        refine am_evirtualV (m := am_m92) (As := [.ref 113, am_iv x1]) (S1 := []) rfl rfl rfl rfl rfl rfl rfl rfl rfl rfl (am_TE.void (am_ct92 (y1 := x1) (by omega) hI12 (by omega) (by omega) (by omega)) (fun f14 a14 hq15 => ?_) (fun _ _ _ h => h))
        have hI16 := hq15
        exact am_eret rfl rfl hI16
    · refine am_riload_n rfl rfl rfl ?_
      refine am_rif_eq rfl rfl (by unfold am_rg; omega) (fun hc17 => ?_) (fun hc17 => ?_)
      · refine am_raload_n rfl rfl rfl ?_
        refine am_rgetf (S1 := [.ref 2]) rfl rfl ?_
        refine am_rldcs rfl rfl rfl ?_
        have q18 := am_Ig201 hI
        refine am_evirtualI (m := am_m77) (As := [.ref 2, .ref (1000000 + 31)]) (S1 := []) rfl rfl rfl rfl rfl rfl rfl rfl rfl rfl (am_TE.int (am_ct77  (by omega) hI (by decide)) (fun b19 f19 a19 hq20 => ?_) (fun _ _ _ h => h))
        obtain ⟨hI21, hq20⟩ := hq20
        refine am_ristore (L1 := [(0, .ref 113), (1, am_iv x1), (2, am_iv x2), (3, am_iv x3), (4, am_iv b19)]) rfl rfl rfl rfl rfl ?_
        refine am_raload_n rfl rfl rfl ?_
        refine am_rgetf (S1 := [.ref 2]) rfl rfl ?_
        refine am_rbipush rfl (by decide) ?_
        have q22 := am_Ig201 hI21
        refine am_evirtualV (m := am_m74) (As := [.ref 2, am_iv 62]) (S1 := []) rfl rfl rfl rfl rfl rfl rfl rfl rfl rfl (am_TE.void (am_ct74 (y1 := 62) (by omega) hI21 (by omega)) (fun f23 a23 hq24 => ?_) (fun _ _ _ h => h))
        obtain ⟨hI25, hq24⟩ := hq24
        refine am_raload_n rfl rfl rfl ?_
        refine am_riload_n rfl rfl rfl ?_
        refine am_riload_n rfl rfl rfl ?_
        refine am_evirtualV (m := am_m90) (As := [.ref 113, am_iv x1, am_iv x2]) (S1 := []) rfl rfl rfl rfl rfl rfl rfl rfl rfl rfl (am_TE.void (am_ct90 (y1 := x1) (y2 := x2) (by omega) hI25 (by omega) (by omega)) (fun f26 a26 hq27 => ?_) (fun _ _ _ h => h))
        have hI28 := hq27
        refine am_riload rfl rfl rfl ?_
        refine am_rif_eq rfl rfl (by unfold am_rg; omega) (fun hc29 => ?_) (fun hc29 => ?_)
        · exact am_eret rfl rfl hI28
        · refine am_raload_n rfl rfl rfl ?_
          refine am_riload_n rfl rfl rfl ?_
          refine am_evirtualV (m := am_m92) (As := [.ref 113, am_iv x1]) (S1 := []) rfl rfl rfl rfl rfl rfl rfl rfl rfl rfl (am_TE.void (am_ct92 (y1 := x1) (by omega) hI28 (by omega) (by omega) (by omega)) (fun f30 a30 hq31 => ?_) (fun _ _ _ h => h))
          have hI32 := hq31
          exact am_eret rfl rfl hI32
      · refine am_raload_n rfl rfl rfl ?_
        refine am_rgetf (S1 := [.ref 2]) rfl rfl ?_
        refine am_evirtualI (m := am_m72) (As := [.ref 2]) (S1 := []) rfl rfl rfl rfl rfl rfl rfl rfl rfl rfl (am_TE.int (am_ct72  (by omega) hI) (fun b33 f33 a33 hq34 => ?_) (fun _ _ _ h => h))
        obtain ⟨rfl, rfl, hq34⟩ := hq34
        refine am_estaticI (m := am_m108) (As := [am_iv b33]) (S1 := []) rfl rfl rfl rfl rfl rfl rfl rfl (am_TE.int (am_ct108 (y1 := b33) (by omega) (by omega)) (fun b35 f35 a35 hq36 => ?_) (fun _ _ _ h => h))
        obtain ⟨rfl, rfl, hq36⟩ := hq36
        refine am_rif_eq rfl rfl (by unfold am_rg; omega) (fun hc37 => ?_) (fun hc37 => ?_)
        · refine am_raload_n rfl rfl rfl ?_
          refine am_rgetf (S1 := [.ref 2]) rfl rfl ?_
          refine am_rldcs rfl rfl rfl ?_
          have q38 := am_Ig201 hI
          refine am_evirtualI (m := am_m77) (As := [.ref 2, .ref (1000000 + 31)]) (S1 := []) rfl rfl rfl rfl rfl rfl rfl rfl rfl rfl (am_TE.int (am_ct77  (by omega) hI (by decide)) (fun b39 f39 a39 hq40 => ?_) (fun _ _ _ h => h))
          obtain ⟨hI41, hq40⟩ := hq40
          refine am_ristore (L1 := [(0, .ref 113), (1, am_iv x1), (2, am_iv x2), (3, am_iv x3), (4, am_iv b39)]) rfl rfl rfl rfl rfl ?_
          refine am_raload_n rfl rfl rfl ?_
          refine am_rgetf (S1 := [.ref 2]) rfl rfl ?_
          refine am_rbipush rfl (by decide) ?_
          have q42 := am_Ig201 hI41
          refine am_evirtualV (m := am_m74) (As := [.ref 2, am_iv 62]) (S1 := []) rfl rfl rfl rfl rfl rfl rfl rfl rfl rfl (am_TE.void (am_ct74 (y1 := 62) (by omega) hI41 (by omega)) (fun f43 a43 hq44 => ?_) (fun _ _ _ h => h))
          obtain ⟨hI45, hq44⟩ := hq44
          refine am_raload_n rfl rfl rfl ?_
          refine am_riload_n rfl rfl rfl ?_
          refine am_riload_n rfl rfl rfl ?_
          refine am_evirtualV (m := am_m90) (As := [.ref 113, am_iv x1, am_iv x2]) (S1 := []) rfl rfl rfl rfl rfl rfl rfl rfl rfl rfl (am_TE.void (am_ct90 (y1 := x1) (y2 := x2) (by omega) hI45 (by omega) (by omega)) (fun f46 a46 hq47 => ?_) (fun _ _ _ h => h))
          have hI48 := hq47
          refine am_riload rfl rfl rfl ?_
          refine am_rif_eq rfl rfl (by unfold am_rg; omega) (fun hc49 => ?_) (fun hc49 => ?_)
          · exact am_eret rfl rfl hI48
          · refine am_raload_n rfl rfl rfl ?_
            refine am_riload_n rfl rfl rfl ?_
            refine am_evirtualV (m := am_m92) (As := [.ref 113, am_iv x1]) (S1 := []) rfl rfl rfl rfl rfl rfl rfl rfl rfl rfl (am_TE.void (am_ct92 (y1 := x1) (by omega) hI48 (by omega) (by omega) (by omega)) (fun f50 a50 hq51 => ?_) (fun _ _ _ h => h))
            have hI52 := hq51
            exact am_eret rfl rfl hI52
        · refine am_raload_n rfl rfl rfl ?_
          refine am_riload_n rfl rfl rfl ?_
          refine am_riload_n rfl rfl rfl ?_
          refine am_evirtualI (m := am_m89) (As := [.ref 113, am_iv x1, am_iv x2]) (S1 := []) rfl rfl rfl rfl rfl rfl rfl rfl rfl rfl (am_TE.int (am_ct89 (y1 := x1) (y2 := x2) (by omega) hI (by omega) (by omega)) (fun b53 f53 a53 hq54 => ?_) (fun _ _ _ h => h))
          obtain ⟨hI55, hq54⟩ := hq54
          refine am_ristore_n (L1 := [(0, .ref 113), (1, am_iv x1), (2, am_iv b53), (3, am_iv x3), (4, am_iv x4)]) rfl rfl rfl rfl rfl ?_
          refine am_raload_n rfl rfl rfl ?_
          refine am_rgetf (S1 := [.ref 2]) rfl rfl ?_
          have q56 := am_Ig201 hI55
          refine am_evirtualI (m := am_m78) (As := [.ref 2]) (S1 := []) rfl rfl rfl rfl rfl rfl rfl rfl rfl rfl (am_TE.int (am_ct78  (by omega) hI55) (fun b57 f57 a57 hq58 => ?_) (fun _ _ _ h => h))
          obtain ⟨hI59, hq58⟩ := hq58
          refine am_ristore_n (L1 := [(0, .ref 113), (1, am_iv x1), (2, am_iv b53), (3, am_iv b57), (4, am_iv x4)]) rfl rfl rfl rfl rfl ?_
          refine am_riinc (L1 := [(0, .ref 113), (1, am_iv x1), (2, am_iv b53), (3, am_iv b57), (4, am_iv (x4 + 1))]) rfl rfl rfl rfl rfl ?_
          refine am_rgoto rfl rfl ?_
          exact ih (by omega) hI59 (by omega) (by omega) (by omega) (by omega) (by omega) (by omega) (by omega)
set_option maxRecDepth 100000 in
set_option maxHeartbeats 4000000 in
theorem am_ct88 {X : List Value} {w : Value} {e : Nat} {g : aF} {h : aA} {d : Nat} {f : aF} {a : aA} (hd : 6 ≤ d) (hI : am_IV true g h f a) :
    am_TE X d am_m88 0 (lv_args 0 [.ref 113]) [] f a w e (am_QV (fun f1 a1 => am_IV true g h f1 a1)) (am_EC g h) := by
  obtain ⟨d, rfl⟩ : ∃ d0, d = d0 + 1 := ⟨d - 1, by omega⟩
  refine am_raload_n rfl rfl rfl ?_
  refine am_rgetf (S1 := [.ref 2]) rfl rfl ?_
  refine am_rbipush rfl (by decide) ?_
  have q1 := am_Ig201 hI
  refine am_evirtualV (m := am_m74) (As := [.ref 2, am_iv 60]) (S1 := []) rfl rfl rfl rfl rfl rfl rfl rfl rfl rfl (am_TE.void (am_ct74 (y1 := 60) (by omega) hI (by omega)) (fun f2 a2 hq3 => ?_) (fun _ _ _ h => h))
  obtain ⟨hI4, hq3⟩ := hq3
  refine am_raload_n rfl rfl rfl ?_
  refine am_rgetf (S1 := [.ref 2]) rfl rfl ?_
  have q5 := am_Ig201 hI4
  refine am_evirtualI (m := am_m75) (As := [.ref 2]) (S1 := []) rfl rfl rfl rfl rfl rfl rfl rfl rfl rfl (am_TE.int (am_ct75  (by omega) hI4) (fun b6 f6 a6 hq7 => ?_) (fun _ _ _ h => h))
  obtain ⟨hI8, hq7⟩ := hq7
  refine am_ristore_n (L1 := [(0, .ref 113), (1, am_iv b6)]) rfl rfl rfl rfl rfl ?_
  refine am_raload_n rfl rfl rfl ?_
  refine am_rgetf (S1 := [.ref 4]) rfl rfl ?_
  refine am_riload_n rfl rfl rfl ?_
  refine am_evirtualV (m := am_m61) (As := [.ref 4, am_iv b6]) (S1 := []) rfl rfl rfl rfl rfl rfl rfl rfl rfl rfl (am_TE.void (am_ct61 (y1 := b6) (by omega) hI8 (by omega) (by omega) (by omega)) (fun f9 a9 hq10 => ?_) (fun _ _ _ h => h))
  have hI11 := hq10
  refine am_raload_n rfl rfl rfl ?_
  refine am_rgetf (S1 := [.ref 106]) rfl rfl ?_
  refine am_riconst rfl ?_
  refine am_riload_n rfl rfl rfl ?_
  have q12 := am_Ig10606 hI11
  have q13 := am_Ig10607 hI11
  refine am_evirtualV (m := am_m9) (As := [.ref 106, am_iv 1, am_iv b6]) (S1 := []) rfl rfl rfl rfl rfl rfl rfl rfl rfl rfl (am_TE.void (am_ct9 (y1 := 1) (y2 := b6) (by omega) hI11 (by omega) (by omega) (by omega) (by omega) (by omega)) (fun f14 a14 hq15 => ?_) (fun _ _ _ h => h))
  obtain ⟨hI16, hq15⟩ := hq15
  refine am_riconst rfl ?_
  refine am_ristore_n (L1 := [(0, .ref 113), (1, am_iv b6), (2, am_iv 0)]) rfl rfl rfl rfl rfl ?_
  refine am_raload_n rfl rfl rfl ?_
  refine am_rgetf (S1 := [.ref 2]) rfl rfl ?_
  have q17 := am_Ig201 hI16
  refine am_evirtualI (m := am_m78) (As := [.ref 2]) (S1 := []) rfl rfl rfl rfl rfl rfl rfl rfl rfl rfl (am_TE.int (am_ct78  (by omega) hI16) (fun b18 f18 a18 hq19 => ?_) (fun _ _ _ h => h))
  obtain ⟨hI20, hq19⟩ := hq19
  refine am_ristore_n (L1 := [(0, .ref 113), (1, am_iv b6), (2, am_iv 0), (3, am_iv b18)]) rfl rfl rfl rfl rfl ?_
  refine am_riconst rfl ?_
  refine am_ristore (L1 := [(0, .ref 113), (1, am_iv b6), (2, am_iv 0), (3, am_iv b18), (4, am_iv 0)]) rfl rfl rfl rfl rfl ?_
  exact am_ct88_47 hd (_ + 1) (Nat.lt_succ_self _) hI20 (by omega) (by omega) (by omega) (by omega) (by omega) (by omega) (by omega)
set_option maxRecDepth 100000 in
set_option maxHeartbeats 4000000 in
theorem am_ct87 {X : List Value} {w : Value} {e : Nat} {g : aF} {h : aA} {d : Nat} {f : aF} {a : aA} (hd : 4 ≤ d) (hI : am_IV true g h f a) :
    am_TE X d am_m87 0 (lv_args 0 [.ref 113]) [] f a w e (am_QV (fun f1 a1 => am_IV true g h f1 a1)) (am_EC g h) := by
  obtain ⟨d, rfl⟩ : ∃ d0, d = d0 + 1 := ⟨d - 1, by omega⟩
  refine am_raload_n rfl rfl rfl ?_
  refine am_rgetf (S1 := [.ref 2]) rfl rfl ?_
  have q1 := am_Ig201 hI
  refine am_evirtualI (m := am_m83) (As := [.ref 2]) (S1 := []) rfl rfl rfl rfl rfl rfl rfl rfl rfl rfl (am_TE.int (am_ct83  (by omega) hI) (fun b2 f2 a2 hq3 => ?_) (fun _ _ _ h => h))
  obtain ⟨hI4, hq3⟩ := hq3
  refine am_ristore_n (L1 := [(0, .ref 113), (1, am_iv b2)]) rfl rfl rfl rfl rfl ?_
  refine am_riload_n rfl rfl rfl ?_
  refine am_riconst rfl ?_
  refine am_ric_ne rfl rfl (by unfold am_rg; omega) (by unfold am_rg; omega) (fun hc5 => ?_) (fun hc5 => ?_)
  · refine am_raload_n rfl rfl rfl ?_
    refine am_rgetf (S1 := [.ref 106]) rfl rfl ?_
    refine am_riload_n rfl rfl rfl ?_
    refine am_evirtualV (m := am_m11) (As := [.ref 106, am_iv b2]) (S1 := []) rfl rfl rfl rfl rfl rfl rfl rfl rfl rfl (am_TE.void (am_ct11 (y1 := b2) (by omega) hI4 (by omega)) (fun f6 a6 hq7 => ?_) (fun _ _ _ h => h))
    have hI8 := hq7
    exact am_eret rfl rfl hI8
  · refine am_raload_n rfl rfl rfl ?_
    refine am_rgetf (S1 := [.ref 4]) rfl rfl ?_
    refine am_evirtualV (m := am_m63) (As := [.ref 4]) (S1 := []) rfl rfl rfl rfl rfl rfl rfl rfl rfl rfl (am_TE.void (am_ct63  (by omega) hI4) (fun f9 a9 hq10 => ?_) (fun _ _ _ h => h))
    have hI11 := hq10
    refine am_rgoto rfl rfl ?_
    exact am_eret rfl rfl hI11
set_option maxRecDepth 100000 in
set_option maxHeartbeats 4000000 in
theorem am_ct86_13 {X : List Value} {w : Value} {e : Nat} {g : aF} {h : aA} {d : Nat} (hd : 7 ≤ d + 1) (n : Nat) :
    ∀ {f : aF} {a : aA} {x1 : Int}, (1000000 - x1).toNat < n → am_IV true g h f a → (-2147483648 ≤ x1 ∧ x1 ≤ 2147483647) → 0 ≤ x1 → am_TE X (d + 1) am_m86 13 [(0, .ref 113), (1, am_iv x1)] [] f a w e (am_QV (fun f1 a1 => am_IV true g h f1 a1)) (am_EC g h) := by
  induction n with
  | zero => intros; omega
  | succ n ih =>
    intro f a x1 hn hI hp0 hp1
    refine am_riload_n rfl rfl rfl ?_
    refine am_rldc (x := 1000000) rfl rfl (by decide) ?_
    refine am_ric_ge rfl rfl (by unfold am_rg; omega) (by unfold am_rg; omega) (fun hc1 => ?_) (fun hc1 => ?_)
    · refine am_raload_n rfl rfl rfl ?_
      refine am_rgetf (S1 := [.ref 2]) rfl rfl ?_
      have q2 := am_Ig201 hI
      refine am_evirtualV (m := am_m82) (As := [.ref 2]) (S1 := []) rfl rfl rfl rfl rfl rfl rfl rfl rfl rfl (am_TE.void (am_ct82  (by omega) hI) (fun f3 a3 hq4 => ?_) (fun _ _ _ h => h))
      obtain ⟨hI5, hq4⟩ := hq4
      refine am_raload_n rfl rfl rfl ?_
      refine am_rgetf (S1 := [.ref 2]) rfl rfl ?_
      refine am_evirtualI (m := am_m72) (As := [.ref 2]) (S1 := []) rfl rfl rfl rfl rfl rfl rfl rfl rfl rfl (am_TE.int (am_ct72  (by omega) hI5) (fun b6 f6 a6 hq7 => ?_) (fun _ _ _ h => h))
      obtain ⟨rfl, rfl, hq7⟩ := hq7
      refine am_riconst rfl ?_
      refine am_ric_eq rfl rfl (by unfold am_rg; omega) (by unfold am_rg; omega) (fun hc8 => ?_) (fun hc8 => ?_)
      · exact am_eret rfl rfl hI5
      · exact am_ethrow rfl rfl rfl rfl ⟨by decide, hI5.weak⟩
    · refine am_raload_n rfl rfl rfl ?_
      refine am_rgetf (S1 := [.ref 4]) rfl rfl ?_
      have q9 := am_Ig406 hI
      refine am_rgetf (S1 := [am_iv (f 406)]) rfl rfl ?_
      refine am_rif_le rfl rfl (by unfold am_rg; omega) (fun hc10 => ?_) (fun hc10 => ?_)
      · refine am_raload_n rfl rfl rfl ?_
        refine am_rgetf (S1 := [.ref 2]) rfl rfl ?_
        have q11 := am_Ig201 hI
        refine am_evirtualV (m := am_m82) (As := [.ref 2]) (S1 := []) rfl rfl rfl rfl rfl rfl rfl rfl rfl rfl (am_TE.void (am_ct82  (by omega) hI) (fun f12 a12 hq13 => ?_) (fun _ _ _ h => h))
        obtain ⟨hI14, hq13⟩ := hq13
        refine am_raload_n rfl rfl rfl ?_
        refine am_rgetf (S1 := [.ref 2]) rfl rfl ?_
        refine am_evirtualI (m := am_m72) (As := [.ref 2]) (S1 := []) rfl rfl rfl rfl rfl rfl rfl rfl rfl rfl (am_TE.int (am_ct72  (by omega) hI14) (fun b15 f15 a15 hq16 => ?_) (fun _ _ _ h => h))
        obtain ⟨rfl, rfl, hq16⟩ := hq16
        refine am_riconst rfl ?_
        refine am_ric_eq rfl rfl (by unfold am_rg; omega) (by unfold am_rg; omega) (fun hc17 => ?_) (fun hc17 => ?_)
        · exact am_eret rfl rfl hI14
        · exact am_ethrow rfl rfl rfl rfl ⟨by decide, hI14.weak⟩
      · refine am_raload_n rfl rfl rfl ?_
        refine am_rgetf (S1 := [.ref 2]) rfl rfl ?_
        refine am_evirtualI (m := am_m72) (As := [.ref 2]) (S1 := []) rfl rfl rfl rfl rfl rfl rfl rfl rfl rfl (am_TE.int (am_ct72  (by omega) hI) (fun b18 f18 a18 hq19 => ?_) (fun _ _ _ h => h))
        obtain ⟨rfl, rfl, hq19⟩ := hq19
        refine am_ristore_n (L1 := [(0, .ref 113), (1, am_iv x1), (2, am_iv b18)]) rfl rfl rfl rfl rfl ?_
        refine am_riload_n rfl rfl rfl ?_
        refine am_riconst rfl ?_
        refine am_ric_ne rfl rfl (by unfold am_rg; omega) (by unfold am_rg; omega) (fun hc20 => ?_) (fun hc20 => ?_)
        · refine am_riload_n rfl rfl rfl ?_
          refine am_rbipush rfl (by decide) ?_
          refine am_ric_ne rfl rfl (by unfold am_rg; omega) (by unfold am_rg; omega) (fun hc21 => ?_) (fun hc21 => ?_)
          · refine am_riload_n rfl rfl rfl ?_
            refine am_rbipush rfl (by decide) ?_
            refine am_ric_eq rfl rfl (by unfold am_rg; omega) (by unfold am_rg; omega) (fun hc22 => ?_) (fun hc22 => ?_)
            · refine am_raload_n rfl rfl rfl ?_
              refine am_rgetf (S1 := [.ref 2]) rfl rfl ?_
              refine am_rldcs rfl rfl rfl ?_
              have q23 := am_Ig201 hI
              refine am_evirtualI (m := am_m77) (As := [.ref 2, .ref (1000000 + 32)]) (S1 := []) rfl rfl rfl rfl rfl rfl rfl rfl rfl rfl (am_TE.int (am_ct77  (by omega) hI (by decide)) (fun b24 f24 a24 hq25 => ?_) (fun _ _ _ h => h))
              obtain ⟨hI26, hq25⟩ := hq25
              refine am_rif_eq rfl rfl (by unfold am_rg; omega) (fun hc27 => ?_) (fun hc27 => ?_)
              · refine am_raload_n rfl rfl rfl ?_
                refine am_rgetf (S1 := [.ref 2]) rfl rfl ?_
                have q28 := am_Ig201 hI26
                refine am_evirtualI (m := am_m81) (As := [.ref 2]) (S1 := []) rfl rfl rfl rfl rfl rfl rfl rfl rfl rfl (am_TE.int (am_ct81  (by omega) hI26) (fun b29 f29 a29 hq30 => ?_) (fun _ _ _ h => h))
                obtain ⟨hI31, hq30⟩ := hq30
                refine am_rif_ne rfl rfl (by unfold am_rg; omega) (fun hc32 => ?_) (fun hc32 => ?_)
                · refine am_riinc (L1 := [(0, .ref 113), (1, am_iv (x1 + 1)), (2, am_iv b18)]) rfl rfl rfl rfl rfl ?_
                  refine am_rgoto rfl rfl ?_
                  exact am_T.drop (L1 := [(0, .ref 113), (1, am_iv (x1 + 1))]) (ih (by omega) hI31 (by omega) (by omega)) (by simp)
                · refine am_raload_n rfl rfl rfl ?_
                  refine am_evirtualV (m := am_m88) (As := [.ref 113]) (S1 := []) rfl rfl rfl rfl rfl rfl rfl rfl rfl rfl (am_TE.void (am_ct88  (by omega) hI31) (fun f33 a33 hq34 => ?_) (fun _ _ _ h => h))
                  have hI35 := hq34
                  refine am_riinc (L1 := [(0, .ref 113), (1, am_iv (x1 + 1)), (2, am_iv b18)]) rfl rfl rfl rfl rfl ?_
                  refine am_rgoto rfl rfl ?_
                  exact am_T.drop (L1 := [(0, .ref 113), (1, am_iv (x1 + 1))]) (ih (by omega) hI35 (by omega) (by omega)) (by simp)
              · refine am_raload_n rfl rfl rfl ?_
                refine am_evirtualV (m := am_m91) (As := [.ref 113]) (S1 := []) rfl rfl rfl rfl rfl rfl rfl rfl rfl rfl (am_TE.void (am_ct91  (by omega) hI26) (fun f36 a36 hq37 => ?_) (fun _ _ _ h => h))
                have hI38 := hq37
                refine am_rgoto rfl rfl ?_
                refine am_riinc (L1 := [(0, .ref 113), (1, am_iv (x1 + 1)), (2, am_iv b18)]) rfl rfl rfl rfl rfl ?_
                refine am_rgoto rfl rfl ?_
                exact am_T.drop (L1 := [(0, .ref 113), (1, am_iv (x1 + 1))]) (ih (by omega) hI38 (by omega) (by omega)) (by simp)
            · refine am_raload_n rfl rfl rfl ?_
              refine am_rgetf (S1 := [.ref 106]) rfl rfl ?_
              refine am_raload_n rfl rfl rfl ?_
              refine am_rgetf (S1 := [.ref 2, .ref 106]) rfl rfl ?_
              have q39 := am_Ig201 hI
              refine am_evirtualI (m := am_m73) (As := [.ref 2]) (S1 := [.ref 106]) rfl rfl rfl rfl rfl rfl rfl rfl rfl rfl (am_TE.int (am_ct73  (by omega) hI) (fun b40 f40 a40 hq41 => ?_) (fun _ _ _ h => h))
              obtain ⟨hI42, hq41⟩ := hq41
              refine am_evirtualV (m := am_m11) (As := [.ref 106, am_iv b40]) (S1 := []) rfl rfl rfl rfl rfl rfl rfl rfl rfl rfl (am_TE.void (am_ct11 (y1 := b40) (by omega) hI42 (by omega)) (fun f43 a43 hq44 => ?_) (fun _ _ _ h => h))
              have hI45 := hq44
              refine am_rgoto rfl rfl ?_
              refine am_riinc (L1 := [(0, .ref 113), (1, am_iv (x1 + 1)), (2, am_iv b18)]) rfl rfl rfl rfl rfl ?_
              refine am_rgoto rfl rfl ?_
              exact am_T.drop (L1 := [(0, .ref 113), (1, am_iv (x1 + 1))]) (ih (by omega) hI45 (by omega) (by omega)) (by simp)
          · refine am_raload_n rfl rfl rfl ?_
            refine am_evirtualV (m := am_m87) (As := [.ref 113]) (S1 := []) rfl rfl rfl rfl rfl rfl rfl rfl rfl rfl (am_TE.void (am_ct87  (by omega) hI) (fun f46 a46 hq47 => ?_) (fun _ _ _ h => h))
            have hI48 := hq47
            refine am_rgoto rfl rfl ?_
            refine am_riinc (L1 := [(0, .ref 113), (1, am_iv (x1 + 1)), (2, am_iv b18)]) rfl rfl rfl rfl rfl ?_
            refine am_rgoto rfl rfl ?_
            exact am_T.drop (L1 := [(0, .ref 113), (1, am_iv (x1 + 1))]) (ih (by omega) hI48 (by omega) (by omega)) (by simp)
        · refine am_raload_n rfl rfl rfl ?_
          refine am_rgetf (S1 := [.ref 4]) rfl rfl ?_
          refine am_evirtualV (m := am_m64) (As := [.ref 4]) (S1 := []) rfl rfl rfl rfl rfl rfl rfl rfl rfl rfl (am_TE.void (am_ct64  (by omega) hI) (fun f49 a49 hq50 => ?_) (fun _ _ _ h => h))
          have hI51 := hq50
          refine am_rgoto rfl rfl ?_
          refine am_riinc (L1 := [(0, .ref 113), (1, am_iv (x1 + 1)), (2, am_iv b18)]) rfl rfl rfl rfl rfl ?_
          refine am_rgoto rfl rfl ?_
          exact am_T.drop (L1 := [(0, .ref 113), (1, am_iv (x1 + 1))]) (ih (by omega) hI51 (by omega) (by omega)) (by simp)
set_option maxRecDepth 100000 in
set_option maxHeartbeats 4000000 in
theorem am_ct86 {X : List Value} {w : Value} {e : Nat} {g : aF} {h : aA} {d : Nat} {f : aF} {a : aA} (hd : 7 ≤ d) (hI : am_IV true g h f a) :
    am_TE X d am_m86 0 (lv_args 0 [.ref 113]) [] f a w e (am_QV (fun f1 a1 => am_IV true g h f1 a1)) (am_EC g h) := by
  obtain ⟨d, rfl⟩ : ∃ d0, d = d0 + 1 := ⟨d - 1, by omega⟩
  refine am_raload_n rfl rfl rfl ?_
  refine am_rgetf (S1 := [.ref 106]) rfl rfl ?_
  refine am_evirtualV (m := am_m8) (As := [.ref 106]) (S1 := []) rfl rfl rfl rfl rfl rfl rfl rfl rfl rfl (am_TE.void (am_ct8  (by omega) hI) (fun f1 a1 hq2 => ?_) (fun _ _ _ h => h))
  have hI3 := hq2
  refine am_raload_n rfl rfl rfl ?_
  refine am_evirtualV (m := am_m88) (As := [.ref 113]) (S1 := []) rfl rfl rfl rfl rfl rfl rfl rfl rfl rfl (am_TE.void (am_ct88  (by omega) hI3) (fun f4 a4 hq5 => ?_) (fun _ _ _ h => h))
  have hI6 := hq5
  refine am_riconst rfl ?_
  refine am_ristore_n (L1 := [(0, .ref 113), (1, am_iv 0)]) rfl rfl rfl rfl rfl ?_
  exact am_ct86_13 hd (_ + 1) (Nat.lt_succ_self _) hI6 (by omega) (by omega)
set_option maxRecDepth 100000 in
set_option maxHeartbeats 4000000 in
theorem am_ct42 {X : List Value} {w : Value} {e : Nat} {g : aF} {h : aA} {p : Bool} {d : Nat} {f : aF} {a : aA} (hd : 3 ≤ d) (hI : am_IV p g h f a) :
    am_TE X d am_m42 0 (lv_args 0 [.ref 12]) [] f a w e (am_QV (fun f1 a1 => am_IV p g h f1 a1)) (am_EC g h) := by
  obtain ⟨d, rfl⟩ : ∃ d0, d = d0 + 1 := ⟨d - 1, by omega⟩
  refine am_raload_n rfl rfl rfl ?_
  refine am_rgetf (S1 := [.ref 2]) rfl rfl ?_
  have q1 := am_Ig201 hI
  refine am_evirtualI (m := am_m78) (As := [.ref 2]) (S1 := []) rfl rfl rfl rfl rfl rfl rfl rfl rfl rfl (am_TE.int (am_ct78  (by omega) hI) (fun b2 f2 a2 hq3 => ?_) (fun _ _ _ h => h))
  obtain ⟨hI4, hq3⟩ := hq3
  refine am_rpop rfl rfl ?_
  refine am_raload_n rfl rfl rfl ?_
  refine am_rgetf (S1 := [.ref 2]) rfl rfl ?_
  refine am_rbipush rfl (by decide) ?_
  have q5 := am_Ig201 hI4
  refine am_evirtualV (m := am_m74) (As := [.ref 2, am_iv 62]) (S1 := []) rfl rfl rfl rfl rfl rfl rfl rfl rfl rfl (am_TE.void (am_ct74 (y1 := 62) (by omega) hI4 (by omega)) (fun f6 a6 hq7 => ?_) (fun _ _ _ h => h))
  obtain ⟨hI8, hq7⟩ := hq7
  exact am_eret rfl rfl hI8
set_option maxRecDepth 100000 in
set_option maxHeartbeats 4000000 in
theorem am_ct41 {X : List Value} {w : Value} {e : Nat} {g : aF} {h : aA} {p : Bool} {d : Nat} {f : aF} {a : aA} (hd : 3 ≤ d) (hI : am_IV p g h f a) :
    am_TE X d am_m41 0 (lv_args 0 [.ref 12]) [] f a w e (am_QI (fun b f1 a1 => am_IV p g h f1 a1 ∧ (-2147483648 ≤ b ∧ b ≤ 2147483647))) (am_EC g h) := by
  obtain ⟨d, rfl⟩ : ∃ d0, d = d0 + 1 := ⟨d - 1, by omega⟩
  refine am_raload_n rfl rfl rfl ?_
  refine am_rgetf (S1 := [.ref 2]) rfl rfl ?_
  refine am_rldcs rfl rfl rfl ?_
  have q1 := am_Ig201 hI
  refine am_evirtualI (m := am_m77) (As := [.ref 2, .ref (1000000 + 22)]) (S1 := []) rfl rfl rfl rfl rfl rfl rfl rfl rfl rfl (am_TE.int (am_ct77  (by omega) hI (by decide)) (fun b2 f2 a2 hq3 => ?_) (fun _ _ _ h => h))
  obtain ⟨hI4, hq3⟩ := hq3
  refine am_rif_eq rfl rfl (by unfold am_rg; omega) (fun hc5 => ?_) (fun hc5 => ?_)
  · refine am_raload_n rfl rfl rfl ?_
    refine am_rgetf (S1 := [.ref 2]) rfl rfl ?_
    refine am_rldcs rfl rfl rfl ?_
    have q6 := am_Ig201 hI4
    refine am_evirtualI (m := am_m77) (As := [.ref 2, .ref (1000000 + 23)]) (S1 := []) rfl rfl rfl rfl rfl rfl rfl rfl rfl rfl (am_TE.int (am_ct77  (by omega) hI4 (by decide)) (fun b7 f7 a7 hq8 => ?_) (fun _ _ _ h => h))
    obtain ⟨hI9, hq8⟩ := hq8
    refine am_rif_eq rfl rfl (by unfold am_rg; omega) (fun hc10 => ?_) (fun hc10 => ?_)
    · refine am_raload_n rfl rfl rfl ?_
      refine am_rgetf (S1 := [.ref 2]) rfl rfl ?_
      refine am_rldcs rfl rfl rfl ?_
      have q11 := am_Ig201 hI9
      refine am_evirtualI (m := am_m77) (As := [.ref 2, .ref (1000000 + 24)]) (S1 := []) rfl rfl rfl rfl rfl rfl rfl rfl rfl rfl (am_TE.int (am_ct77  (by omega) hI9 (by decide)) (fun b12 f12 a12 hq13 => ?_) (fun _ _ _ h => h))
      obtain ⟨hI14, hq13⟩ := hq13
      refine am_rif_eq rfl rfl (by unfold am_rg; omega) (fun hc15 => ?_) (fun hc15 => ?_)
      · refine am_riconst rfl ?_
        exact am_eiret rfl rfl ⟨hI14, (show (-2147483648 ≤ (2 : Int) ∧ (2 : Int) ≤ 2147483647) by omega)⟩
      · refine am_riconst rfl ?_
        refine am_rgoto rfl rfl ?_
        exact am_eiret rfl rfl ⟨hI14, (show (-2147483648 ≤ (3 : Int) ∧ (3 : Int) ≤ 2147483647) by omega)⟩
    · refine am_riconst rfl ?_
      exact am_eiret rfl rfl ⟨hI9, (show (-2147483648 ≤ (0 : Int) ∧ (0 : Int) ≤ 2147483647) by omega)⟩
  · refine am_riconst rfl ?_
    exact am_eiret rfl rfl ⟨hI4, (show (-2147483648 ≤ (1 : Int) ∧ (1 : Int) ≤ 2147483647) by omega)⟩
set_option maxRecDepth 100000 in
set_option maxHeartbeats 4000000 in
theorem am_ct40_13 {X : List Value} {w : Value} {e : Nat} {g : aF} {h : aA} {p : Bool} {d : Nat} (hd : 3 ≤ d + 1) (n : Nat) :
    ∀ {f : aF} {a : aA} {x1 : Int} {x2 : Int}, (1000000 - x2).toNat < n → am_IV p g h f a → (-2147483648 ≤ x1 ∧ x1 ≤ 2147483647) → (-2147483648 ≤ x2 ∧ x2 ≤ 2147483647) → 0 ≤ x2 → am_TE X (d + 1) am_m40 13 [(0, .ref 12), (1, am_iv x1), (2, am_iv x2)] [] f a w e (am_QV (fun f1 a1 => am_IV p g h f1 a1)) (am_EC g h) := by
  induction n with
  | zero => intros; omega
  | succ n ih =>
    intro f a x1 x2 hn hI hp0 hp1 hp2
    refine am_riload_n rfl rfl rfl ?_
    refine am_rldc (x := 1000000) rfl rfl (by decide) ?_
    refine am_ric_ge rfl rfl (by unfold am_rg; omega) (by unfold am_rg; omega) (fun hc1 => ?_) (fun hc1 => ?_)
    · refine am_raload_n rfl rfl rfl ?_
      refine am_rgetf (S1 := [.ref 2]) rfl rfl ?_
      refine am_rbipush rfl (by decide) ?_
      have q2 := am_Ig201 hI
      refine am_evirtualV (m := am_m74) (As := [.ref 2, am_iv 41]) (S1 := []) rfl rfl rfl rfl rfl rfl rfl rfl rfl rfl (am_TE.void (am_ct74 (y1 := 41) (by omega) hI (by omega)) (fun f3 a3 hq4 => ?_) (fun _ _ _ h => h))
      obtain ⟨hI5, hq4⟩ := hq4
      exact am_eret rfl rfl hI5
    · refine am_riload_n rfl rfl rfl ?_
      refine am_rif_eq rfl rfl (by unfold am_rg; omega) (fun hc6 => ?_) (fun hc6 => ?_)
      · refine am_raload_n rfl rfl rfl ?_
        refine am_rgetf (S1 := [.ref 2]) rfl rfl ?_
        refine am_rbipush rfl (by decide) ?_
        have q7 := am_Ig201 hI
        refine am_evirtualV (m := am_m74) (As := [.ref 2, am_iv 41]) (S1 := []) rfl rfl rfl rfl rfl rfl rfl rfl rfl rfl (am_TE.void (am_ct74 (y1 := 41) (by omega) hI (by omega)) (fun f8 a8 hq9 => ?_) (fun _ _ _ h => h))
        obtain ⟨hI10, hq9⟩ := hq9
        exact am_eret rfl rfl hI10
      · refine am_raload_n rfl rfl rfl ?_
        refine am_rgetf (S1 := [.ref 2]) rfl rfl ?_
        have q11 := am_Ig201 hI
        refine am_evirtualI (m := am_m78) (As := [.ref 2]) (S1 := []) rfl rfl rfl rfl rfl rfl rfl rfl rfl rfl (am_TE.int (am_ct78  (by omega) hI) (fun b12 f12 a12 hq13 => ?_) (fun _ _ _ h => h))
        obtain ⟨hI14, hq13⟩ := hq13
        refine am_rpop rfl rfl ?_
        refine am_raload_n rfl rfl rfl ?_
        refine am_rgetf (S1 := [.ref 2]) rfl rfl ?_
        have q15 := am_Ig201 hI14
        refine am_evirtualV (m := am_m80) (As := [.ref 2]) (S1 := []) rfl rfl rfl rfl rfl rfl rfl rfl rfl rfl (am_TE.void (am_ct80  (by omega) hI14) (fun f16 a16 hq17 => ?_) (fun _ _ _ h => h))
        obtain ⟨hI18, hq17⟩ := hq17
        refine am_raload_n rfl rfl rfl ?_
        refine am_rgetf (S1 := [.ref 2]) rfl rfl ?_
        have q19 := am_Ig201 hI18
        refine am_evirtualI (m := am_m78) (As := [.ref 2]) (S1 := []) rfl rfl rfl rfl rfl rfl rfl rfl rfl rfl (am_TE.int (am_ct78  (by omega) hI18) (fun b20 f20 a20 hq21 => ?_) (fun _ _ _ h => h))
        obtain ⟨hI22, hq21⟩ := hq21
        refine am_rpop rfl rfl ?_
        refine am_raload_n rfl rfl rfl ?_
        refine am_rgetf (S1 := [.ref 2]) rfl rfl ?_
        refine am_rldcs rfl rfl rfl ?_
        have q23 := am_Ig201 hI22
        refine am_evirtualI (m := am_m77) (As := [.ref 2, .ref (1000000 + 21)]) (S1 := []) rfl rfl rfl rfl rfl rfl rfl rfl rfl rfl (am_TE.int (am_ct77  (by omega) hI22 (by decide)) (fun b24 f24 a24 hq25 => ?_) (fun _ _ _ h => h))
        obtain ⟨hI26, hq25⟩ := hq25
        refine am_ristore_n (L1 := [(0, .ref 12), (1, am_iv b24), (2, am_iv x2)]) rfl rfl rfl rfl rfl ?_
        refine am_riinc (L1 := [(0, .ref 12), (1, am_iv b24), (2, am_iv (x2 + 1))]) rfl rfl rfl rfl rfl ?_
        refine am_rgoto rfl rfl ?_
        exact ih (by omega) hI26 (by omega) (by omega) (by omega)
set_option maxRecDepth 100000 in
set_option maxHeartbeats 4000000 in
theorem am_ct40 {X : List Value} {w : Value} {e : Nat} {g : aF} {h : aA} {p : Bool} {d : Nat} {f : aF} {a : aA} (hd : 3 ≤ d) (hI : am_IV p g h f a) :
    am_TE X d am_m40 0 (lv_args 0 [.ref 12]) [] f a w e (am_QV (fun f1 a1 => am_IV p g h f1 a1)) (am_EC g h) := by
  obtain ⟨d, rfl⟩ : ∃ d0, d = d0 + 1 := ⟨d - 1, by omega⟩
  refine am_raload_n rfl rfl rfl ?_
  refine am_rgetf (S1 := [.ref 2]) rfl rfl ?_
  refine am_rbipush rfl (by decide) ?_
  have q1 := am_Ig201 hI
  refine am_evirtualV (m := am_m74) (As := [.ref 2, am_iv 40]) (S1 := []) rfl rfl rfl rfl rfl rfl rfl rfl rfl rfl (am_TE.void (am_ct74 (y1 := 40) (by omega) hI (by omega)) (fun f2 a2 hq3 => ?_) (fun _ _ _ h => h))
  obtain ⟨hI4, hq3⟩ := hq3
  refine am_riconst rfl ?_
  refine am_ristore_n (L1 := [(0, .ref 12), (1, am_iv 1)]) rfl rfl rfl rfl rfl ?_
  refine am_riconst rfl ?_
  refine am_ristore_n (L1 := [(0, .ref 12), (1, am_iv 1), (2, am_iv 0)]) rfl rfl rfl rfl rfl ?_
  exact am_ct40_13 hd (_ + 1) (Nat.lt_succ_self _) hI4 (by omega) (by omega) (by omega)
set_option maxRecDepth 100000 in
set_option maxHeartbeats 4000000 in
theorem am_ct39 {X : List Value} {w : Value} {e : Nat} {g : aF} {h : aA} {p : Bool} {d : Nat} {f : aF} {a : aA} (hd : 4 ≤ d) (hI : am_IV p g h f a) :
    am_TE X d am_m39 0 (lv_args 0 [.ref 12]) [] f a w e (am_QI (fun b f1 a1 => am_IV p g h f1 a1 ∧ (-2147483648 ≤ b ∧ b ≤ 2147483647))) (am_EC g h) := by
  obtain ⟨d, rfl⟩ : ∃ d0, d = d0 + 1 := ⟨d - 1, by omega⟩
  refine am_raload_n rfl rfl rfl ?_
  refine am_rgetf (S1 := [.ref 2]) rfl rfl ?_
  refine am_rldcs rfl rfl rfl ?_
  have q1 := am_Ig201 hI
  refine am_evirtualI (m := am_m77) (As := [.ref 2, .ref (1000000 + 17)]) (S1 := []) rfl rfl rfl rfl rfl rfl rfl rfl rfl rfl (am_TE.int (am_ct77  (by omega) hI (by decide)) (fun b2 f2 a2 hq3 => ?_) (fun _ _ _ h => h))
  obtain ⟨hI4, hq3⟩ := hq3
  refine am_rif_eq rfl rfl (by unfold am_rg; omega) (fun hc5 => ?_) (fun hc5 => ?_)
  · refine am_raload_n rfl rfl rfl ?_
    refine am_rgetf (S1 := [.ref 2]) rfl rfl ?_
    refine am_rldcs rfl rfl rfl ?_
    have q6 := am_Ig201 hI4
    refine am_evirtualI (m := am_m77) (As := [.ref 2, .ref (1000000 + 18)]) (S1 := []) rfl rfl rfl rfl rfl rfl rfl rfl rfl rfl (am_TE.int (am_ct77  (by omega) hI4 (by decide)) (fun b7 f7 a7 hq8 => ?_) (fun _ _ _ h => h))
    obtain ⟨hI9, hq8⟩ := hq8
    refine am_rif_eq rfl rfl (by unfold am_rg; omega) (fun hc10 => ?_) (fun hc10 => ?_)
    · refine am_raload_n rfl rfl rfl ?_
      refine am_rgetf (S1 := [.ref 2]) rfl rfl ?_
      refine am_rldcs rfl rfl rfl ?_
      have q11 := am_Ig201 hI9
      refine am_evirtualI (m := am_m77) (As := [.ref 2, .ref (1000000 + 19)]) (S1 := []) rfl rfl rfl rfl rfl rfl rfl rfl rfl rfl (am_TE.int (am_ct77  (by omega) hI9 (by decide)) (fun b12 f12 a12 hq13 => ?_) (fun _ _ _ h => h))
      obtain ⟨hI14, hq13⟩ := hq13
      refine am_rif_eq rfl rfl (by unfold am_rg; omega) (fun hc15 => ?_) (fun hc15 => ?_)
      · refine am_raload_n rfl rfl rfl ?_
        refine am_rgetf (S1 := [.ref 2]) rfl rfl ?_
        refine am_rldcs rfl rfl rfl ?_
        have q16 := am_Ig201 hI14
        refine am_evirtualI (m := am_m77) (As := [.ref 2, .ref (1000000 + 20)]) (S1 := []) rfl rfl rfl rfl rfl rfl rfl rfl rfl rfl (am_TE.int (am_ct77  (by omega) hI14 (by decide)) (fun b17 f17 a17 hq18 => ?_) (fun _ _ _ h => h))
        obtain ⟨hI19, hq18⟩ := hq18
        refine am_rif_eq rfl rfl (by unfold am_rg; omega) (fun hc20 => ?_) (fun hc20 => ?_)
        · refine am_raload_n rfl rfl rfl ?_
          refine am_evirtualV (m := am_m40) (As := [.ref 12]) (S1 := []) rfl rfl rfl rfl rfl rfl rfl rfl rfl rfl (am_TE.void (am_ct40  (by omega) hI19) (fun f21 a21 hq22 => ?_) (fun _ _ _ h => h))
          have hI23 := hq22
          refine am_riconst rfl ?_
          exact am_eiret rfl rfl ⟨hI23, (show (-2147483648 ≤ (4 : Int) ∧ (4 : Int) ≤ 2147483647) by omega)⟩
        · refine am_riconst rfl ?_
          exact am_eiret rfl rfl ⟨hI19, (show (-2147483648 ≤ (3 : Int) ∧ (3 : Int) ≤ 2147483647) by omega)⟩
      · refine am_riconst rfl ?_
        exact am_eiret rfl rfl ⟨hI14, (show (-2147483648 ≤ (1 : Int) ∧ (1 : Int) ≤ 2147483647) by omega)⟩
    · refine am_riconst rfl ?_
      exact am_eiret rfl rfl ⟨hI9, (show (-2147483648 ≤ (2 : Int) ∧ (2 : Int) ≤ 2147483647) by omega)⟩
  · refine am_riconst rfl ?_
    exact am_eiret rfl rfl ⟨hI4, (show (-2147483648 ≤ (0 : Int) ∧ (0 : Int) ≤ 2147483647) by omega)⟩
set_option maxRecDepth 100000 in
set_option maxHeartbeats 4000000 in
theorem am_ct38 {X : List Value} {w : Value} {e : Nat} {g : aF} {h : aA} {d : Nat} {y1 : Int} {f : aF} {a : aA} (hd : 5 ≤ d) (hI : am_IV true g h f a) (hp0 : (-2147483648 ≤ y1 ∧ y1 ≤ 2147483647)) :
    am_TE X d am_m38 0 (lv_args 0 [.ref 12, am_iv y1]) [] f a w e (am_QV (fun f1 a1 => am_IV true g h f1 a1)) (am_EC g h) := by
  obtain ⟨d, rfl⟩ : ∃ d0, d = d0 + 1 := ⟨d - 1, by omega⟩
  refine am_raload_n rfl rfl rfl ?_
  refine am_rgetf (S1 := [.ref 2]) rfl rfl ?_
  have q1 := am_Ig201 hI
  refine am_evirtualI (m := am_m75) (As := [.ref 2]) (S1 := []) rfl rfl rfl rfl rfl rfl rfl rfl rfl rfl (am_TE.int (am_ct75  (by omega) hI) (fun b2 f2 a2 hq3 => ?_) (fun _ _ _ h => h))
  obtain ⟨hI4, hq3⟩ := hq3
  refine am_ristore_n (L1 := [(0, .ref 12), (1, am_iv y1), (2, am_iv b2)]) rfl rfl rfl rfl rfl ?_
  refine am_raload_n rfl rfl rfl ?_
  refine am_rgetf (S1 := [.ref 2]) rfl rfl ?_
  have q5 := am_Ig201 hI4
  refine am_evirtualV (m := am_m79) (As := [.ref 2]) (S1 := []) rfl rfl rfl rfl rfl rfl rfl rfl rfl rfl (am_TE.void (am_ct79  (by omega) hI4) (fun f6 a6 hq7 => ?_) (fun _ _ _ h => h))
  obtain ⟨hI8, hq7⟩ := hq7
  refine am_raload_n rfl rfl rfl ?_
  refine am_rgetf (S1 := [.ref 2]) rfl rfl ?_
  have q9 := am_Ig202 hI8
  refine am_rgetf (S1 := [am_iv (f6 202)]) rfl rfl ?_
  refine am_ristore_n (L1 := [(0, .ref 12), (1, am_iv y1), (2, am_iv b2), (3, am_iv (f6 202))]) rfl rfl rfl rfl rfl ?_
  refine am_raload_n rfl rfl rfl ?_
  refine am_evirtualI (m := am_m39) (As := [.ref 12]) (S1 := []) rfl rfl rfl rfl rfl rfl rfl rfl rfl rfl (am_TE.int (am_ct39  (by omega) hI8) (fun b10 f10 a10 hq11 => ?_) (fun _ _ _ h => h))
  obtain ⟨hI12, hq11⟩ := hq11
  refine am_ristore (L1 := [(0, .ref 12), (1, am_iv y1), (2, am_iv b2), (3, am_iv (f6 202)), (4, am_iv b10)]) rfl rfl rfl rfl rfl ?_
  refine am_raload_n rfl rfl rfl ?_
  refine am_rgetf (S1 := [.ref 2]) rfl rfl ?_
  have q13 := am_Ig202 hI12
  refine am_rgetf (S1 := [am_iv (f10 202)]) rfl rfl ?_
  refine am_ristore (L1 := [(0, .ref 12), (1, am_iv y1), (2, am_iv b2), (3, am_iv (f6 202)), (4, am_iv b10), (5, am_iv (f10 202))]) rfl rfl rfl rfl rfl ?_
  refine am_raload_n rfl rfl rfl ?_
  refine am_rgetf (S1 := [.ref 2]) rfl rfl ?_
  have q14 := am_Ig201 hI12
  refine am_evirtualV (m := am_m79) (As := [.ref 2]) (S1 := []) rfl rfl rfl rfl rfl rfl rfl rfl rfl rfl (am_TE.void (am_ct79  (by omega) hI12) (fun f15 a15 hq16 => ?_) (fun _ _ _ h => h))
  obtain ⟨hI17, hq16⟩ := hq16
  refine am_raload_n rfl rfl rfl ?_
  refine am_evirtualI (m := am_m41) (As := [.ref 12]) (S1 := []) rfl rfl rfl rfl rfl rfl rfl rfl rfl rfl (am_TE.int (am_ct41  (by omega) hI17) (fun b18 f18 a18 hq19 => ?_) (fun _ _ _ h => h))
  obtain ⟨hI20, hq19⟩ := hq19
  refine am_ristore (L1 := [(0, .ref 12), (1, am_iv y1), (2, am_iv b2), (3, am_iv (f6 202)), (4, am_iv b10), (5, am_iv (f10 202)), (6, am_iv b18)]) rfl rfl rfl rfl rfl ?_
  refine am_riload rfl rfl rfl ?_
  refine am_riconst rfl ?_
  refine am_ric_ne rfl rfl (by unfold am_rg; omega) (by unfold am_rg; omega) (fun hc21 => ?_) (fun hc21 => ?_)
  · refine am_raload_n rfl rfl rfl ?_
    refine am_rgetf (S1 := [.ref 17]) rfl rfl ?_
    refine am_riload_n rfl rfl rfl ?_
    refine am_riload_n rfl rfl rfl ?_
    refine am_evirtualI (m := am_m2) (As := [.ref 17, am_iv y1, am_iv b2]) (S1 := []) rfl rfl rfl rfl rfl rfl rfl rfl rfl rfl (am_TE.int (am_ct2 (y1 := y1) (y2 := b2) (by omega) hI20 (by omega) (by omega)) (fun b22 f22 a22 hq23 => ?_) (fun _ _ _ h => h))
    have q24 := am_Ig1709 hI20
    obtain ⟨rfl, rfl, hq23⟩ := hq23
    refine am_riconst rfl ?_
    refine am_ric_ne rfl rfl (by unfold am_rg; omega) (by unfold am_rg; omega) (fun hc25 => ?_) (fun hc25 => ?_)
    · refine am_riconst rfl ?_
      refine am_ristore (L1 := [(0, .ref 12), (1, am_iv y1), (2, am_iv b2), (3, am_iv (f6 202)), (4, am_iv b10), (5, am_iv (f10 202)), (6, am_iv b18), (7, am_iv 0)]) rfl rfl rfl rfl rfl ?_
      refine am_riload rfl rfl rfl ?_
      refine am_rif_eq rfl rfl (by unfold am_rg; omega) (fun hc26 => ?_) (fun hc26 => ?_)
      rotate_left
      · exfalso; omega
      refine am_riload rfl rfl rfl ?_
      refine am_riconst rfl ?_
      refine am_ric_eq rfl rfl (by unfold am_rg; omega) (by unfold am_rg; omega) (fun hc27 => ?_) (fun hc27 => ?_)
      · refine am_raload_n rfl rfl rfl ?_
        refine am_rgetf (S1 := [.ref 10]) rfl rfl ?_
        refine am_riload rfl rfl rfl ?_
        refine am_rif_eq rfl rfl (by unfold am_rg; omega) (fun hc28 => ?_) (fun hc28 => ?_)
        · refine am_riconst rfl ?_
          refine am_evirtualV (m := am_m94) (As := [.ref 10, am_iv 0]) (S1 := []) rfl rfl rfl rfl rfl rfl rfl rfl rfl rfl (am_TE.void (am_ct94 (y1 := 0) (by omega) hI20 (by omega)) (fun f29 a29 hq30 => ?_) (fun _ _ _ h => h))
          have hI31 := hq30
          refine am_riload rfl rfl rfl ?_
          refine am_rif_eq rfl rfl (by unfold am_rg; omega) (fun hc32 => ?_) (fun hc32 => ?_)
          rotate_left
          · exfalso; omega
          exact am_eret rfl rfl hI31
        · refine am_riconst rfl ?_
          refine am_rgoto rfl rfl ?_
          refine am_evirtualV (m := am_m94) (As := [.ref 10, am_iv 1]) (S1 := []) rfl rfl rfl rfl rfl rfl rfl rfl rfl rfl (am_TE.void (am_ct94 (y1 := 1) (by omega) hI20 (by omega)) (fun f33 a33 hq34 => ?_) (fun _ _ _ h => h))
          have hI35 := hq34
          refine am_riload rfl rfl rfl ?_
          refine am_rif_eq rfl rfl (by unfold am_rg; omega) (fun hc36 => ?_) (fun hc36 => ?_)
          rotate_left
          · exfalso; omega
          exact am_eret rfl rfl hI35
      · refine am_riload rfl rfl rfl ?_
        refine am_riconst rfl ?_
        refine am_ric_ne rfl rfl (by unfold am_rg; omega) (by unfold am_rg; omega) (fun hc37 => ?_) (fun hc37 => ?_)
        · exact am_eret rfl rfl hI20
        · refine am_raload_n rfl rfl rfl ?_
          refine am_rgetf (S1 := [.ref 10]) rfl rfl ?_
          refine am_riload rfl rfl rfl ?_
          refine am_rif_eq rfl rfl (by unfold am_rg; omega) (fun hc38 => ?_) (fun hc38 => ?_)
          · refine am_riconst rfl ?_
            refine am_evirtualV (m := am_m94) (As := [.ref 10, am_iv 0]) (S1 := []) rfl rfl rfl rfl rfl rfl rfl rfl rfl rfl (am_TE.void (am_ct94 (y1 := 0) (by omega) hI20 (by omega)) (fun f39 a39 hq40 => ?_) (fun _ _ _ h => h))
            have hI41 := hq40
            refine am_riload rfl rfl rfl ?_
            refine am_rif_eq rfl rfl (by unfold am_rg; omega) (fun hc42 => ?_) (fun hc42 => ?_)
            rotate_left
            · exfalso; omega
            exact am_eret rfl rfl hI41
          · refine am_riconst rfl ?_
            refine am_rgoto rfl rfl ?_
            refine am_evirtualV (m := am_m94) (As := [.ref 10, am_iv 1]) (S1 := []) rfl rfl rfl rfl rfl rfl rfl rfl rfl rfl (am_TE.void (am_ct94 (y1 := 1) (by omega) hI20 (by omega)) (fun f43 a43 hq44 => ?_) (fun _ _ _ h => h))
            have hI45 := hq44
            refine am_riload rfl rfl rfl ?_
            refine am_rif_eq rfl rfl (by unfold am_rg; omega) (fun hc46 => ?_) (fun hc46 => ?_)
            rotate_left
            · exfalso; omega
            exact am_eret rfl rfl hI45
    · refine am_riconst rfl ?_
      refine am_rgoto rfl rfl ?_
      refine am_ristore (L1 := [(0, .ref 12), (1, am_iv y1), (2, am_iv b2), (3, am_iv (f6 202)), (4, am_iv b10), (5, am_iv (f10 202)), (6, am_iv b18), (7, am_iv 1)]) rfl rfl rfl rfl rfl ?_
      refine am_riload rfl rfl rfl ?_
      refine am_rif_eq rfl rfl (by unfold am_rg; omega) (fun hc47 => ?_) (fun hc47 => ?_)
      · exfalso; omega
      refine am_raload_n rfl rfl rfl ?_
      refine am_rgetf (S1 := [.ref 17]) rfl rfl ?_
      refine am_riload_n rfl rfl rfl ?_
      refine am_riload_n rfl rfl rfl ?_
      refine am_riload rfl rfl rfl ?_
      refine am_riload rfl rfl rfl ?_
      refine am_evirtualV (m := am_m3) (As := [.ref 17, am_iv y1, am_iv b2, am_iv b10, am_iv b18]) (S1 := []) rfl rfl rfl rfl rfl rfl rfl rfl rfl rfl (am_TE.void (am_ct3 (y1 := y1) (y2 := b2) (y3 := b10) (y4 := b18) (by omega) hI20 (by omega) (by omega) (by omega) (by omega) (by omega) (by omega)) (fun f48 a48 hq49 => ?_) (fun _ _ _ h => h))
      have hI50 := hq49
      refine am_raload_n rfl rfl rfl ?_
      refine am_rgetf (S1 := [.ref 17]) rfl rfl ?_
      refine am_riload_n rfl rfl rfl ?_
      refine am_riload rfl rfl rfl ?_
      refine am_evirtualV (m := am_m4) (As := [.ref 17, am_iv (f6 202), am_iv (f10 202)]) (S1 := []) rfl rfl rfl rfl rfl rfl rfl rfl rfl rfl (am_TE.void (am_ct4 (y1 := (f6 202)) (y2 := (f10 202)) (by omega) hI50 (by omega) (by omega) (by omega) (by omega) (by omega) (by omega)) (fun f51 a51 hq52 => ?_) (fun _ _ _ h => h))
      have hI53 := hq52
      refine am_riload rfl rfl rfl ?_
      refine am_riconst rfl ?_
      refine am_ric_eq rfl rfl (by unfold am_rg; omega) (by unfold am_rg; omega) (fun hc54 => ?_) (fun hc54 => ?_)
      · refine am_raload_n rfl rfl rfl ?_
        refine am_rgetf (S1 := [.ref 10]) rfl rfl ?_
        refine am_riload rfl rfl rfl ?_
        refine am_rif_eq rfl rfl (by unfold am_rg; omega) (fun hc55 => ?_) (fun hc55 => ?_)
        · refine am_riconst rfl ?_
          refine am_evirtualV (m := am_m94) (As := [.ref 10, am_iv 0]) (S1 := []) rfl rfl rfl rfl rfl rfl rfl rfl rfl rfl (am_TE.void (am_ct94 (y1 := 0) (by omega) hI53 (by omega)) (fun f56 a56 hq57 => ?_) (fun _ _ _ h => h))
          have hI58 := hq57
          refine am_riload rfl rfl rfl ?_
          refine am_rif_eq rfl rfl (by unfold am_rg; omega) (fun hc59 => ?_) (fun hc59 => ?_)
          · exfalso; omega
          refine am_raload_n rfl rfl rfl ?_
          refine am_rgetf (S1 := [.ref 17]) rfl rfl ?_
          refine am_raload_n rfl rfl rfl ?_
          refine am_rgetf (S1 := [.ref 10, .ref 17]) rfl rfl ?_
          refine am_rgetf (S1 := [.ref 11, .ref 17]) rfl rfl ?_
          refine am_raload_n rfl rfl rfl ?_
          refine am_rgetf (S1 := [.ref 10, .ref 11, .ref 17]) rfl rfl ?_
          have q60 := am_Ig1003 hI58
          refine am_rgetf (S1 := [am_iv (f56 1003), .ref 11, .ref 17]) rfl rfl ?_
          refine am_evirtualV (m := am_m5) (As := [.ref 17, .ref 11, am_iv (f56 1003)]) (S1 := []) rfl rfl rfl rfl rfl rfl rfl rfl rfl rfl (am_TE.void (am_ct5v (y2 := (f56 1003)) (by omega) hI58 (by omega) (by omega) (by omega)) (fun f61 a61 hq62 => ?_) (fun _ _ _ h => h))
          have hI63 := hq62
          exact am_eret rfl rfl hI63
        · refine am_riconst rfl ?_
          refine am_rgoto rfl rfl ?_
          refine am_evirtualV (m := am_m94) (As := [.ref 10, am_iv 1]) (S1 := []) rfl rfl rfl rfl rfl rfl rfl rfl rfl rfl (am_TE.void (am_ct94 (y1 := 1) (by omega) hI53 (by omega)) (fun f64 a64 hq65 => ?_) (fun _ _ _ h => h))
          have hI66 := hq65
          refine am_riload rfl rfl rfl ?_
          refine am_rif_eq rfl rfl (by unfold am_rg; omega) (fun hc67 => ?_) (fun hc67 => ?_)
          · exfalso; omega
          refine am_raload_n rfl rfl rfl ?_
          refine am_rgetf (S1 := [.ref 17]) rfl rfl ?_
          refine am_raload_n rfl rfl rfl ?_
          refine am_rgetf (S1 := [.ref 10, .ref 17]) rfl rfl ?_
          refine am_rgetf (S1 := [.ref 11, .ref 17]) rfl rfl ?_
          refine am_raload_n rfl rfl rfl ?_
          refine am_rgetf (S1 := [.ref 10, .ref 11, .ref 17]) rfl rfl ?_
          have q68 := am_Ig1003 hI66
          refine am_rgetf (S1 := [am_iv (f64 1003), .ref 11, .ref 17]) rfl rfl ?_
          refine am_evirtualV (m := am_m5) (As := [.ref 17, .ref 11, am_iv (f64 1003)]) (S1 := []) rfl rfl rfl rfl rfl rfl rfl rfl rfl rfl (am_TE.void (am_ct5v (y2 := (f64 1003)) (by omega) hI66 (by omega) (by omega) (by omega)) (fun f69 a69 hq70 => ?_) (fun _ _ _ h => h))
          have hI71 := hq70
          exact am_eret rfl rfl hI71
      · refine am_riload rfl rfl rfl ?_
        refine am_riconst rfl ?_
        refine am_ric_ne rfl rfl (by unfold am_rg; omega) (by unfold am_rg; omega) (fun hc72 => ?_) (fun hc72 => ?_)
        · exact am_eret rfl rfl hI53
        · refine am_raload_n rfl rfl rfl ?_
          refine am_rgetf (S1 := [.ref 10]) rfl rfl ?_
          refine am_riload rfl rfl rfl ?_
          refine am_rif_eq rfl rfl (by unfold am_rg; omega) (fun hc73 => ?_) (fun hc73 => ?_)
          · refine am_riconst rfl ?_
            refine am_evirtualV (m := am_m94) (As := [.ref 10, am_iv 0]) (S1 := []) rfl rfl rfl rfl rfl rfl rfl rfl rfl rfl (am_TE.void (am_ct94 (y1 := 0) (by omega) hI53 (by omega)) (fun f74 a74 hq75 => ?_) (fun _ _ _ h => h))
            have hI76 := hq75
            refine am_riload rfl rfl rfl ?_
            refine am_rif_eq rfl rfl (by unfold am_rg; omega) (fun hc77 => ?_) (fun hc77 => ?_)
            · exfalso; omega
            refine am_raload_n rfl rfl rfl ?_
            refine am_rgetf (S1 := [.ref 17]) rfl rfl ?_
            refine am_raload_n rfl rfl rfl ?_
            refine am_rgetf (S1 := [.ref 10, .ref 17]) rfl rfl ?_
            refine am_rgetf (S1 := [.ref 11, .ref 17]) rfl rfl ?_
            refine am_raload_n rfl rfl rfl ?_
            refine am_rgetf (S1 := [.ref 10, .ref 11, .ref 17]) rfl rfl ?_
            have q78 := am_Ig1003 hI76
            refine am_rgetf (S1 := [am_iv (f74 1003), .ref 11, .ref 17]) rfl rfl ?_
            refine am_evirtualV (m := am_m5) (As := [.ref 17, .ref 11, am_iv (f74 1003)]) (S1 := []) rfl rfl rfl rfl rfl rfl rfl rfl rfl rfl (am_TE.void (am_ct5v (y2 := (f74 1003)) (by omega) hI76 (by omega) (by omega) (by omega)) (fun f79 a79 hq80 => ?_) (fun _ _ _ h => h))
            have hI81 := hq80
            exact am_eret rfl rfl hI81
          · refine am_riconst rfl ?_
            refine am_rgoto rfl rfl ?_
            refine am_evirtualV (m := am_m94) (As := [.ref 10, am_iv 1]) (S1 := []) rfl rfl rfl rfl rfl rfl rfl rfl rfl rfl (am_TE.void (am_ct94 (y1 := 1) (by omega) hI53 (by omega)) (fun f82 a82 hq83 => ?_) (fun _ _ _ h => h))
            have hI84 := hq83
            refine am_riload rfl rfl rfl ?_
            refine am_rif_eq rfl rfl (by unfold am_rg; omega) (fun hc85 => ?_) (fun hc85 => ?_)
            · exfalso; omega
            refine am_raload_n rfl rfl rfl ?_
            refine am_rgetf (S1 := [.ref 17]) rfl rfl ?_
            refine am_raload_n rfl rfl rfl ?_
            refine am_rgetf (S1 := [.ref 10, .ref 17]) rfl rfl ?_
            refine am_rgetf (S1 := [.ref 11, .ref 17]) rfl rfl ?_
            refine am_raload_n rfl rfl rfl ?_
            refine am_rgetf (S1 := [.ref 10, .ref 11, .ref 17]) rfl rfl ?_
            have q86 := am_Ig1003 hI84
            refine am_rgetf (S1 := [am_iv (f82 1003), .ref 11, .ref 17]) rfl rfl ?_
            refine am_evirtualV (m := am_m5) (As := [.ref 17, .ref 11, am_iv (f82 1003)]) (S1 := []) rfl rfl rfl rfl rfl rfl rfl rfl rfl rfl (am_TE.void (am_ct5v (y2 := (f82 1003)) (by omega) hI84 (by omega) (by omega) (by omega)) (fun f87 a87 hq88 => ?_) (fun _ _ _ h => h))
            have hI89 := hq88
            exact am_eret rfl rfl hI89
  · refine am_raload_n rfl rfl rfl ?_
    refine am_rgetf (S1 := [.ref 2]) rfl rfl ?_
    have q90 := am_Ig201 hI20
    refine am_evirtualV (m := am_m79) (As := [.ref 2]) (S1 := []) rfl rfl rfl rfl rfl rfl rfl rfl rfl rfl (am_TE.void (am_ct79  (by omega) hI20) (fun f91 a91 hq92 => ?_) (fun _ _ _ h => h))
    obtain ⟨hI93, hq92⟩ := hq92
    refine am_raload_n rfl rfl rfl ?_
    refine am_rgetf (S1 := [.ref 17]) rfl rfl ?_
    refine am_riload_n rfl rfl rfl ?_
    refine am_riload_n rfl rfl rfl ?_
    refine am_evirtualI (m := am_m2) (As := [.ref 17, am_iv y1, am_iv b2]) (S1 := []) rfl rfl rfl rfl rfl rfl rfl rfl rfl rfl (am_TE.int (am_ct2 (y1 := y1) (y2 := b2) (by omega) hI93 (by omega) (by omega)) (fun b94 f94 a94 hq95 => ?_) (fun _ _ _ h => h))
    have q96 := am_Ig1709 hI93
    obtain ⟨rfl, rfl, hq95⟩ := hq95
    refine am_riconst rfl ?_
    refine am_ric_ne rfl rfl (by unfold am_rg; omega) (by unfold am_rg; omega) (fun hc97 => ?_) (fun hc97 => ?_)
    · refine am_riconst rfl ?_
      refine am_ristore (L1 := [(0, .ref 12), (1, am_iv y1), (2, am_iv b2), (3, am_iv (f6 202)), (4, am_iv b10), (5, am_iv (f10 202)), (6, am_iv b18), (7, am_iv 0)]) rfl rfl rfl rfl rfl ?_
      refine am_riload rfl rfl rfl ?_
      refine am_rif_eq rfl rfl (by unfold am_rg; omega) (fun hc98 => ?_) (fun hc98 => ?_)
      rotate_left
      · exfalso; omega
      refine am_riload rfl rfl rfl ?_
      refine am_riconst rfl ?_
      refine am_ric_eq rfl rfl (by unfold am_rg; omega) (by unfold am_rg; omega) (fun hc99 => ?_) (fun hc99 => ?_)
      · refine am_raload_n rfl rfl rfl ?_
        refine am_rgetf (S1 := [.ref 10]) rfl rfl ?_
        refine am_riload rfl rfl rfl ?_
        refine am_rif_eq rfl rfl (by unfold am_rg; omega) (fun hc100 => ?_) (fun hc100 => ?_)
        · refine am_riconst rfl ?_
          refine am_evirtualV (m := am_m94) (As := [.ref 10, am_iv 0]) (S1 := []) rfl rfl rfl rfl rfl rfl rfl rfl rfl rfl (am_TE.void (am_ct94 (y1 := 0) (by omega) hI93 (by omega)) (fun f101 a101 hq102 => ?_) (fun _ _ _ h => h))
          have hI103 := hq102
          refine am_riload rfl rfl rfl ?_
          refine am_rif_eq rfl rfl (by unfold am_rg; omega) (fun hc104 => ?_) (fun hc104 => ?_)
          rotate_left
          · exfalso; omega
          exact am_eret rfl rfl hI103
        · refine am_riconst rfl ?_
          refine am_rgoto rfl rfl ?_
          refine am_evirtualV (m := am_m94) (As := [.ref 10, am_iv 1]) (S1 := []) rfl rfl rfl rfl rfl rfl rfl rfl rfl rfl (am_TE.void (am_ct94 (y1 := 1) (by omega) hI93 (by omega)) (fun f105 a105 hq106 => ?_) (fun _ _ _ h => h))
          have hI107 := hq106
          refine am_riload rfl rfl rfl ?_
          refine am_rif_eq rfl rfl (by unfold am_rg; omega) (fun hc108 => ?_) (fun hc108 => ?_)
          rotate_left
          · exfalso; omega
          exact am_eret rfl rfl hI107
      · refine am_riload rfl rfl rfl ?_
        refine am_riconst rfl ?_
        refine am_ric_ne rfl rfl (by unfold am_rg; omega) (by unfold am_rg; omega) (fun hc109 => ?_) (fun hc109 => ?_)
        · exact am_eret rfl rfl hI93
        · refine am_raload_n rfl rfl rfl ?_
          refine am_rgetf (S1 := [.ref 10]) rfl rfl ?_
          refine am_riload rfl rfl rfl ?_
          refine am_rif_eq rfl rfl (by unfold am_rg; omega) (fun hc110 => ?_) (fun hc110 => ?_)
          · refine am_riconst rfl ?_
            refine am_evirtualV (m := am_m94) (As := [.ref 10, am_iv 0]) (S1 := []) rfl rfl rfl rfl rfl rfl rfl rfl rfl rfl (am_TE.void (am_ct94 (y1 := 0) (by omega) hI93 (by omega)) (fun f111 a111 hq112 => ?_) (fun _ _ _ h => h))
            have hI113 := hq112
            refine am_riload rfl rfl rfl ?_
            refine am_rif_eq rfl rfl (by unfold am_rg; omega) (fun hc114 => ?_) (fun hc114 => ?_)
            rotate_left
            · exfalso; omega
            exact am_eret rfl rfl hI113
          · refine am_riconst rfl ?_
            refine am_rgoto rfl rfl ?_
            refine am_evirtualV (m := am_m94) (As := [.ref 10, am_iv 1]) (S1 := []) rfl rfl rfl rfl rfl rfl rfl rfl rfl rfl (am_TE.void (am_ct94 (y1 := 1) (by omega) hI93 (by omega)) (fun f115 a115 hq116 => ?_) (fun _ _ _ h => h))
            have hI117 := hq116
            refine am_riload rfl rfl rfl ?_
            refine am_rif_eq rfl rfl (by unfold am_rg; omega) (fun hc118 => ?_) (fun hc118 => ?_)
            rotate_left
            · exfalso; omega
            exact am_eret rfl rfl hI117
    · refine am_riconst rfl ?_
      refine am_rgoto rfl rfl ?_
      refine am_ristore (L1 := [(0, .ref 12), (1, am_iv y1), (2, am_iv b2), (3, am_iv (f6 202)), (4, am_iv b10), (5, am_iv (f10 202)), (6, am_iv b18), (7, am_iv 1)]) rfl rfl rfl rfl rfl ?_
      refine am_riload rfl rfl rfl ?_
      refine am_rif_eq rfl rfl (by unfold am_rg; omega) (fun hc119 => ?_) (fun hc119 => ?_)
      · exfalso; omega
      refine am_raload_n rfl rfl rfl ?_
      refine am_rgetf (S1 := [.ref 17]) rfl rfl ?_
      refine am_riload_n rfl rfl rfl ?_
      refine am_riload_n rfl rfl rfl ?_
      refine am_riload rfl rfl rfl ?_
      refine am_riload rfl rfl rfl ?_
      refine am_evirtualV (m := am_m3) (As := [.ref 17, am_iv y1, am_iv b2, am_iv b10, am_iv b18]) (S1 := []) rfl rfl rfl rfl rfl rfl rfl rfl rfl rfl (am_TE.void (am_ct3 (y1 := y1) (y2 := b2) (y3 := b10) (y4 := b18) (by omega) hI93 (by omega) (by omega) (by omega) (by omega) (by omega) (by omega)) (fun f120 a120 hq121 => ?_) (fun _ _ _ h => h))
      have hI122 := hq121
      refine am_raload_n rfl rfl rfl ?_
      refine am_rgetf (S1 := [.ref 17]) rfl rfl ?_
      refine am_riload_n rfl rfl rfl ?_
      refine am_riload rfl rfl rfl ?_
      refine am_evirtualV (m := am_m4) (As := [.ref 17, am_iv (f6 202), am_iv (f10 202)]) (S1 := []) rfl rfl rfl rfl rfl rfl rfl rfl rfl rfl (am_TE.void (am_ct4 (y1 := (f6 202)) (y2 := (f10 202)) (by omega) hI122 (by omega) (by omega) (by omega) (by omega) (by omega) (by omega)) (fun f123 a123 hq124 => ?_) (fun _ _ _ h => h))
      have hI125 := hq124
      refine am_riload rfl rfl rfl ?_
      refine am_riconst rfl ?_
      refine am_ric_eq rfl rfl (by unfold am_rg; omega) (by unfold am_rg; omega) (fun hc126 => ?_) (fun hc126 => ?_)
      · refine am_raload_n rfl rfl rfl ?_
        refine am_rgetf (S1 := [.ref 10]) rfl rfl ?_
        refine am_riload rfl rfl rfl ?_
        refine am_rif_eq rfl rfl (by unfold am_rg; omega) (fun hc127 => ?_) (fun hc127 => ?_)
        · refine am_riconst rfl ?_
          refine am_evirtualV (m := am_m94) (As := [.ref 10, am_iv 0]) (S1 := []) rfl rfl rfl rfl rfl rfl rfl rfl rfl rfl (am_TE.void (am_ct94 (y1 := 0) (by omega) hI125 (by omega)) (fun f128 a128 hq129 => ?_) (fun _ _ _ h => h))
          have hI130 := hq129
          refine am_riload rfl rfl rfl ?_
          refine am_rif_eq rfl rfl (by unfold am_rg; omega) (fun hc131 => ?_) (fun hc131 => ?_)
          · exfalso; omega
          refine am_raload_n rfl rfl rfl ?_
          refine am_rgetf (S1 := [.ref 17]) rfl rfl ?_
          refine am_raload_n rfl rfl rfl ?_
          refine am_rgetf (S1 := [.ref 10, .ref 17]) rfl rfl ?_
          refine am_rgetf (S1 := [.ref 11, .ref 17]) rfl rfl ?_
          refine am_raload_n rfl rfl rfl ?_
          refine am_rgetf (S1 := [.ref 10, .ref 11, .ref 17]) rfl rfl ?_
          have q132 := am_Ig1003 hI130
          refine am_rgetf (S1 := [am_iv (f128 1003), .ref 11, .ref 17]) rfl rfl ?_
          refine am_evirtualV (m := am_m5) (As := [.ref 17, .ref 11, am_iv (f128 1003)]) (S1 := []) rfl rfl rfl rfl rfl rfl rfl rfl rfl rfl (am_TE.void (am_ct5v (y2 := (f128 1003)) (by omega) hI130 (by omega) (by omega) (by omega)) (fun f133 a133 hq134 => ?_) (fun _ _ _ h => h))
          have hI135 := hq134
          exact am_eret rfl rfl hI135
        · refine am_riconst rfl ?_
          refine am_rgoto rfl rfl ?_
          refine am_evirtualV (m := am_m94) (As := [.ref 10, am_iv 1]) (S1 := []) rfl rfl rfl rfl rfl rfl rfl rfl rfl rfl (am_TE.void (am_ct94 (y1 := 1) (by omega) hI125 (by omega)) (fun f136 a136 hq137 => ?_) (fun _ _ _ h => h))
          have hI138 := hq137
          refine am_riload rfl rfl rfl ?_
          refine am_rif_eq rfl rfl (by unfold am_rg; omega) (fun hc139 => ?_) (fun hc139 => ?_)
          · exfalso; omega
          refine am_raload_n rfl rfl rfl ?_
          refine am_rgetf (S1 := [.ref 17]) rfl rfl ?_
          refine am_raload_n rfl rfl rfl ?_
          refine am_rgetf (S1 := [.ref 10, .ref 17]) rfl rfl ?_
          refine am_rgetf (S1 := [.ref 11, .ref 17]) rfl rfl ?_
          refine am_raload_n rfl rfl rfl ?_
          refine am_rgetf (S1 := [.ref 10, .ref 11, .ref 17]) rfl rfl ?_
          have q140 := am_Ig1003 hI138
          refine am_rgetf (S1 := [am_iv (f136 1003), .ref 11, .ref 17]) rfl rfl ?_
          refine am_evirtualV (m := am_m5) (As := [.ref 17, .ref 11, am_iv (f136 1003)]) (S1 := []) rfl rfl rfl rfl rfl rfl rfl rfl rfl rfl (am_TE.void (am_ct5v (y2 := (f136 1003)) (by omega) hI138 (by omega) (by omega) (by omega)) (fun f141 a141 hq142 => ?_) (fun _ _ _ h => h))
          have hI143 := hq142
          exact am_eret rfl rfl hI143
      · refine am_riload rfl rfl rfl ?_
        refine am_riconst rfl ?_
        refine am_ric_ne rfl rfl (by unfold am_rg; omega) (by unfold am_rg; omega) (fun hc144 => ?_) (fun hc144 => ?_)
        · exact am_eret rfl rfl hI125
        · refine am_raload_n rfl rfl rfl ?_
          refine am_rgetf (S1 := [.ref 10]) rfl rfl ?_
          refine am_riload rfl rfl rfl ?_
          refine am_rif_eq rfl rfl (by unfold am_rg; omega) (fun hc145 => ?_) (fun hc145 => ?_)
          · refine am_riconst rfl ?_
            refine am_evirtualV (m := am_m94) (As := [.ref 10, am_iv 0]) (S1 := []) rfl rfl rfl rfl rfl rfl rfl rfl rfl rfl (am_TE.void (am_ct94 (y1 := 0) (by omega) hI125 (by omega)) (fun f146 a146 hq147 => ?_) (fun _ _ _ h => h))
            have hI148 := hq147
            refine am_riload rfl rfl rfl ?_
            refine am_rif_eq rfl rfl (by unfold am_rg; omega) (fun hc149 => ?_) (fun hc149 => ?_)
            · exfalso; omega
            refine am_raload_n rfl rfl rfl ?_
            refine am_rgetf (S1 := [.ref 17]) rfl rfl ?_
            refine am_raload_n rfl rfl rfl ?_
            refine am_rgetf (S1 := [.ref 10, .ref 17]) rfl rfl ?_
            refine am_rgetf (S1 := [.ref 11, .ref 17]) rfl rfl ?_
            refine am_raload_n rfl rfl rfl ?_
            refine am_rgetf (S1 := [.ref 10, .ref 11, .ref 17]) rfl rfl ?_
            have q150 := am_Ig1003 hI148
            refine am_rgetf (S1 := [am_iv (f146 1003), .ref 11, .ref 17]) rfl rfl ?_
            refine am_evirtualV (m := am_m5) (As := [.ref 17, .ref 11, am_iv (f146 1003)]) (S1 := []) rfl rfl rfl rfl rfl rfl rfl rfl rfl rfl (am_TE.void (am_ct5v (y2 := (f146 1003)) (by omega) hI148 (by omega) (by omega) (by omega)) (fun f151 a151 hq152 => ?_) (fun _ _ _ h => h))
            have hI153 := hq152
            exact am_eret rfl rfl hI153
          · refine am_riconst rfl ?_
            refine am_rgoto rfl rfl ?_
            refine am_evirtualV (m := am_m94) (As := [.ref 10, am_iv 1]) (S1 := []) rfl rfl rfl rfl rfl rfl rfl rfl rfl rfl (am_TE.void (am_ct94 (y1 := 1) (by omega) hI125 (by omega)) (fun f154 a154 hq155 => ?_) (fun _ _ _ h => h))
            have hI156 := hq155
            refine am_riload rfl rfl rfl ?_
            refine am_rif_eq rfl rfl (by unfold am_rg; omega) (fun hc157 => ?_) (fun hc157 => ?_)
            · exfalso; omega
            refine am_raload_n rfl rfl rfl ?_
            refine am_rgetf (S1 := [.ref 17]) rfl rfl ?_
            refine am_raload_n rfl rfl rfl ?_
            refine am_rgetf (S1 := [.ref 10, .ref 17]) rfl rfl ?_
            refine am_rgetf (S1 := [.ref 11, .ref 17]) rfl rfl ?_
            refine am_raload_n rfl rfl rfl ?_
            refine am_rgetf (S1 := [.ref 10, .ref 11, .ref 17]) rfl rfl ?_
            have q158 := am_Ig1003 hI156
            refine am_rgetf (S1 := [am_iv (f154 1003), .ref 11, .ref 17]) rfl rfl ?_
            refine am_evirtualV (m := am_m5) (As := [.ref 17, .ref 11, am_iv (f154 1003)]) (S1 := []) rfl rfl rfl rfl rfl rfl rfl rfl rfl rfl (am_TE.void (am_ct5v (y2 := (f154 1003)) (by omega) hI156 (by omega) (by omega) (by omega)) (fun f159 a159 hq160 => ?_) (fun _ _ _ h => h))
            have hI161 := hq160
            exact am_eret rfl rfl hI161
set_option maxRecDepth 100000 in
set_option maxHeartbeats 4000000 in
theorem am_ct37_25 {X : List Value} {w : Value} {e : Nat} {g : aF} {h : aA} {d : Nat} (hd : 6 ≤ d + 1) (n : Nat) :
    ∀ {f : aF} {a : aA} {x1 : Int} {x2 : Int} {x3 : Int}, (1000000 - x3).toNat < n → am_IV true g h f a → (-2147483648 ≤ x1 ∧ x1 ≤ 2147483647) → (-2147483648 ≤ x2 ∧ x2 ≤ 2147483647) → (-2147483648 ≤ x3 ∧ x3 ≤ 2147483647) → 0 ≤ x3 → am_TE X (d + 1) am_m37 25 [(0, .ref 12), (1, am_iv x1), (2, am_iv x2), (3, am_iv x3)] [] f a w e (am_QV (fun f1 a1 => am_IV true g h f1 a1)) (am_EC g h) := by
  induction n with
  | zero => intros; omega
  | succ n ih =>
    intro f a x1 x2 x3 hn hI hp0 hp1 hp2 hp3
    refine am_riload_n rfl rfl rfl ?_
    refine am_rldc (x := 1000000) rfl rfl (by decide) ?_
    refine am_ric_ge rfl rfl (by unfold am_rg; omega) (by unfold am_rg; omega) (fun hc1 => ?_) (fun hc1 => ?_)
    · refine am_raload_n rfl rfl rfl ?_
      refine am_evirtualV (m := am_m42) (As := [.ref 12]) (S1 := []) rfl rfl rfl rfl rfl rfl rfl rfl rfl rfl (am_TE.void (am_ct42  (by omega) hI) (fun f2 a2 hq3 => ?_) (fun _ _ _ h => h))
      have hI4 := hq3
      exact am_eret rfl rfl hI4
    · refine am_riload_n rfl rfl rfl ?_
      refine am_rif_eq rfl rfl (by unfold am_rg; omega) (fun hc5 => ?_) (fun hc5 => ?_)
      · refine am_raload_n rfl rfl rfl ?_
        refine am_evirtualV (m := am_m42) (As := [.ref 12]) (S1 := []) rfl rfl rfl rfl rfl rfl rfl rfl rfl rfl (am_TE.void (am_ct42  (by omega) hI) (fun f6 a6 hq7 => ?_) (fun _ _ _ h => h))
        have hI8 := hq7
        exact am_eret rfl rfl hI8
      · refine am_raload_n rfl rfl rfl ?_
        refine am_rgetf (S1 := [.ref 2]) rfl rfl ?_
        refine am_evirtualI (m := am_m72) (As := [.ref 2]) (S1 := []) rfl rfl rfl rfl rfl rfl rfl rfl rfl rfl (am_TE.int (am_ct72  (by omega) hI) (fun b9 f9 a9 hq10 => ?_) (fun _ _ _ h => h))
        obtain ⟨rfl, rfl, hq10⟩ := hq10
        refine am_rbipush rfl (by decide) ?_
        refine am_ric_eq rfl rfl (by unfold am_rg; omega) (by unfold am_rg; omega) (fun hc11 => ?_) (fun hc11 => ?_)
        · refine am_raload_n rfl rfl rfl ?_
          refine am_evirtualV (m := am_m42) (As := [.ref 12]) (S1 := []) rfl rfl rfl rfl rfl rfl rfl rfl rfl rfl (am_TE.void (am_ct42  (by omega) hI) (fun f12 a12 hq13 => ?_) (fun _ _ _ h => h))
          have hI14 := hq13
          exact am_eret rfl rfl hI14
        · refine am_raload_n rfl rfl rfl ?_
          refine am_riload_n rfl rfl rfl ?_
          refine am_evirtualV (m := am_m38) (As := [.ref 12, am_iv x1]) (S1 := []) rfl rfl rfl rfl rfl rfl rfl rfl rfl rfl (am_TE.void (am_ct38 (y1 := x1) (by omega) hI (by omega)) (fun f15 a15 hq16 => ?_) (fun _ _ _ h => h))
          have hI17 := hq16
          refine am_raload_n rfl rfl rfl ?_
          refine am_rgetf (S1 := [.ref 2]) rfl rfl ?_
          have q18 := am_Ig201 hI17
          refine am_evirtualI (m := am_m78) (As := [.ref 2]) (S1 := []) rfl rfl rfl rfl rfl rfl rfl rfl rfl rfl (am_TE.int (am_ct78  (by omega) hI17) (fun b19 f19 a19 hq20 => ?_) (fun _ _ _ h => h))
          obtain ⟨hI21, hq20⟩ := hq20
          refine am_ristore_n (L1 := [(0, .ref 12), (1, am_iv x1), (2, am_iv b19), (3, am_iv x3)]) rfl rfl rfl rfl rfl ?_
          refine am_riinc (L1 := [(0, .ref 12), (1, am_iv x1), (2, am_iv b19), (3, am_iv (x3 + 1))]) rfl rfl rfl rfl rfl ?_
          refine am_rgoto rfl rfl ?_
          exact ih (by omega) hI21 (by omega) (by omega) (by omega) (by omega)
set_option maxRecDepth 100000 in
set_option maxHeartbeats 4000000 in
theorem am_ct37 {X : List Value} {w : Value} {e : Nat} {g : aF} {h : aA} {d : Nat} {f : aF} {a : aA} (hd : 6 ≤ d) (hI : am_IV true g h f a) :
    am_TE X d am_m37 0 (lv_args 0 [.ref 12]) [] f a w e (am_QV (fun f1 a1 => am_IV true g h f1 a1)) (am_EC g h) := by
  obtain ⟨d, rfl⟩ : ∃ d0, d = d0 + 1 := ⟨d - 1, by omega⟩
  refine am_raload_n rfl rfl rfl ?_
  refine am_rgetf (S1 := [.ref 2]) rfl rfl ?_
  have q1 := am_Ig201 hI
  refine am_evirtualV (m := am_m79) (As := [.ref 2]) (S1 := []) rfl rfl rfl rfl rfl rfl rfl rfl rfl rfl (am_TE.void (am_ct79  (by omega) hI) (fun f2 a2 hq3 => ?_) (fun _ _ _ h => h))
  obtain ⟨hI4, hq3⟩ := hq3
  refine am_raload_n rfl rfl rfl ?_
  refine am_rgetf (S1 := [.ref 2]) rfl rfl ?_
  have q5 := am_Ig201 hI4
  refine am_evirtualI (m := am_m75) (As := [.ref 2]) (S1 := []) rfl rfl rfl rfl rfl rfl rfl rfl rfl rfl (am_TE.int (am_ct75  (by omega) hI4) (fun b6 f6 a6 hq7 => ?_) (fun _ _ _ h => h))
  obtain ⟨hI8, hq7⟩ := hq7
  refine am_ristore_n (L1 := [(0, .ref 12), (1, am_iv b6)]) rfl rfl rfl rfl rfl ?_
  refine am_raload_n rfl rfl rfl ?_
  refine am_rgetf (S1 := [.ref 2]) rfl rfl ?_
  have q9 := am_Ig201 hI8
  refine am_evirtualI (m := am_m78) (As := [.ref 2]) (S1 := []) rfl rfl rfl rfl rfl rfl rfl rfl rfl rfl (am_TE.int (am_ct78  (by omega) hI8) (fun b10 f10 a10 hq11 => ?_) (fun _ _ _ h => h))
  obtain ⟨hI12, hq11⟩ := hq11
  refine am_ristore_n (L1 := [(0, .ref 12), (1, am_iv b6), (2, am_iv b10)]) rfl rfl rfl rfl rfl ?_
  refine am_riconst rfl ?_
  refine am_ristore_n (L1 := [(0, .ref 12), (1, am_iv b6), (2, am_iv b10), (3, am_iv 0)]) rfl rfl rfl rfl rfl ?_
  exact am_ct37_25 hd (_ + 1) (Nat.lt_succ_self _) hI12 (by omega) (by omega) (by omega) (by omega)
set_option maxRecDepth 100000 in
set_option maxHeartbeats 4000000 in
theorem am_ct34 {X : List Value} {w : Value} {e : Nat} {g : aF} {h : aA} {p : Bool} {d : Nat} {f : aF} {a : aA} (hd : 2 ≤ d) (hI : am_IV p g h f a) :
    am_TE X d am_m34 0 (lv_args 0 [.ref 12]) [] f a w e (am_QV (fun f1 a1 => am_IV p g h f1 a1)) (am_EC g h) := by
  obtain ⟨d, rfl⟩ : ∃ d0, d = d0 + 1 := ⟨d - 1, by omega⟩
  refine am_raload_n rfl rfl rfl ?_
  refine am_rgetf (S1 := [.ref 2]) rfl rfl ?_
  refine am_rldcs rfl rfl rfl ?_
  refine am_evirtualI (m := am_m76) (As := [.ref 2, .ref (1000000 + 5)]) (S1 := []) rfl rfl rfl rfl rfl rfl rfl rfl rfl rfl (am_TE.int (am_ct76  (by omega) hI (by decide)) (fun b1 f1 a1 hq2 => ?_) (fun _ _ _ h => h))
  have q3 := am_Ig202 hI
  have q4 := am_Ig203 hI
  obtain ⟨rfl, rfl, hq2⟩ := hq2
  refine am_rif_ne rfl rfl (by unfold am_rg; omega) (fun hc5 => ?_) (fun hc5 => ?_)
  · exact am_ethrow rfl rfl rfl rfl ⟨by decide, hI.weak⟩
  · refine am_raload_n rfl rfl rfl ?_
    refine am_rgetf (S1 := [.ref 2]) rfl rfl ?_
    refine am_rldcs rfl rfl rfl ?_
    refine am_evirtualI (m := am_m76) (As := [.ref 2, .ref (1000000 + 6)]) (S1 := []) rfl rfl rfl rfl rfl rfl rfl rfl rfl rfl (am_TE.int (am_ct76  (by omega) hI (by decide)) (fun b6 f6 a6 hq7 => ?_) (fun _ _ _ h => h))
    obtain ⟨rfl, rfl, hq7⟩ := hq7
    refine am_rif_eq rfl rfl (by unfold am_rg; omega) (fun hc8 => ?_) (fun hc8 => ?_)
    · exact am_eret rfl rfl hI
    · exact am_ethrow rfl rfl rfl rfl ⟨by decide, hI.weak⟩
set_option maxRecDepth 100000 in
set_option maxHeartbeats 4000000 in
theorem am_ct36_65 {X : List Value} {w : Value} {e : Nat} {g : aF} {h : aA} {p : Bool} {d : Nat} (hd : 4 ≤ d + 1) (n : Nat) :
    ∀ {f : aF} {a : aA} {x1 : Int} {x2 : Int} {x3 : Int}, (1000000 - x3).toNat < n → am_IV p g h f a → (-2147483648 ≤ x1 ∧ x1 ≤ 2147483647) → (-2147483648 ≤ x2 ∧ x2 ≤ 2147483647) → (-2147483648 ≤ x3 ∧ x3 ≤ 2147483647) → 0 ≤ x3 → 97 ≤ x1 → x1 ≤ 122 → 0 ≤ x2 → x2 ≤ f 201 → am_TE X (d + 1) am_m36 65 [(0, .ref 12), (1, am_iv x1), (2, am_iv x2), (3, am_iv x3)] [] f a w e (am_QV (fun f1 a1 => am_IV p g h f1 a1)) (am_EC g h) := by
  induction n with
  | zero => intros; omega
  | succ n ih =>
    intro f a x1 x2 x3 hn hI hp0 hp1 hp2 hp3 hp4 hp5 hp6 hp7
    have q1 := am_Ig201 hI
    refine am_riload_n rfl rfl rfl ?_
    refine am_rldc (x := 1000000) rfl rfl (by decide) ?_
    refine am_ric_ge rfl rfl (by unfold am_rg; omega) (by unfold am_rg; omega) (fun hc2 => ?_) (fun hc2 => ?_)
    · refine am_raload_n rfl rfl rfl ?_
      refine am_rgetf (S1 := [.ref 4]) rfl rfl ?_
      refine am_riload_n rfl rfl rfl ?_
      refine am_riload_n rfl rfl rfl ?_
      refine am_evirtualV (m := am_m60) (As := [.ref 4, am_iv x1, am_iv x2]) (S1 := []) rfl rfl rfl rfl rfl rfl rfl rfl rfl rfl (am_TE.void (am_ct60 (y1 := x1) (y2 := x2) (by omega) hI (by omega) (by omega) (by omega) (by omega) (by omega) (by omega)) (fun f3 a3 hq4 => ?_) (fun _ _ _ h => h))
      have hI5 := hq4
      refine am_raload_n rfl rfl rfl ?_
      refine am_evirtualV (m := am_m42) (As := [.ref 12]) (S1 := []) rfl rfl rfl rfl rfl rfl rfl rfl rfl rfl (am_TE.void (am_ct42  (by omega) hI5) (fun f6 a6 hq7 => ?_) (fun _ _ _ h => h))
      have hI8 := hq7
      exact am_eret rfl rfl hI8
    · refine am_raload_n rfl rfl rfl ?_
      refine am_rgetf (S1 := [.ref 2]) rfl rfl ?_
      refine am_rldcs rfl rfl rfl ?_
      refine am_evirtualI (m := am_m77) (As := [.ref 2, .ref (1000000 + 29)]) (S1 := []) rfl rfl rfl rfl rfl rfl rfl rfl rfl rfl (am_TE.int (am_ct77  (by omega) hI (by decide)) (fun b9 f9 a9 hq10 => ?_) (fun _ _ _ h => h))
      obtain ⟨hI11, hq10⟩ := hq10
      refine am_rif_ne rfl rfl (by unfold am_rg; omega) (fun hc12 => ?_) (fun hc12 => ?_)
      · refine am_raload_n rfl rfl rfl ?_
        refine am_rgetf (S1 := [.ref 4]) rfl rfl ?_
        refine am_riload_n rfl rfl rfl ?_
        refine am_riload_n rfl rfl rfl ?_
        refine am_evirtualV (m := am_m60) (As := [.ref 4, am_iv x1, am_iv x2]) (S1 := []) rfl rfl rfl rfl rfl rfl rfl rfl rfl rfl (am_TE.void (am_ct60 (y1 := x1) (y2 := x2) (by omega) hI11 (by omega) (by omega) (by omega) (by omega) (by omega) (by omega)) (fun f13 a13 hq14 => ?_) (fun _ _ _ h => h))
        have hI15 := hq14
        refine am_raload_n rfl rfl rfl ?_
        refine am_evirtualV (m := am_m42) (As := [.ref 12]) (S1 := []) rfl rfl rfl rfl rfl rfl rfl rfl rfl rfl (am_TE.void (am_ct42  (by omega) hI15) (fun f16 a16 hq17 => ?_) (fun _ _ _ h => h))
        have hI18 := hq17
        exact am_eret rfl rfl hI18
      · refine am_raload_n rfl rfl rfl ?_
        refine am_rgetf (S1 := [.ref 2]) rfl rfl ?_
        refine am_raload_n rfl rfl rfl ?_
        refine am_rgetf (S1 := [.ref 2, .ref 2]) rfl rfl ?_
        refine am_rldcs rfl rfl rfl ?_
        have q19 := am_Ig201 hI11
        refine am_evirtualI (m := am_m77) (As := [.ref 2, .ref (1000000 + 30)]) (S1 := [.ref 2]) rfl rfl rfl rfl rfl rfl rfl rfl rfl rfl (am_TE.int (am_ct77  (by omega) hI11 (by decide)) (fun b20 f20 a20 hq21 => ?_) (fun _ _ _ h => h))
        obtain ⟨hI22, hq21⟩ := hq21
        refine am_rif_eq rfl rfl (by unfold am_rg; omega) (fun hc23 => ?_) (fun hc23 => ?_)
        · refine am_raload_n rfl rfl rfl ?_
          refine am_rgetf (S1 := [.ref 2, .ref 2]) rfl rfl ?_
          have q24 := am_Ig201 hI22
          refine am_evirtualI (m := am_m73) (As := [.ref 2]) (S1 := [.ref 2]) rfl rfl rfl rfl rfl rfl rfl rfl rfl rfl (am_TE.int (am_ct73  (by omega) hI22) (fun b25 f25 a25 hq26 => ?_) (fun _ _ _ h => h))
          obtain ⟨hI27, hq26⟩ := hq26
          have q28 := am_Ig201 hI27
          refine am_evirtualV (m := am_m71) (As := [.ref 2, am_iv b25]) (S1 := []) rfl rfl rfl rfl rfl rfl rfl rfl rfl rfl (am_TE.void (am_ct71 (y1 := b25) (by omega) hI27 (by omega)) (fun f29 a29 hq30 => ?_) (fun _ _ _ h => h))
          obtain ⟨hI31, hq30⟩ := hq30
          refine am_riinc (L1 := [(0, .ref 12), (1, am_iv x1), (2, am_iv x2), (3, am_iv (x3 + 1))]) rfl rfl rfl rfl rfl ?_
          refine am_rgoto rfl rfl ?_
          have q32 := am_Ig201 hI31
          exact ih (by omega) hI31 (by omega) (by omega) (by omega) (by omega) (by omega) (by omega) (by omega) (by omega)
        · refine am_raload_n rfl rfl rfl ?_
          refine am_rgetf (S1 := [.ref 2, .ref 2]) rfl rfl ?_
          have q33 := am_Ig201 hI22
          refine am_evirtualI (m := am_m84) (As := [.ref 2]) (S1 := [.ref 2]) rfl rfl rfl rfl rfl rfl rfl rfl rfl rfl (am_TE.int (am_ct84  (by omega) hI22) (fun b34 f34 a34 hq35 => ?_) (fun _ _ _ h => h))
          obtain ⟨hI36, hq35⟩ := hq35
          refine am_rgoto rfl rfl ?_
          have q37 := am_Ig201 hI36
          refine am_evirtualV (m := am_m71) (As := [.ref 2, am_iv b34]) (S1 := []) rfl rfl rfl rfl rfl rfl rfl rfl rfl rfl (am_TE.void (am_ct71 (y1 := b34) (by omega) hI36 (by omega)) (fun f38 a38 hq39 => ?_) (fun _ _ _ h => h))
          obtain ⟨hI40, hq39⟩ := hq39
          refine am_riinc (L1 := [(0, .ref 12), (1, am_iv x1), (2, am_iv x2), (3, am_iv (x3 + 1))]) rfl rfl rfl rfl rfl ?_
          refine am_rgoto rfl rfl ?_
          have q41 := am_Ig201 hI40
          exact ih (by omega) hI40 (by omega) (by omega) (by omega) (by omega) (by omega) (by omega) (by omega) (by omega)
set_option maxRecDepth 100000 in
set_option maxHeartbeats 4000000 in
theorem am_ct36 {X : List Value} {w : Value} {e : Nat} {g : aF} {h : aA} {p : Bool} {d : Nat} {f : aF} {a : aA} (hd : 4 ≤ d) (hI : am_IV p g h f a) :
    am_TE X d am_m36 0 (lv_args 0 [.ref 12]) [] f a w e (am_QV (fun f1 a1 => am_IV p g h f1 a1)) (am_EC g h) := by
  obtain ⟨d, rfl⟩ : ∃ d0, d = d0 + 1 := ⟨d - 1, by omega⟩
  refine am_raload_n rfl rfl rfl ?_
  refine am_rgetf (S1 := [.ref 2]) rfl rfl ?_
  have q1 := am_Ig201 hI
  refine am_evirtualV (m := am_m79) (As := [.ref 2]) (S1 := []) rfl rfl rfl rfl rfl rfl rfl rfl rfl rfl (am_TE.void (am_ct79  (by omega) hI) (fun f2 a2 hq3 => ?_) (fun _ _ _ h => h))
  obtain ⟨hI4, hq3⟩ := hq3
  refine am_raload_n rfl rfl rfl ?_
  refine am_rgetf (S1 := [.ref 2]) rfl rfl ?_
  refine am_evirtualI (m := am_m72) (As := [.ref 2]) (S1 := []) rfl rfl rfl rfl rfl rfl rfl rfl rfl rfl (am_TE.int (am_ct72  (by omega) hI4) (fun b5 f5 a5 hq6 => ?_) (fun _ _ _ h => h))
  obtain ⟨rfl, rfl, hq6⟩ := hq6
  refine am_rbipush rfl (by decide) ?_
  refine am_ric_ne rfl rfl (by unfold am_rg; omega) (by unfold am_rg; omega) (fun hc7 => ?_) (fun hc7 => ?_)
  · refine am_raload_n rfl rfl rfl ?_
    refine am_rgetf (S1 := [.ref 2]) rfl rfl ?_
    have q8 := am_Ig201 hI4
    refine am_evirtualI (m := am_m75) (As := [.ref 2]) (S1 := []) rfl rfl rfl rfl rfl rfl rfl rfl rfl rfl (am_TE.int (am_ct75  (by omega) hI4) (fun b9 f9 a9 hq10 => ?_) (fun _ _ _ h => h))
    obtain ⟨hI11, hq10⟩ := hq10
    refine am_ristore_n (L1 := [(0, .ref 12), (1, am_iv b9)]) rfl rfl rfl rfl rfl ?_
    refine am_raload_n rfl rfl rfl ?_
    refine am_rgetf (S1 := [.ref 2]) rfl rfl ?_
    have q12 := am_Ig201 hI11
    refine am_evirtualV (m := am_m79) (As := [.ref 2]) (S1 := []) rfl rfl rfl rfl rfl rfl rfl rfl rfl rfl (am_TE.void (am_ct79  (by omega) hI11) (fun f13 a13 hq14 => ?_) (fun _ _ _ h => h))
    obtain ⟨hI15, hq14⟩ := hq14
    refine am_raload_n rfl rfl rfl ?_
    refine am_evirtualV (m := am_m34) (As := [.ref 12]) (S1 := []) rfl rfl rfl rfl rfl rfl rfl rfl rfl rfl (am_TE.void (am_ct34  (by omega) hI15) (fun f16 a16 hq17 => ?_) (fun _ _ _ h => h))
    have hI18 := hq17
    refine am_raload_n rfl rfl rfl ?_
    refine am_rgetf (S1 := [.ref 2]) rfl rfl ?_
    have q19 := am_Ig201 hI18
    refine am_rgetf (S1 := [am_iv (f16 201)]) rfl rfl ?_
    refine am_ristore_n (L1 := [(0, .ref 12), (1, am_iv b9), (2, am_iv (f16 201))]) rfl rfl rfl rfl rfl ?_
    refine am_raload_n rfl rfl rfl ?_
    refine am_rgetf (S1 := [.ref 2]) rfl rfl ?_
    refine am_rbipush rfl (by decide) ?_
    refine am_evirtualV (m := am_m74) (As := [.ref 2, am_iv 34]) (S1 := []) rfl rfl rfl rfl rfl rfl rfl rfl rfl rfl (am_TE.void (am_ct74 (y1 := 34) (by omega) hI18 (by omega)) (fun f20 a20 hq21 => ?_) (fun _ _ _ h => h))
    obtain ⟨hI22, hq21⟩ := hq21
    refine am_riconst rfl ?_
    refine am_ristore_n (L1 := [(0, .ref 12), (1, am_iv b9), (2, am_iv (f16 201)), (3, am_iv 0)]) rfl rfl rfl rfl rfl ?_
    have q23 := am_Ig201 hI22
    exact am_ct36_65 hd (_ + 1) (Nat.lt_succ_self _) hI22 (by omega) (by omega) (by omega) (by omega) (by omega) (by omega) (by omega) (by omega)
  · exact am_ethrow rfl rfl rfl rfl ⟨by decide, hI4.weak⟩
set_option maxRecDepth 100000 in
set_option maxHeartbeats 4000000 in
theorem am_ct33 {X : List Value} {w : Value} {e : Nat} {g : aF} {h : aA} {p : Bool} {d : Nat} {f : aF} {a : aA} (hd : 4 ≤ d) (hI : am_IV p g h f a) :
    am_TE X d am_m33 0 (lv_args 0 [.ref 12]) [] f a w e (am_QI (fun b f1 a1 => am_IV p g h f1 a1 ∧ (b = 0 ∨ b = 1))) (am_EC g h) := by
  obtain ⟨d, rfl⟩ : ∃ d0, d = d0 + 1 := ⟨d - 1, by omega⟩
  refine am_raload_n rfl rfl rfl ?_
  refine am_rgetf (S1 := [.ref 2]) rfl rfl ?_
  have q1 := am_Ig201 hI
  refine am_evirtualV (m := am_m79) (As := [.ref 2]) (S1 := []) rfl rfl rfl rfl rfl rfl rfl rfl rfl rfl (am_TE.void (am_ct79  (by omega) hI) (fun f2 a2 hq3 => ?_) (fun _ _ _ h => h))
  obtain ⟨hI4, hq3⟩ := hq3
  refine am_raload_n rfl rfl rfl ?_
  refine am_raload_n rfl rfl rfl ?_
  refine am_rgetf (S1 := [.ref 2, .ref 12]) rfl rfl ?_
  have q5 := am_Ig201 hI4
  refine am_evirtualI (m := am_m75) (As := [.ref 2]) (S1 := [.ref 12]) rfl rfl rfl rfl rfl rfl rfl rfl rfl rfl (am_TE.int (am_ct75  (by omega) hI4) (fun b6 f6 a6 hq7 => ?_) (fun _ _ _ h => h))
  obtain ⟨hI8, hq7⟩ := hq7
  refine am_rputf (S1 := []) (h1 := am_enc (am_ud f6 1207 b6) a6 w e) rfl (am_pfB rfl am_ge12 rfl (am_sf1207 _)) (by rw [am_enc_len, am_enc_len]) ?_
  refine am_raload_n rfl rfl rfl ?_
  refine am_rgetf (S1 := [.ref 2]) rfl rfl ?_
  have J9 := am_If1207 (v := b6) hI8 (by omega) (by omega)
  have q10 := am_Ig201 hI8
  refine am_evirtualI (m := am_m78) (As := [.ref 2]) (S1 := []) rfl rfl rfl rfl rfl rfl rfl rfl rfl rfl (am_TE.int (am_ct78  (by omega) J9) (fun b11 f11 a11 hq12 => ?_) (fun _ _ _ h => h))
  obtain ⟨hI13, hq12⟩ := hq12
  refine am_rpop rfl rfl ?_
  refine am_raload_n rfl rfl rfl ?_
  refine am_evirtualV (m := am_m34) (As := [.ref 12]) (S1 := []) rfl rfl rfl rfl rfl rfl rfl rfl rfl rfl (am_TE.void (am_ct34  (by omega) hI13) (fun f14 a14 hq15 => ?_) (fun _ _ _ h => h))
  have hI16 := hq15
  refine am_raload_n rfl rfl rfl ?_
  refine am_rgetf (S1 := [.ref 2]) rfl rfl ?_
  refine am_rldcs rfl rfl rfl ?_
  have q17 := am_Ig201 hI16
  refine am_evirtualI (m := am_m77) (As := [.ref 2, .ref (1000000 + 7)]) (S1 := []) rfl rfl rfl rfl rfl rfl rfl rfl rfl rfl (am_TE.int (am_ct77  (by omega) hI16 (by decide)) (fun b18 f18 a18 hq19 => ?_) (fun _ _ _ h => h))
  obtain ⟨hI20, hq19⟩ := hq19
  exact am_ebret rfl rfl (by omega) ⟨hI20, (show (b18 = 0 ∨ b18 = 1) by omega)⟩
set_option maxRecDepth 100000 in
set_option maxHeartbeats 4000000 in
theorem am_ct32_19 {X : List Value} {w : Value} {e : Nat} {g : aF} {h : aA} {p : Bool} {d : Nat} (hd : 2 ≤ d + 1) (n : Nat) :
    ∀ {f : aF} {a : aA} {x1 : Int}, (26 - x1).toNat < n → am_IV p g h f a → (-2147483648 ≤ x1 ∧ x1 ≤ 2147483647) → 0 ≤ x1 → am_TE X (d + 1) am_m32 19 [(0, .ref 12), (1, am_iv x1)] [] f a w e (am_QV (fun f1 a1 => am_IV p g h f1 a1)) (am_EC g h) := by
  induction n with
  | zero => intros; omega
  | succ n ih =>
    intro f a x1 hn hI hp0 hp1
    refine am_riload_n rfl rfl rfl ?_
    refine am_rbipush rfl (by decide) ?_
    refine am_ric_ge rfl rfl (by unfold am_rg; omega) (by unfold am_rg; omega) (fun hc1 => ?_) (fun hc1 => ?_)
    · exact am_eret rfl rfl hI
    · refine am_raload_n rfl rfl rfl ?_
      refine am_rgetf (S1 := [.ref 13]) rfl rfl ?_
      refine am_riload_n rfl rfl rfl ?_
      have hx3 : 0 ≤ x1 ∧ x1 < 26 := by omega
      have hM2 := am_isMx hx3.1 hx3.2
      refine am_raaload rfl (am_mods hx3.1 hx3.2) ?_
      refine am_riconst rfl ?_
      refine am_evirtualV (m := am_m44) (As := [.ref (28 + 3 * (x1).toNat), am_iv 0]) (S1 := []) rfl rfl rfl rfl rfl rfl rfl rfl (am_rcM hM2 rfl) rfl (am_TE.void (am_ct44 (c := (28 + 3 * (x1).toNat)) (y1 := 0) (by omega) hI hM2 (by omega)) (fun f4 a4 hq5 => ?_) (fun _ _ _ h => h))
      have hI6 := hq5
      refine am_riinc (L1 := [(0, .ref 12), (1, am_iv (x1 + 1))]) rfl rfl rfl rfl rfl ?_
      refine am_rgoto rfl rfl ?_
      exact ih (by omega) hI6 (by omega) (by omega)
set_option maxRecDepth 100000 in
set_option maxHeartbeats 4000000 in
theorem am_ct32 {X : List Value} {w : Value} {e : Nat} {g : aF} {h : aA} {p : Bool} {d : Nat} {f : aF} {a : aA} (hd : 2 ≤ d) (hI : am_IV p g h f a) :
    am_TE X d am_m32 0 (lv_args 0 [.ref 12]) [] f a w e (am_QV (fun f1 a1 => am_IV p g h f1 a1)) (am_EC g h) := by
  obtain ⟨d, rfl⟩ : ∃ d0, d = d0 + 1 := ⟨d - 1, by omega⟩
  refine am_raload_n rfl rfl rfl ?_
  refine am_riconst rfl ?_
  refine am_rputf (S1 := []) (h1 := am_enc (am_ud f 1207 ((-1))) a w e) rfl (am_pfB rfl am_ge12 rfl (am_sf1207 _)) (by rw [am_enc_len, am_enc_len]) ?_
  refine am_raload_n rfl rfl rfl ?_
  refine am_riconst rfl ?_
  refine am_rputf (S1 := []) (h1 := am_enc (am_ud (am_ud f 1207 ((-1))) 1208 0) a w e) rfl (am_pfB rfl am_ge12 rfl (am_sf1208 _)) (by rw [am_enc_len, am_enc_len]) ?_
  refine am_raload_n rfl rfl rfl ?_
  refine am_rgetf (S1 := [.ref 17]) rfl rfl ?_
  have J1 := am_If1207 (v := (-1)) hI (by omega) (by omega)
  have J2 := am_If1208 (v := 0) J1 (by omega) (by omega)
  refine am_evirtualV (m := am_m1) (As := [.ref 17]) (S1 := []) rfl rfl rfl rfl rfl rfl rfl rfl rfl rfl (am_TE.void (am_ct1  (by omega) J2) (fun f3 a3 hq4 => ?_) (fun _ _ _ h => h))
  have hI5 := hq4
  refine am_riconst rfl ?_
  refine am_ristore_n (L1 := [(0, .ref 12), (1, am_iv 0)]) rfl rfl rfl rfl rfl ?_
  exact am_ct32_19 hd (_ + 1) (Nat.lt_succ_self _) hI5 (by omega) (by omega)
