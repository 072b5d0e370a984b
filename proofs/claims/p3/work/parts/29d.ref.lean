set_option maxRecDepth 100000 in
set_option maxHeartbeats 4000000 in
theorem am_ct150 {X : List Value} {w : Value} {e : Nat} {g : aF} {h : aA} {E : Nat → aF → aA → Prop} {d : Nat} {y1 : Int} {f : aF} {a : aA} (hd : 1 ≤ d) (hI : am_RV g h f a) (hp0 : (-2147483648 ≤ y1 ∧ y1 ≤ 2147483647)) (hp1 : 0 ≤ y1) (hp2 : y1 ≤ 8) :
    am_TE X d am_m149 0 (lv_args 0 [.ref 117, am_iv y1]) [] f a w e (am_QV (fun f1 a1 => am_RV g h f1 a1 ∧ am_mn f a f1 a1 ∧ f1 11713 = (f 11713) ∧ f1 11709 = (f 11709) ∧ f1 11718 = (f 11718) ∧ f1 11741 = (f 11741) ∧ f1 11750 = (f 11750) ∧ f1 11753 = (f 11753) ∧ f1 11757 = (f 11757) ∧ f1 11763 = (f 11763) ∧ f1 11701 = (f 11701))) E := by
  obtain ⟨d, rfl⟩ : ∃ d0, d = d0 + 1 := ⟨d - 1, by omega⟩
  have q1 := am_RV_ph hI
  have q2 := am_RV_p0 hI
  refine am_raload_n rfl rfl rfl ?_
  refine am_rgetf (S1 := [.ref 140]) rfl rfl ?_
  refine am_riload_n rfl rfl rfl ?_
  refine am_riconst rfl ?_
  have q3 : (a 140).length = 9 := am_Rl140 (am_RL 140 rfl hI.1.1)
  have i4 : am_ib (a 140) y1 := by unfold am_ib; omega
  have hl5 : am_LR 140 ((a 140).set y1.toNat 0) := am_RS140 (am_RL 140 rfl hI.1.1) (by omega) (by omega)
  refine am_riastore (l := a 140) (h1 := am_enc f (am_ud a 140 ((a 140).set y1.toNat 0)) w e) rfl am_ge140 i4 (am_sa140 _) ?_
  refine am_raload_n rfl rfl rfl ?_
  refine am_rgetf (S1 := [.ref 144]) rfl rfl ?_
  refine am_riload_n rfl rfl rfl ?_
  refine am_riconst rfl ?_
  have q6 : (a 144).length = 9 := am_Rl144 (am_RL 144 rfl hI.1.1)
  have i7 : am_ib (a 144) y1 := by unfold am_ib; omega
  have hl8 : am_LR 144 ((a 144).set y1.toNat 0) := am_RS144 (am_RL 144 rfl hI.1.1) (by omega) (by omega)
  refine am_rbastore (l := a 144) (h1 := am_enc f (am_ud (am_ud a 140 ((a 140).set y1.toNat 0)) 144 ((a 144).set y1.toNat 0)) w e) rfl am_ge144 i7 (by omega) (am_sa144 _) ?_
  have q9 := am_Rg11701 hI.1.1
  have J10 := am_Ra140 hI hl5
  have J11 := am_Ra144 J10 hl8
  have m12 : am_mn f a f (am_ud a 140 ((a 140).set y1.toNat 0)) := am_mn_a rfl rfl (am_mn.refl f a)
  have m13 : am_mn f a f (am_ud (am_ud a 140 ((a 140).set y1.toNat 0)) 144 ((a 144).set y1.toNat 0)) := am_mn_a rfl rfl m12
  have q14 := am_Rg11713 hI.1.1
  have q15 := am_Rg11709 hI.1.1
  have q16 := am_Rg11718 hI.1.1
  have q17 := am_Rg11741 hI.1.1
  have q18 := am_Rg11750 hI.1.1
  have q19 := am_Rg11753 hI.1.1
  have q20 := am_Rg11757 hI.1.1
  have q21 := am_Rg11763 hI.1.1
  exact am_eret rfl rfl ⟨J11, m13, (show f 11713 = (f 11713) by omega), (show f 11709 = (f 11709) by omega), (show f 11718 = (f 11718) by omega), (show f 11741 = (f 11741) by omega), (show f 11750 = (f 11750) by omega), (show f 11753 = (f 11753) by omega), (show f 11757 = (f 11757) by omega), (show f 11763 = (f 11763) by omega), (show f 11701 = (f 11701) by omega)⟩
set_option maxRecDepth 100000 in
set_option maxHeartbeats 4000000 in
theorem am_ct151 {X : List Value} {w : Value} {e : Nat} {g : aF} {h : aA} {E : Nat → aF → aA → Prop} {d : Nat} {y1 : Int} {f : aF} {a : aA} (hd : 2 ≤ d) (hI : am_RV g h f a) (hp0 : (-2147483648 ≤ y1 ∧ y1 ≤ 2147483647)) :
    am_TE X d am_m150 0 (lv_args 0 [.ref 117, am_iv y1]) [] f a w e (am_QV (fun f1 a1 => am_RV g h f1 a1 ∧ am_mn f a f1 a1 ∧ f1 11713 = (f 11713) ∧ f1 11709 = (f 11709) ∧ f1 11718 = (f 11718) ∧ f1 11741 = (f 11741) ∧ f1 11750 = (f 11750) ∧ f1 11753 = (f 11753) ∧ f1 11757 = (f 11757) ∧ f1 11763 = (f 11763))) E := by
  obtain ⟨d, rfl⟩ : ∃ d0, d = d0 + 1 := ⟨d - 1, by omega⟩
  have q1 := am_RV_ph hI
  have q2 := am_RV_p0 hI
  refine am_raload_n rfl rfl rfl ?_
  refine am_rgetf (S1 := [.ref 136]) rfl rfl ?_
  refine am_rbipush rfl (by decide) ?_
  have q3 : (a 136).length = 27 := am_Rl136 (am_RL 136 rfl hI.1.1)
  have i4 : am_ib (a 136) 26 := by unfold am_ib; omega
  have q5 := am_Rb136 (am_RL 136 rfl hI.1.1) i4
  refine am_riaload (l := a 136) rfl am_ge136 i4 ?_
  refine am_ristore_n (L1 := [(0, .ref 117), (1, am_iv y1), (2, am_iv (am_at (a 136) 26))]) rfl rfl rfl rfl rfl ?_
  refine am_riload_n rfl rfl rfl ?_
  refine am_rbipush rfl (by decide) ?_
  refine am_ric_ne rfl rfl (by unfold am_rg; omega) (by unfold am_rg; omega) (fun hc6 => ?_) (fun hc6 => ?_)
  · refine am_raload_n rfl rfl rfl ?_
    refine am_rgetf (S1 := [.ref 134]) rfl rfl ?_
    refine am_rsipush rfl (by decide) ?_
    refine am_riload_n rfl rfl rfl ?_
    refine am_riadd rfl ?_
    refine am_riload_n rfl rfl rfl ?_
    have q7 : (a 134).length = 810 := am_Rl134 (am_RL 134 rfl hI.1.1)
    have i8 : am_ib (a 134) (780 + (am_at (a 136) 26)) := by unfold am_ib; omega
    have hl9 : am_LR 134 ((a 134).set (780 + (am_at (a 136) 26)).toNat y1) := am_RS134 (am_RL 134 rfl hI.1.1) (by omega) (by omega)
    refine am_riastore (l := a 134) (h1 := am_enc f (am_ud a 134 ((a 134).set (780 + (am_at (a 136) 26)).toNat y1)) w e) rfl am_ge134 i8 (am_sa134 _) ?_
    refine am_raload_n rfl rfl rfl ?_
    refine am_riconst rfl ?_
    refine am_riload_n rfl rfl rfl ?_
    have q10 := am_shl_rg 1 (am_at (a 136) 26)
    refine am_rishl rfl ?_
    refine am_rputf (S1 := []) (h1 := am_enc (am_ud f 11738 (am_shl 1 (am_at (a 136) 26))) (am_ud a 134 ((a 134).set (780 + (am_at (a 136) 26)).toNat y1)) w e) rfl (am_pfB rfl am_ge117 rfl (am_sf11738 _)) (by rw [am_enc_len, am_enc_len]) ?_
    refine am_raload_n rfl rfl rfl ?_
    refine am_riconst rfl ?_
    refine am_riload_n rfl rfl rfl ?_
    refine am_rishl rfl ?_
    refine am_rputf (S1 := []) (h1 := am_enc (am_ud (am_ud f 11738 (am_shl 1 (am_at (a 136) 26))) 11739 (am_shl 1 (am_at (a 136) 26))) (am_ud a 134 ((a 134).set (780 + (am_at (a 136) 26)).toNat y1)) w e) rfl (am_pfB rfl am_ge117 rfl (am_sf11739 _)) (by rw [am_enc_len, am_enc_len]) ?_
    refine am_raload_n rfl rfl rfl ?_
    refine am_riconst rfl ?_
    refine am_rputf (S1 := []) (h1 := am_enc (am_ud (am_ud (am_ud f 11738 (am_shl 1 (am_at (a 136) 26))) 11739 (am_shl 1 (am_at (a 136) 26))) 11740 0) (am_ud a 134 ((a 134).set (780 + (am_at (a 136) 26)).toNat y1)) w e) rfl (am_pfB rfl am_ge117 rfl (am_sf11740 _)) (by rw [am_enc_len, am_enc_len]) ?_
    refine am_raload_n rfl rfl rfl ?_
    refine am_rgetf (S1 := [.ref 136]) rfl rfl ?_
    refine am_rbipush rfl (by decide) ?_
    refine am_rdup2 rfl rfl rfl ?_
    have i11 : am_ib (a 136) 26 := by unfold am_ib; omega
    refine am_riaload (l := a 136) rfl am_ge136 i11 ?_
    refine am_riconst rfl ?_
    refine am_riadd rfl ?_
    have i12 : am_ib (a 136) 26 := by unfold am_ib; omega
    have hl13 : am_LR 136 ((a 136).set (26 : Int).toNat ((am_at (a 136) 26) + 1)) := am_RS136 (am_RL 136 rfl hI.1.1) (by omega) (by omega)
    refine am_riastore (l := a 136) (h1 := am_enc (am_ud (am_ud (am_ud f 11738 (am_shl 1 (am_at (a 136) 26))) 11739 (am_shl 1 (am_at (a 136) 26))) 11740 0) (am_ud (am_ud a 134 ((a 134).set (780 + (am_at (a 136) 26)).toNat y1)) 136 ((a 136).set (26 : Int).toNat ((am_at (a 136) 26) + 1))) w e) rfl am_ge136 i12 (am_sa136 _) ?_
    have q14 := am_Rg11701 hI.1.1
    have J15 := am_Rf11738 (v := am_shl 1 (am_at (a 136) 26)) hI (by omega) (by omega)
    have J16 := am_Rf11739 (v := am_shl 1 (am_at (a 136) 26)) J15 (by omega) (by omega)
    have J17 := am_Rf11740 (v := 0) J16 (by omega) (by omega)
    have J18 := am_Ra134 J17 hl9
    have J19 := am_Ra136 J18 hl13
    have m20 : am_mn f a (am_ud f 11738 (am_shl 1 (am_at (a 136) 26))) a := am_mn_f rfl rfl rfl (am_mn.refl f a)
    have m21 : am_mn f a (am_ud (am_ud f 11738 (am_shl 1 (am_at (a 136) 26))) 11739 (am_shl 1 (am_at (a 136) 26))) a := am_mn_f rfl rfl rfl m20
    have m22 : am_mn f a (am_ud (am_ud (am_ud f 11738 (am_shl 1 (am_at (a 136) 26))) 11739 (am_shl 1 (am_at (a 136) 26))) 11740 0) a := am_mn_f rfl rfl rfl m21
    have m23 : am_mn f a (am_ud (am_ud (am_ud f 11738 (am_shl 1 (am_at (a 136) 26))) 11739 (am_shl 1 (am_at (a 136) 26))) 11740 0) (am_ud a 134 ((a 134).set (780 + (am_at (a 136) 26)).toNat y1)) := am_mn_a rfl rfl m22
    have m24 : am_mn f a (am_ud (am_ud (am_ud f 11738 (am_shl 1 (am_at (a 136) 26))) 11739 (am_shl 1 (am_at (a 136) 26))) 11740 0) (am_ud (am_ud a 134 ((a 134).set (780 + (am_at (a 136) 26)).toNat y1)) 136 ((a 136).set (26 : Int).toNat ((am_at (a 136) 26) + 1))) := am_mn_a rfl rfl m23
    have q25 := am_Rg11713 hI.1.1
    have q26 := am_Rg11709 hI.1.1
    have q27 := am_Rg11718 hI.1.1
    have q28 := am_Rg11741 hI.1.1
    have q29 := am_Rg11750 hI.1.1
    have q30 := am_Rg11753 hI.1.1
    have q31 := am_Rg11757 hI.1.1
    have q32 := am_Rg11763 hI.1.1
    exact am_eret rfl rfl ⟨J19, m24, (show f 11713 = (f 11713) by omega), (show f 11709 = (f 11709) by omega), (show f 11718 = (f 11718) by omega), (show f 11741 = (f 11741) by omega), (show f 11750 = (f 11750) by omega), (show f 11753 = (f 11753) by omega), (show f 11757 = (f 11757) by omega), (show f 11763 = (f 11763) by omega)⟩
  · refine am_raload_n rfl rfl rfl ?_
    refine am_riconst rfl ?_
    have q33 := am_Rg11701 hI.1.1
    refine am_evirtualV (m := am_m116) (As := [.ref 117, am_iv 2]) (S1 := []) rfl rfl rfl rfl rfl rfl rfl rfl rfl rfl (am_TE.void (am_ct117 (y1 := 2) (by omega) (by omega) (show 1 ≤ 2 by omega) (show 2 ≤ 3 by omega) (show 0 ≤ (f 11701) by omega) (show (f 11701) ≤ 3 by omega)) (fun f34 a34 hq35 => ?_) (fun _ _ _ h => h))
    obtain ⟨v36, rfl, rfl, hq35⟩ := hq35
    replace hq35 : 0 < v36 ∧ v36 ≤ 3 ∧ f 11701 ≤ v36 := hq35
    have J37 := am_Rf11701 (v := v36) hI (by omega) (by omega)
    have m38 : am_mn f a (am_ud f 11701 v36) a := am_mn.halt (am_mn.refl f a) (by omega)
    have q39 := am_Rg11713 hI.1.1
    have q40 := am_Rg11709 hI.1.1
    have q41 := am_Rg11718 hI.1.1
    have q42 := am_Rg11741 hI.1.1
    have q43 := am_Rg11750 hI.1.1
    have q44 := am_Rg11753 hI.1.1
    have q45 := am_Rg11757 hI.1.1
    have q46 := am_Rg11763 hI.1.1
    exact am_eret rfl rfl ⟨J37, m38, (show f 11713 = (f 11713) by omega), (show f 11709 = (f 11709) by omega), (show f 11718 = (f 11718) by omega), (show f 11741 = (f 11741) by omega), (show f 11750 = (f 11750) by omega), (show f 11753 = (f 11753) by omega), (show f 11757 = (f 11757) by omega), (show f 11763 = (f 11763) by omega)⟩
set_option maxRecDepth 100000 in
set_option maxHeartbeats 4000000 in
theorem am_ct148_52 {X : List Value} {w : Value} {e : Nat} {g : aF} {h : aA} {E : Nat → aF → aA → Prop} {d : Nat} {z11713 : Int} {z11709 : Int} {z11718 : Int} {z11741 : Int} {z11750 : Int} {z11753 : Int} {z11757 : Int} {z11763 : Int} {fz : aF} {az : aA} (hd : 2 ≤ d + 1) (n : Nat) :
    ∀ {f : aF} {a : aA} {x1 : Int} {x2 : Int}, (30 - x2).toNat < n → am_RV g h f a → am_mn fz az f a → (-2147483648 ≤ x1 ∧ x1 ≤ 2147483647) → (-2147483648 ≤ x2 ∧ x2 ≤ 2147483647) → 0 ≤ x2 → f 11713 = z11713 → f 11709 = z11709 → f 11718 = z11718 → f 11741 = z11741 → f 11750 = z11750 → f 11753 = z11753 → f 11757 = z11757 → f 11763 = z11763 → am_TE X (d + 1) am_m147 52 [(0, .ref 117), (1, am_iv x1), (2, am_iv x2)] [] f a w e (am_QV (fun f1 a1 => am_RV g h f1 a1 ∧ am_mn fz az f1 a1 ∧ f1 11713 = z11713 ∧ f1 11709 = z11709 ∧ f1 11718 = z11718 ∧ f1 11741 = z11741 ∧ f1 11750 = z11750 ∧ f1 11753 = z11753 ∧ f1 11757 = z11757 ∧ f1 11763 = z11763)) E := by
  induction n with
  | zero => intros; omega
  | succ n ih =>
    intro f a x1 x2 hn hI hp0 hp1 hp2 hp3 hp4 hp5 hp6 hp7 hp8 hp9 hp10 hp11
    have q1 := am_RV_ph hI
    have q2 := am_RV_p0 hI
    have q3 := am_Rg11713 hI.1.1
    have q4 := am_Rg11709 hI.1.1
    have q5 := am_Rg11718 hI.1.1
    have q6 := am_Rg11741 hI.1.1
    have q7 := am_Rg11750 hI.1.1
    have q8 := am_Rg11753 hI.1.1
    have q9 := am_Rg11757 hI.1.1
    have q10 := am_Rg11763 hI.1.1
    refine am_riload_n rfl rfl rfl ?_
    refine am_rbipush rfl (by decide) ?_
    refine am_ric_ge rfl rfl (by unfold am_rg; omega) (by unfold am_rg; omega) (fun hc11 => ?_) (fun hc11 => ?_)
    · have q12 := am_Rg11701 hI.1.1
      exact am_eret rfl rfl ⟨hI, hp0, (show f 11713 = z11713 by omega), (show f 11709 = z11709 by omega), (show f 11718 = z11718 by omega), (show f 11741 = z11741 by omega), (show f 11750 = z11750 by omega), (show f 11753 = z11753 by omega), (show f 11757 = z11757 by omega), (show f 11763 = z11763 by omega)⟩
    · refine am_riload_n rfl rfl rfl ?_
      refine am_rbipush rfl (by decide) ?_
      refine am_ric_eq rfl rfl (by unfold am_rg; omega) (by unfold am_rg; omega) (fun hc13 => ?_) (fun hc13 => ?_)
      · have q14 := am_Rg11701 hI.1.1
        exact am_eret rfl rfl ⟨hI, hp0, (show f 11713 = z11713 by omega), (show f 11709 = z11709 by omega), (show f 11718 = z11718 by omega), (show f 11741 = z11741 by omega), (show f 11750 = z11750 by omega), (show f 11753 = z11753 by omega), (show f 11757 = z11757 by omega), (show f 11763 = z11763 by omega)⟩
      · refine am_raload_n rfl rfl rfl ?_
        refine am_rgetf (S1 := [.ref 135]) rfl rfl ?_
        refine am_rsipush rfl (by decide) ?_
        refine am_riload_n rfl rfl rfl ?_
        refine am_riadd rfl ?_
        refine am_rdup2 rfl rfl rfl ?_
        have q15 : (a 135).length = 810 := am_Rl135 (am_RL 135 rfl hI.1.1)
        have i16 : am_ib (a 135) (780 + x2) := by unfold am_ib; omega
        have q17 := am_Rb135 (am_RL 135 rfl hI.1.1) i16
        refine am_riaload (l := a 135) rfl am_ge135 i16 ?_
        refine am_raload_n rfl rfl rfl ?_
        have q18 := am_Rg11739 hI.1.1
        refine am_rgetf (S1 := [am_iv (f 11739), am_iv (am_at (a 135) (780 + x2)), am_iv (780 + x2), .ref 135]) rfl rfl ?_
        refine am_riload_n rfl rfl rfl ?_
        have q19 := am_shr_rg (f 11739) x2
        refine am_rishr rfl ?_
        refine am_riconst rfl ?_
        have q20 := am_and_rg (am_shr (f 11739) x2) 1
        refine am_riand rfl ?_
        refine am_riconst rfl ?_
        refine am_ric_ne rfl rfl (by unfold am_rg; omega) (by unfold am_rg; omega) (fun hc21 => ?_) (fun hc21 => ?_)
        · refine am_riconst rfl ?_
          have q22 := am_or_rg (am_at (a 135) (780 + x2)) 0
          refine am_rior rfl ?_
          have i23 : am_ib (a 135) (780 + x2) := by unfold am_ib; omega
          have hl24 : am_LR 135 ((a 135).set (780 + x2).toNat (am_or (am_at (a 135) (780 + x2)) 0)) := am_RS135 (am_RL 135 rfl hI.1.1) (by omega) (by omega)
          refine am_riastore (l := a 135) (h1 := am_enc f (am_ud a 135 ((a 135).set (780 + x2).toNat (am_or (am_at (a 135) (780 + x2)) 0))) w e) rfl am_ge135 i23 (am_sa135 _) ?_
          refine am_riinc (L1 := [(0, .ref 117), (1, am_iv x1), (2, am_iv (x2 + 1))]) rfl rfl rfl rfl rfl ?_
          refine am_rgoto rfl rfl ?_
          have q25 := am_Rg11701 hI.1.1
          have J26 := am_Ra135 hI hl24
          have m27 : am_mn fz az f (am_ud a 135 ((a 135).set (780 + x2).toNat (am_or (am_at (a 135) (780 + x2)) 0))) := am_mn_a rfl rfl hp0
          exact ih (show (30 - (x2 + 1)).toNat < n by omega) J26 m27 (show (-2147483648 ≤ x1 ∧ x1 ≤ 2147483647) by omega) (show (-2147483648 ≤ (x2 + 1) ∧ (x2 + 1) ≤ 2147483647) by omega) (show 0 ≤ (x2 + 1) by omega) (show (f 11713) = z11713 by omega) (show (f 11709) = z11709 by omega) (show (f 11718) = z11718 by omega) (show (f 11741) = z11741 by omega) (show (f 11750) = z11750 by omega) (show (f 11753) = z11753 by omega) (show (f 11757) = z11757 by omega) (show (f 11763) = z11763 by omega)
        · refine am_raload_n rfl rfl rfl ?_
          have q28 := am_Rg11738 hI.1.1
          refine am_rgetf (S1 := [am_iv (f 11738), am_iv (am_at (a 135) (780 + x2)), am_iv (780 + x2), .ref 135]) rfl rfl ?_
          refine am_rgoto rfl rfl ?_
          have q29 := am_or_rg (am_at (a 135) (780 + x2)) (f 11738)
          refine am_rior rfl ?_
          have i30 : am_ib (a 135) (780 + x2) := by unfold am_ib; omega
          have hl31 : am_LR 135 ((a 135).set (780 + x2).toNat (am_or (am_at (a 135) (780 + x2)) (f 11738))) := am_RS135 (am_RL 135 rfl hI.1.1) (by omega) (by omega)
          refine am_riastore (l := a 135) (h1 := am_enc f (am_ud a 135 ((a 135).set (780 + x2).toNat (am_or (am_at (a 135) (780 + x2)) (f 11738)))) w e) rfl am_ge135 i30 (am_sa135 _) ?_
          refine am_riinc (L1 := [(0, .ref 117), (1, am_iv x1), (2, am_iv (x2 + 1))]) rfl rfl rfl rfl rfl ?_
          refine am_rgoto rfl rfl ?_
          have q32 := am_Rg11701 hI.1.1
          have J33 := am_Ra135 hI hl31
          have m34 : am_mn fz az f (am_ud a 135 ((a 135).set (780 + x2).toNat (am_or (am_at (a 135) (780 + x2)) (f 11738)))) := am_mn_a rfl rfl hp0
          exact ih (show (30 - (x2 + 1)).toNat < n by omega) J33 m34 (show (-2147483648 ≤ x1 ∧ x1 ≤ 2147483647) by omega) (show (-2147483648 ≤ (x2 + 1) ∧ (x2 + 1) ≤ 2147483647) by omega) (show 0 ≤ (x2 + 1) by omega) (show (f 11713) = z11713 by omega) (show (f 11709) = z11709 by omega) (show (f 11718) = z11718 by omega) (show (f 11741) = z11741 by omega) (show (f 11750) = z11750 by omega) (show (f 11753) = z11753 by omega) (show (f 11757) = z11757 by omega) (show (f 11763) = z11763 by omega)
set_option maxRecDepth 100000 in
set_option maxHeartbeats 4000000 in
theorem am_ct148 {X : List Value} {w : Value} {e : Nat} {g : aF} {h : aA} {E : Nat → aF → aA → Prop} {d : Nat} {f : aF} {a : aA} (hd : 2 ≤ d) (hI : am_RV g h f a) :
    am_TE X d am_m147 0 (lv_args 0 [.ref 117]) [] f a w e (am_QV (fun f1 a1 => am_RV g h f1 a1 ∧ am_mn f a f1 a1 ∧ f1 11713 = (f 11713) ∧ f1 11709 = (f 11709) ∧ f1 11718 = (f 11718) ∧ f1 11741 = (f 11741) ∧ f1 11750 = (f 11750) ∧ f1 11753 = (f 11753) ∧ f1 11757 = (f 11757) ∧ f1 11763 = (f 11763))) E := by
  obtain ⟨d, rfl⟩ : ∃ d0, d = d0 + 1 := ⟨d - 1, by omega⟩
  have q1 := am_RV_ph hI
  have q2 := am_RV_p0 hI
  refine am_raload_n rfl rfl rfl ?_
  refine am_evirtualI (m := am_m121) (As := [.ref 117]) (S1 := []) rfl rfl rfl rfl rfl rfl rfl rfl rfl rfl (am_TE.int (am_ct122  (by omega) hI) (fun b3 f3 a3 hq4 => ?_) (fun _ _ _ h => h))
  obtain ⟨rfl, rfl, hq4⟩ := hq4
  refine am_ristore_n (L1 := [(0, .ref 117), (1, am_iv b3)]) rfl rfl rfl rfl rfl ?_
  refine am_riload_n rfl rfl rfl ?_
  refine am_rbipush rfl (by decide) ?_
  refine am_ric_eq rfl rfl (by unfold am_rg; omega) (by unfold am_rg; omega) (fun hc5 => ?_) (fun hc5 => ?_)
  · refine am_raload_n rfl rfl rfl ?_
    have ok6 : f 11701 = 0 ∧ am_at (a 124) (f 11713) < am_at (a 125) (f 11713) := am_PK.ok hq4.2.2.1 (by omega)
    have q7 := am_Rg11713 hI.1.1
    refine am_evirtualV (m := am_m122) (As := [.ref 117]) (S1 := []) rfl rfl rfl rfl rfl rfl rfl rfl rfl rfl (am_TE.void (am_ct123  (by omega) hI (show am_at (a 124) ((f 11713)) < am_at (a 125) ((f 11713)) by omega)) (fun f8 a8 hq9 => ?_) (fun _ _ _ h => h))
    obtain ⟨hI10, hk11, hq9⟩ := hq9
    replace hq9 : f8 11701 = ((f 11701)) ∧ f8 11713 = ((f 11713)) ∧ am_ph f8 a8 = (am_ph f a ) + 1 ∧ (((f 11713)) = 0 → am_at (a8 124) 0 = (am_at (a 124) 0) + 1) := hq9
    have mm12 : f 11701 ≤ f8 11701 ∧ am_ph f a ≤ am_ph f8 a8 ∧ am_at (a 124) 0 ≤ am_at (a8 124) 0 ∧ am_at (a8 125) 0 = am_at (a 125) 0 := hk11.1
    have hm13 := am_mn.trans (am_mn.refl f a) hk11.1
    have t14 : f8 11709 = f 11709 := hk11.2.1 11709 rfl
    have t15 : f8 11718 = f 11718 := hk11.2.1 11718 rfl
    have t16 : f8 11741 = f 11741 := hk11.2.1 11741 rfl
    have t17 : f8 11750 = f 11750 := hk11.2.1 11750 rfl
    have t18 : f8 11753 = f 11753 := hk11.2.1 11753 rfl
    have t19 : f8 11757 = f 11757 := hk11.2.1 11757 rfl
    have t20 : f8 11763 = f 11763 := hk11.2.1 11763 rfl
    refine am_raload_n rfl rfl rfl ?_
    refine am_raload_n rfl rfl rfl ?_
    have q21 := am_Rg11740 hI10.1.1
    refine am_rgetf (S1 := [am_iv (f8 11740), .ref 117]) rfl rfl ?_
    refine am_rif_ne rfl rfl (by unfold am_rg; omega) (fun hc22 => ?_) (fun hc22 => ?_)
    · refine am_riconst rfl ?_
      refine am_rgoto rfl rfl ?_
      refine am_rputf (S1 := []) (h1 := am_enc (am_ud f8 11740 1) a8 w e) rfl (am_pfB rfl am_ge117 rfl (am_sf11740 _)) (by rw [am_enc_len, am_enc_len]) ?_
      refine am_riconst rfl ?_
      refine am_ristore_n (L1 := [(0, .ref 117), (1, am_iv b3), (2, am_iv 0)]) rfl rfl rfl rfl rfl ?_
      have q23 := am_Rg11701 hI10.1.1
      have J24 := am_Rf11740 (v := 1) hI10 (by omega) (by omega)
      have m25 : am_mn f a (am_ud f8 11740 1) a8 := am_mn_f rfl rfl rfl hm13
      have q26 := am_Rg11713 hI10.1.1
      have q27 := am_Rg11709 hI10.1.1
      have q28 := am_Rg11718 hI10.1.1
      have q29 := am_Rg11741 hI10.1.1
      have q30 := am_Rg11750 hI10.1.1
      have q31 := am_Rg11753 hI10.1.1
      have q32 := am_Rg11757 hI10.1.1
      have q33 := am_Rg11763 hI10.1.1
      exact am_ct148_52 hd (_ + 1) (Nat.lt_succ_self _) J24 m25 (show (-2147483648 ≤ b3 ∧ b3 ≤ 2147483647) by omega) (show (-2147483648 ≤ 0 ∧ 0 ≤ 2147483647) by omega) (show 0 ≤ 0 by omega) (show (f8 11713) = (f 11713) by omega) (show (f8 11709) = (f 11709) by omega) (show (f8 11718) = (f 11718) by omega) (show (f8 11741) = (f 11741) by omega) (show (f8 11750) = (f 11750) by omega) (show (f8 11753) = (f 11753) by omega) (show (f8 11757) = (f 11757) by omega) (show (f8 11763) = (f 11763) by omega)
    · refine am_riload_n rfl rfl rfl ?_
      refine am_rbipush rfl (by decide) ?_
      refine am_ric_eq rfl rfl (by unfold am_rg; omega) (by unfold am_rg; omega) (fun hc34 => ?_) (fun hc34 => ?_)
      · refine am_riconst rfl ?_
        refine am_rputf (S1 := []) (h1 := am_enc (am_ud f8 11740 0) a8 w e) rfl (am_pfB rfl am_ge117 rfl (am_sf11740 _)) (by rw [am_enc_len, am_enc_len]) ?_
        refine am_riconst rfl ?_
        refine am_ristore_n (L1 := [(0, .ref 117), (1, am_iv b3), (2, am_iv 0)]) rfl rfl rfl rfl rfl ?_
        have q35 := am_Rg11701 hI10.1.1
        have J36 := am_Rf11740 (v := 0) hI10 (by omega) (by omega)
        have m37 : am_mn f a (am_ud f8 11740 0) a8 := am_mn_f rfl rfl rfl hm13
        have q38 := am_Rg11713 hI10.1.1
        have q39 := am_Rg11709 hI10.1.1
        have q40 := am_Rg11718 hI10.1.1
        have q41 := am_Rg11741 hI10.1.1
        have q42 := am_Rg11750 hI10.1.1
        have q43 := am_Rg11753 hI10.1.1
        have q44 := am_Rg11757 hI10.1.1
        have q45 := am_Rg11763 hI10.1.1
        exact am_ct148_52 hd (_ + 1) (Nat.lt_succ_self _) J36 m37 (show (-2147483648 ≤ b3 ∧ b3 ≤ 2147483647) by omega) (show (-2147483648 ≤ 0 ∧ 0 ≤ 2147483647) by omega) (show 0 ≤ 0 by omega) (show (f8 11713) = (f 11713) by omega) (show (f8 11709) = (f 11709) by omega) (show (f8 11718) = (f 11718) by omega) (show (f8 11741) = (f 11741) by omega) (show (f8 11750) = (f 11750) by omega) (show (f8 11753) = (f 11753) by omega) (show (f8 11757) = (f 11757) by omega) (show (f8 11763) = (f 11763) by omega)
      · refine am_riconst rfl ?_
        refine am_rgoto rfl rfl ?_
        refine am_rputf (S1 := []) (h1 := am_enc (am_ud f8 11740 1) a8 w e) rfl (am_pfB rfl am_ge117 rfl (am_sf11740 _)) (by rw [am_enc_len, am_enc_len]) ?_
        refine am_riconst rfl ?_
        refine am_ristore_n (L1 := [(0, .ref 117), (1, am_iv b3), (2, am_iv 0)]) rfl rfl rfl rfl rfl ?_
        have q46 := am_Rg11701 hI10.1.1
        have J47 := am_Rf11740 (v := 1) hI10 (by omega) (by omega)
        have m48 : am_mn f a (am_ud f8 11740 1) a8 := am_mn_f rfl rfl rfl hm13
        have q49 := am_Rg11713 hI10.1.1
        have q50 := am_Rg11709 hI10.1.1
        have q51 := am_Rg11718 hI10.1.1
        have q52 := am_Rg11741 hI10.1.1
        have q53 := am_Rg11750 hI10.1.1
        have q54 := am_Rg11753 hI10.1.1
        have q55 := am_Rg11757 hI10.1.1
        have q56 := am_Rg11763 hI10.1.1
        exact am_ct148_52 hd (_ + 1) (Nat.lt_succ_self _) J47 m48 (show (-2147483648 ≤ b3 ∧ b3 ≤ 2147483647) by omega) (show (-2147483648 ≤ 0 ∧ 0 ≤ 2147483647) by omega) (show 0 ≤ 0 by omega) (show (f8 11713) = (f 11713) by omega) (show (f8 11709) = (f 11709) by omega) (show (f8 11718) = (f 11718) by omega) (show (f8 11741) = (f 11741) by omega) (show (f8 11750) = (f 11750) by omega) (show (f8 11753) = (f 11753) by omega) (show (f8 11757) = (f 11757) by omega) (show (f8 11763) = (f 11763) by omega)
  · refine am_riload_n rfl rfl rfl ?_
    refine am_rbipush rfl (by decide) ?_
    refine am_ric_eq rfl rfl (by unfold am_rg; omega) (by unfold am_rg; omega) (fun hc57 => ?_) (fun hc57 => ?_)
    · refine am_raload_n rfl rfl rfl ?_
      have ok58 : f 11701 = 0 ∧ am_at (a 124) (f 11713) < am_at (a 125) (f 11713) := am_PK.ok hq4.2.2.1 (by omega)
      have q59 := am_Rg11713 hI.1.1
      refine am_evirtualV (m := am_m122) (As := [.ref 117]) (S1 := []) rfl rfl rfl rfl rfl rfl rfl rfl rfl rfl (am_TE.void (am_ct123  (by omega) hI (show am_at (a 124) ((f 11713)) < am_at (a 125) ((f 11713)) by omega)) (fun f60 a60 hq61 => ?_) (fun _ _ _ h => h))
      obtain ⟨hI62, hk63, hq61⟩ := hq61
      replace hq61 : f60 11701 = ((f 11701)) ∧ f60 11713 = ((f 11713)) ∧ am_ph f60 a60 = (am_ph f a ) + 1 ∧ (((f 11713)) = 0 → am_at (a60 124) 0 = (am_at (a 124) 0) + 1) := hq61
      have mm64 : f 11701 ≤ f60 11701 ∧ am_ph f a ≤ am_ph f60 a60 ∧ am_at (a 124) 0 ≤ am_at (a60 124) 0 ∧ am_at (a60 125) 0 = am_at (a 125) 0 := hk63.1
      have hm65 := am_mn.trans (am_mn.refl f a) hk63.1
      have t66 : f60 11709 = f 11709 := hk63.2.1 11709 rfl
      have t67 : f60 11718 = f 11718 := hk63.2.1 11718 rfl
      have t68 : f60 11741 = f 11741 := hk63.2.1 11741 rfl
      have t69 : f60 11750 = f 11750 := hk63.2.1 11750 rfl
      have t70 : f60 11753 = f 11753 := hk63.2.1 11753 rfl
      have t71 : f60 11757 = f 11757 := hk63.2.1 11757 rfl
      have t72 : f60 11763 = f 11763 := hk63.2.1 11763 rfl
      refine am_raload_n rfl rfl rfl ?_
      refine am_raload_n rfl rfl rfl ?_
      have q73 := am_Rg11740 hI62.1.1
      refine am_rgetf (S1 := [am_iv (f60 11740), .ref 117]) rfl rfl ?_
      refine am_rif_ne rfl rfl (by unfold am_rg; omega) (fun hc74 => ?_) (fun hc74 => ?_)
      · refine am_riconst rfl ?_
        refine am_rgoto rfl rfl ?_
        refine am_rputf (S1 := []) (h1 := am_enc (am_ud f60 11740 1) a60 w e) rfl (am_pfB rfl am_ge117 rfl (am_sf11740 _)) (by rw [am_enc_len, am_enc_len]) ?_
        refine am_riconst rfl ?_
        refine am_ristore_n (L1 := [(0, .ref 117), (1, am_iv b3), (2, am_iv 0)]) rfl rfl rfl rfl rfl ?_
        have q75 := am_Rg11701 hI62.1.1
        have J76 := am_Rf11740 (v := 1) hI62 (by omega) (by omega)
        have m77 : am_mn f a (am_ud f60 11740 1) a60 := am_mn_f rfl rfl rfl hm65
        have q78 := am_Rg11713 hI62.1.1
        have q79 := am_Rg11709 hI62.1.1
        have q80 := am_Rg11718 hI62.1.1
        have q81 := am_Rg11741 hI62.1.1
        have q82 := am_Rg11750 hI62.1.1
        have q83 := am_Rg11753 hI62.1.1
        have q84 := am_Rg11757 hI62.1.1
        have q85 := am_Rg11763 hI62.1.1
        exact am_ct148_52 hd (_ + 1) (Nat.lt_succ_self _) J76 m77 (show (-2147483648 ≤ b3 ∧ b3 ≤ 2147483647) by omega) (show (-2147483648 ≤ 0 ∧ 0 ≤ 2147483647) by omega) (show 0 ≤ 0 by omega) (show (f60 11713) = (f 11713) by omega) (show (f60 11709) = (f 11709) by omega) (show (f60 11718) = (f 11718) by omega) (show (f60 11741) = (f 11741) by omega) (show (f60 11750) = (f 11750) by omega) (show (f60 11753) = (f 11753) by omega) (show (f60 11757) = (f 11757) by omega) (show (f60 11763) = (f 11763) by omega)
      · refine am_riload_n rfl rfl rfl ?_
        refine am_rbipush rfl (by decide) ?_
        refine am_ric_eq rfl rfl (by unfold am_rg; omega) (by unfold am_rg; omega) (fun hc86 => ?_) (fun hc86 => ?_)
        · refine am_riconst rfl ?_
          refine am_rputf (S1 := []) (h1 := am_enc (am_ud f60 11740 0) a60 w e) rfl (am_pfB rfl am_ge117 rfl (am_sf11740 _)) (by rw [am_enc_len, am_enc_len]) ?_
          refine am_riconst rfl ?_
          refine am_ristore_n (L1 := [(0, .ref 117), (1, am_iv b3), (2, am_iv 0)]) rfl rfl rfl rfl rfl ?_
          have q87 := am_Rg11701 hI62.1.1
          have J88 := am_Rf11740 (v := 0) hI62 (by omega) (by omega)
          have m89 : am_mn f a (am_ud f60 11740 0) a60 := am_mn_f rfl rfl rfl hm65
          have q90 := am_Rg11713 hI62.1.1
          have q91 := am_Rg11709 hI62.1.1
          have q92 := am_Rg11718 hI62.1.1
          have q93 := am_Rg11741 hI62.1.1
          have q94 := am_Rg11750 hI62.1.1
          have q95 := am_Rg11753 hI62.1.1
          have q96 := am_Rg11757 hI62.1.1
          have q97 := am_Rg11763 hI62.1.1
          exact am_ct148_52 hd (_ + 1) (Nat.lt_succ_self _) J88 m89 (show (-2147483648 ≤ b3 ∧ b3 ≤ 2147483647) by omega) (show (-2147483648 ≤ 0 ∧ 0 ≤ 2147483647) by omega) (show 0 ≤ 0 by omega) (show (f60 11713) = (f 11713) by omega) (show (f60 11709) = (f 11709) by omega) (show (f60 11718) = (f 11718) by omega) (show (f60 11741) = (f 11741) by omega) (show (f60 11750) = (f 11750) by omega) (show (f60 11753) = (f 11753) by omega) (show (f60 11757) = (f 11757) by omega) (show (f60 11763) = (f 11763) by omega)
        · refine am_riconst rfl ?_
          refine am_rgoto rfl rfl ?_
          refine am_rputf (S1 := []) (h1 := am_enc (am_ud f60 11740 1) a60 w e) rfl (am_pfB rfl am_ge117 rfl (am_sf11740 _)) (by rw [am_enc_len, am_enc_len]) ?_
          refine am_riconst rfl ?_
          refine am_ristore_n (L1 := [(0, .ref 117), (1, am_iv b3), (2, am_iv 0)]) rfl rfl rfl rfl rfl ?_
          have q98 := am_Rg11701 hI62.1.1
          have J99 := am_Rf11740 (v := 1) hI62 (by omega) (by omega)
          have m100 : am_mn f a (am_ud f60 11740 1) a60 := am_mn_f rfl rfl rfl hm65
          have q101 := am_Rg11713 hI62.1.1
          have q102 := am_Rg11709 hI62.1.1
          have q103 := am_Rg11718 hI62.1.1
          have q104 := am_Rg11741 hI62.1.1
          have q105 := am_Rg11750 hI62.1.1
          have q106 := am_Rg11753 hI62.1.1
          have q107 := am_Rg11757 hI62.1.1
          have q108 := am_Rg11763 hI62.1.1
          exact am_ct148_52 hd (_ + 1) (Nat.lt_succ_self _) J99 m100 (show (-2147483648 ≤ b3 ∧ b3 ≤ 2147483647) by omega) (show (-2147483648 ≤ 0 ∧ 0 ≤ 2147483647) by omega) (show 0 ≤ 0 by omega) (show (f60 11713) = (f 11713) by omega) (show (f60 11709) = (f 11709) by omega) (show (f60 11718) = (f 11718) by omega) (show (f60 11741) = (f 11741) by omega) (show (f60 11750) = (f 11750) by omega) (show (f60 11753) = (f 11753) by omega) (show (f60 11757) = (f 11757) by omega) (show (f60 11763) = (f 11763) by omega)
    · refine am_riload_n rfl rfl rfl ?_
      refine am_rbipush rfl (by decide) ?_
      refine am_ric_eq rfl rfl (by unfold am_rg; omega) (by unfold am_rg; omega) (fun hc109 => ?_) (fun hc109 => ?_)
      · refine am_raload_n rfl rfl rfl ?_
        have ok110 : f 11701 = 0 ∧ am_at (a 124) (f 11713) < am_at (a 125) (f 11713) := am_PK.ok hq4.2.2.1 (by omega)
        have q111 := am_Rg11713 hI.1.1
        refine am_evirtualV (m := am_m122) (As := [.ref 117]) (S1 := []) rfl rfl rfl rfl rfl rfl rfl rfl rfl rfl (am_TE.void (am_ct123  (by omega) hI (show am_at (a 124) ((f 11713)) < am_at (a 125) ((f 11713)) by omega)) (fun f112 a112 hq113 => ?_) (fun _ _ _ h => h))
        obtain ⟨hI114, hk115, hq113⟩ := hq113
        replace hq113 : f112 11701 = ((f 11701)) ∧ f112 11713 = ((f 11713)) ∧ am_ph f112 a112 = (am_ph f a ) + 1 ∧ (((f 11713)) = 0 → am_at (a112 124) 0 = (am_at (a 124) 0) + 1) := hq113
        have mm116 : f 11701 ≤ f112 11701 ∧ am_ph f a ≤ am_ph f112 a112 ∧ am_at (a 124) 0 ≤ am_at (a112 124) 0 ∧ am_at (a112 125) 0 = am_at (a 125) 0 := hk115.1
        have hm117 := am_mn.trans (am_mn.refl f a) hk115.1
        have t118 : f112 11709 = f 11709 := hk115.2.1 11709 rfl
        have t119 : f112 11718 = f 11718 := hk115.2.1 11718 rfl
        have t120 : f112 11741 = f 11741 := hk115.2.1 11741 rfl
        have t121 : f112 11750 = f 11750 := hk115.2.1 11750 rfl
        have t122 : f112 11753 = f 11753 := hk115.2.1 11753 rfl
        have t123 : f112 11757 = f 11757 := hk115.2.1 11757 rfl
        have t124 : f112 11763 = f 11763 := hk115.2.1 11763 rfl
        refine am_raload_n rfl rfl rfl ?_
        refine am_raload_n rfl rfl rfl ?_
        have q125 := am_Rg11740 hI114.1.1
        refine am_rgetf (S1 := [am_iv (f112 11740), .ref 117]) rfl rfl ?_
        refine am_rif_ne rfl rfl (by unfold am_rg; omega) (fun hc126 => ?_) (fun hc126 => ?_)
        · refine am_riconst rfl ?_
          refine am_rgoto rfl rfl ?_
          refine am_rputf (S1 := []) (h1 := am_enc (am_ud f112 11740 1) a112 w e) rfl (am_pfB rfl am_ge117 rfl (am_sf11740 _)) (by rw [am_enc_len, am_enc_len]) ?_
          refine am_riconst rfl ?_
          refine am_ristore_n (L1 := [(0, .ref 117), (1, am_iv b3), (2, am_iv 0)]) rfl rfl rfl rfl rfl ?_
          have q127 := am_Rg11701 hI114.1.1
          have J128 := am_Rf11740 (v := 1) hI114 (by omega) (by omega)
          have m129 : am_mn f a (am_ud f112 11740 1) a112 := am_mn_f rfl rfl rfl hm117
          have q130 := am_Rg11713 hI114.1.1
          have q131 := am_Rg11709 hI114.1.1
          have q132 := am_Rg11718 hI114.1.1
          have q133 := am_Rg11741 hI114.1.1
          have q134 := am_Rg11750 hI114.1.1
          have q135 := am_Rg11753 hI114.1.1
          have q136 := am_Rg11757 hI114.1.1
          have q137 := am_Rg11763 hI114.1.1
          exact am_ct148_52 hd (_ + 1) (Nat.lt_succ_self _) J128 m129 (show (-2147483648 ≤ b3 ∧ b3 ≤ 2147483647) by omega) (show (-2147483648 ≤ 0 ∧ 0 ≤ 2147483647) by omega) (show 0 ≤ 0 by omega) (show (f112 11713) = (f 11713) by omega) (show (f112 11709) = (f 11709) by omega) (show (f112 11718) = (f 11718) by omega) (show (f112 11741) = (f 11741) by omega) (show (f112 11750) = (f 11750) by omega) (show (f112 11753) = (f 11753) by omega) (show (f112 11757) = (f 11757) by omega) (show (f112 11763) = (f 11763) by omega)
        · refine am_riload_n rfl rfl rfl ?_
          refine am_rbipush rfl (by decide) ?_
          refine am_ric_eq rfl rfl (by unfold am_rg; omega) (by unfold am_rg; omega) (fun hc138 => ?_) (fun hc138 => ?_)
          · refine am_riconst rfl ?_
            refine am_rputf (S1 := []) (h1 := am_enc (am_ud f112 11740 0) a112 w e) rfl (am_pfB rfl am_ge117 rfl (am_sf11740 _)) (by rw [am_enc_len, am_enc_len]) ?_
            refine am_riconst rfl ?_
            refine am_ristore_n (L1 := [(0, .ref 117), (1, am_iv b3), (2, am_iv 0)]) rfl rfl rfl rfl rfl ?_
            have q139 := am_Rg11701 hI114.1.1
            have J140 := am_Rf11740 (v := 0) hI114 (by omega) (by omega)
            have m141 : am_mn f a (am_ud f112 11740 0) a112 := am_mn_f rfl rfl rfl hm117
            have q142 := am_Rg11713 hI114.1.1
            have q143 := am_Rg11709 hI114.1.1
            have q144 := am_Rg11718 hI114.1.1
            have q145 := am_Rg11741 hI114.1.1
            have q146 := am_Rg11750 hI114.1.1
            have q147 := am_Rg11753 hI114.1.1
            have q148 := am_Rg11757 hI114.1.1
            have q149 := am_Rg11763 hI114.1.1
            exact am_ct148_52 hd (_ + 1) (Nat.lt_succ_self _) J140 m141 (show (-2147483648 ≤ b3 ∧ b3 ≤ 2147483647) by omega) (show (-2147483648 ≤ 0 ∧ 0 ≤ 2147483647) by omega) (show 0 ≤ 0 by omega) (show (f112 11713) = (f 11713) by omega) (show (f112 11709) = (f 11709) by omega) (show (f112 11718) = (f 11718) by omega) (show (f112 11741) = (f 11741) by omega) (show (f112 11750) = (f 11750) by omega) (show (f112 11753) = (f 11753) by omega) (show (f112 11757) = (f 11757) by omega) (show (f112 11763) = (f 11763) by omega)
          · refine am_riconst rfl ?_
            refine am_rgoto rfl rfl ?_
            refine am_rputf (S1 := []) (h1 := am_enc (am_ud f112 11740 1) a112 w e) rfl (am_pfB rfl am_ge117 rfl (am_sf11740 _)) (by rw [am_enc_len, am_enc_len]) ?_
            refine am_riconst rfl ?_
            refine am_ristore_n (L1 := [(0, .ref 117), (1, am_iv b3), (2, am_iv 0)]) rfl rfl rfl rfl rfl ?_
            have q150 := am_Rg11701 hI114.1.1
            have J151 := am_Rf11740 (v := 1) hI114 (by omega) (by omega)
            have m152 : am_mn f a (am_ud f112 11740 1) a112 := am_mn_f rfl rfl rfl hm117
            have q153 := am_Rg11713 hI114.1.1
            have q154 := am_Rg11709 hI114.1.1
            have q155 := am_Rg11718 hI114.1.1
            have q156 := am_Rg11741 hI114.1.1
            have q157 := am_Rg11750 hI114.1.1
            have q158 := am_Rg11753 hI114.1.1
            have q159 := am_Rg11757 hI114.1.1
            have q160 := am_Rg11763 hI114.1.1
            exact am_ct148_52 hd (_ + 1) (Nat.lt_succ_self _) J151 m152 (show (-2147483648 ≤ b3 ∧ b3 ≤ 2147483647) by omega) (show (-2147483648 ≤ 0 ∧ 0 ≤ 2147483647) by omega) (show 0 ≤ 0 by omega) (show (f112 11713) = (f 11713) by omega) (show (f112 11709) = (f 11709) by omega) (show (f112 11718) = (f 11718) by omega) (show (f112 11741) = (f 11741) by omega) (show (f112 11750) = (f 11750) by omega) (show (f112 11753) = (f 11753) by omega) (show (f112 11757) = (f 11757) by omega) (show (f112 11763) = (f 11763) by omega)
      · have q161 := am_Rg11701 hI.1.1
        have q162 := am_Rg11713 hI.1.1
        have q163 := am_Rg11709 hI.1.1
        have q164 := am_Rg11718 hI.1.1
        have q165 := am_Rg11741 hI.1.1
        have q166 := am_Rg11750 hI.1.1
        have q167 := am_Rg11753 hI.1.1
        have q168 := am_Rg11757 hI.1.1
        have q169 := am_Rg11763 hI.1.1
        exact am_eret rfl rfl ⟨hI, (am_mn.refl f a), (show f 11713 = (f 11713) by omega), (show f 11709 = (f 11709) by omega), (show f 11718 = (f 11718) by omega), (show f 11741 = (f 11741) by omega), (show f 11750 = (f 11750) by omega), (show f 11753 = (f 11753) by omega), (show f 11757 = (f 11757) by omega), (show f 11763 = (f 11763) by omega)⟩
set_option maxRecDepth 100000 in
set_option maxHeartbeats 4000000 in
theorem am_ct149_238 {X : List Value} {w : Value} {e : Nat} {g : aF} {h : aA} {E : Nat → aF → aA → Prop} {d : Nat} {z11713 : Int} {z11709 : Int} {z11718 : Int} {z11741 : Int} {z11750 : Int} {z11753 : Int} {z11757 : Int} {z11763 : Int} {z11701 : Int} {fz : aF} {az : aA} {f : aF} {a : aA} {x1 : Int} (hd : 1 ≤ d + 1) (hI : am_RV g h f a) (hp0 : am_mn fz az f a) (hp1 : (-2147483648 ≤ x1 ∧ x1 ≤ 2147483647)) (hp2 : 0 ≤ x1) (hp3 : x1 ≤ 8) (hp4 : f 11713 = z11713) (hp5 : f 11709 = z11709) (hp6 : f 11718 = z11718) (hp7 : f 11741 = z11741) (hp8 : f 11750 = z11750) (hp9 : f 11753 = z11753) (hp10 : f 11757 = z11757) (hp11 : f 11763 = z11763) (hp12 : f 11701 = z11701) :
    am_TE X (d + 1) am_m148 238 [(0, .ref 117), (1, am_iv x1)] [] f a w e (am_QV (fun f1 a1 => am_RV g h f1 a1 ∧ am_mn fz az f1 a1 ∧ f1 11713 = z11713 ∧ f1 11709 = z11709 ∧ f1 11718 = z11718 ∧ f1 11741 = z11741 ∧ f1 11750 = z11750 ∧ f1 11753 = z11753 ∧ f1 11757 = z11757 ∧ f1 11763 = z11763 ∧ f1 11701 = z11701)) E := by
  have q1 := am_RV_ph hI
  have q2 := am_RV_p0 hI
  have q3 := am_Rg11713 hI.1.1
  have q4 := am_Rg11709 hI.1.1
  have q5 := am_Rg11718 hI.1.1
  have q6 := am_Rg11741 hI.1.1
  have q7 := am_Rg11750 hI.1.1
  have q8 := am_Rg11753 hI.1.1
  have q9 := am_Rg11757 hI.1.1
  have q10 := am_Rg11763 hI.1.1
  have q11 := am_Rg11701 hI.1.1
  refine am_raload_n rfl rfl rfl ?_
  refine am_rgetf (S1 := [.ref 144]) rfl rfl ?_
  refine am_riload_n rfl rfl rfl ?_
  refine am_riconst rfl ?_
  have q12 : (a 144).length = 9 := am_Rl144 (am_RL 144 rfl hI.1.1)
  have i13 : am_ib (a 144) x1 := by unfold am_ib; omega
  have hl14 : am_LR 144 ((a 144).set x1.toNat 1) := am_RS144 (am_RL 144 rfl hI.1.1) (by omega) (by omega)
  refine am_rbastore (l := a 144) (h1 := am_enc f (am_ud a 144 ((a 144).set x1.toNat 1)) w e) rfl am_ge144 i13 (by omega) (am_sa144 _) ?_
  have J15 := am_Ra144 hI hl14
  have m16 : am_mn fz az f (am_ud a 144 ((a 144).set x1.toNat 1)) := am_mn_a rfl rfl hp0
  exact am_eret rfl rfl ⟨J15, m16, (show f 11713 = z11713 by omega), (show f 11709 = z11709 by omega), (show f 11718 = z11718 by omega), (show f 11741 = z11741 by omega), (show f 11750 = z11750 by omega), (show f 11753 = z11753 by omega), (show f 11757 = z11757 by omega), (show f 11763 = z11763 by omega), (show f 11701 = z11701 by omega)⟩
set_option maxRecDepth 100000 in
set_option maxHeartbeats 4000000 in
theorem am_ct149_110 {X : List Value} {w : Value} {e : Nat} {g : aF} {h : aA} {E : Nat → aF → aA → Prop} {d : Nat} {z11713 : Int} {z11709 : Int} {z11718 : Int} {z11741 : Int} {z11750 : Int} {z11753 : Int} {z11757 : Int} {z11763 : Int} {z11701 : Int} {fz : aF} {az : aA} (hd : 1 ≤ d + 1) (n : Nat) :
    ∀ {f : aF} {a : aA} {x1 : Int} {x2 : Int}, (30 - x2).toNat < n → am_RV g h f a → am_mn fz az f a → (-2147483648 ≤ x1 ∧ x1 ≤ 2147483647) → (-2147483648 ≤ x2 ∧ x2 ≤ 2147483647) → 0 ≤ x2 → 0 ≤ x1 → x1 ≤ 8 → f 11713 = z11713 → f 11709 = z11709 → f 11718 = z11718 → f 11741 = z11741 → f 11750 = z11750 → f 11753 = z11753 → f 11757 = z11757 → f 11763 = z11763 → f 11701 = z11701 → am_TE X (d + 1) am_m148 110 [(0, .ref 117), (1, am_iv x1), (2, am_iv x2)] [] f a w e (am_QV (fun f1 a1 => am_RV g h f1 a1 ∧ am_mn fz az f1 a1 ∧ f1 11713 = z11713 ∧ f1 11709 = z11709 ∧ f1 11718 = z11718 ∧ f1 11741 = z11741 ∧ f1 11750 = z11750 ∧ f1 11753 = z11753 ∧ f1 11757 = z11757 ∧ f1 11763 = z11763 ∧ f1 11701 = z11701)) E := by
  induction n with
  | zero => intros; omega
  | succ n ih =>
    intro f a x1 x2 hn hI hp0 hp1 hp2 hp3 hp4 hp5 hp6 hp7 hp8 hp9 hp10 hp11 hp12 hp13 hp14
    have q1 := am_RV_ph hI
    have q2 := am_RV_p0 hI
    have q3 := am_Rg11713 hI.1.1
    have q4 := am_Rg11709 hI.1.1
    have q5 := am_Rg11718 hI.1.1
    have q6 := am_Rg11741 hI.1.1
    have q7 := am_Rg11750 hI.1.1
    have q8 := am_Rg11753 hI.1.1
    have q9 := am_Rg11757 hI.1.1
    have q10 := am_Rg11763 hI.1.1
    have q11 := am_Rg11701 hI.1.1
    refine am_riload_n rfl rfl rfl ?_
    refine am_rbipush rfl (by decide) ?_
    refine am_ric_ge rfl rfl (by unfold am_rg; omega) (by unfold am_rg; omega) (fun hc12 => ?_) (fun hc12 => ?_)
    · refine am_raload_n rfl rfl rfl ?_
      refine am_rgetf (S1 := [.ref 141]) rfl rfl ?_
      refine am_riload_n rfl rfl rfl ?_
      refine am_rdup2 rfl rfl rfl ?_
      have q13 : (a 141).length = 9 := am_Rl141 (am_RL 141 rfl hI.1.1)
      have i14 : am_ib (a 141) x1 := by unfold am_ib; omega
      have q15 := am_Rb141 (am_RL 141 rfl hI.1.1) i14
      refine am_riaload (l := a 141) rfl am_ge141 i14 ?_
      refine am_raload_n rfl rfl rfl ?_
      refine am_rgetf (S1 := [.ref 143, am_iv (am_at (a 141) x1), am_iv x1, .ref 141]) rfl rfl ?_
      refine am_riload_n rfl rfl rfl ?_
      have q16 : (a 143).length = 9 := am_Rl143 (am_RL 143 rfl hI.1.1)
      have i17 : am_ib (a 143) x1 := by unfold am_ib; omega
      have q18 := am_Rb143 (am_RL 143 rfl hI.1.1) i17
      refine am_rbaload (l := a 143) rfl am_ge143 i17 ?_
      refine am_rif_eq rfl rfl (by unfold am_rg; omega) (fun hc19 => ?_) (fun hc19 => ?_)
      · refine am_riconst rfl ?_
        have q20 := am_or_rg (am_at (a 141) x1) 0
        refine am_rior rfl ?_
        have i21 : am_ib (a 141) x1 := by unfold am_ib; omega
        have hl22 : am_LR 141 ((a 141).set x1.toNat (am_or (am_at (a 141) x1) 0)) := am_RS141 (am_RL 141 rfl hI.1.1) (by omega) (by omega)
        refine am_riastore (l := a 141) (h1 := am_enc f (am_ud a 141 ((a 141).set x1.toNat (am_or (am_at (a 141) x1) 0))) w e) rfl am_ge141 i21 (am_sa141 _) ?_
        refine am_raload_n rfl rfl rfl ?_
        refine am_rgetf (S1 := [.ref 142]) rfl rfl ?_
        refine am_riload_n rfl rfl rfl ?_
        refine am_raload_n rfl rfl rfl ?_
        have q23 := am_Rg11739 hI.1.1
        refine am_rgetf (S1 := [am_iv (f 11739), am_iv x1, .ref 142]) rfl rfl ?_
        refine am_raload_n rfl rfl rfl ?_
        have q24 := am_Rg11740 hI.1.1
        refine am_rgetf (S1 := [am_iv (f 11740), am_iv (f 11739), am_iv x1, .ref 142]) rfl rfl ?_
        refine am_rif_eq rfl rfl (by unfold am_rg; omega) (fun hc25 => ?_) (fun hc25 => ?_)
        · refine am_riconst rfl ?_
          have q26 := am_or_rg (f 11739) 0
          refine am_rior rfl ?_
          have q27 : (a 142).length = 9 := am_Rl142 (am_RL 142 rfl hI.1.1)
          have i28 : am_ib (a 142) x1 := by unfold am_ib; omega
          have hl29 : am_LR 142 ((a 142).set x1.toNat (am_or (f 11739) 0)) := am_RS142 (am_RL 142 rfl hI.1.1) (by omega) (by omega)
          refine am_riastore (l := a 142) (h1 := am_enc f (am_ud (am_ud a 141 ((a 141).set x1.toNat (am_or (am_at (a 141) x1) 0))) 142 ((a 142).set x1.toNat (am_or (f 11739) 0))) w e) rfl am_ge142 i28 (am_sa142 _) ?_
          refine am_raload_n rfl rfl rfl ?_
          refine am_rgetf (S1 := [.ref 143]) rfl rfl ?_
          refine am_riload_n rfl rfl rfl ?_
          refine am_raload_n rfl rfl rfl ?_
          refine am_rgetf (S1 := [.ref 143, am_iv x1, .ref 143]) rfl rfl ?_
          refine am_riload_n rfl rfl rfl ?_
          have i30 : am_ib (a 143) x1 := by unfold am_ib; omega
          refine am_rbaload (l := a 143) rfl am_ge143 i30 ?_
          refine am_rif_eq rfl rfl (by unfold am_rg; omega) (fun hc31 => ?_) (fun hc31 => ?_)
          · refine am_riconst rfl ?_
            have i32 : am_ib (a 143) x1 := by unfold am_ib; omega
            have hl33 : am_LR 143 ((a 143).set x1.toNat 0) := am_RS143 (am_RL 143 rfl hI.1.1) (by omega) (by omega)
            refine am_rbastore (l := a 143) (h1 := am_enc f (am_ud (am_ud (am_ud a 141 ((a 141).set x1.toNat (am_or (am_at (a 141) x1) 0))) 142 ((a 142).set x1.toNat (am_or (f 11739) 0))) 143 ((a 143).set x1.toNat 0)) w e) rfl am_ge143 i32 (by omega) (am_sa143 _) ?_
            have J34 := am_Ra141 hI hl22
            have J35 := am_Ra142 J34 hl29
            have J36 := am_Ra143 J35 hl33
            have m37 : am_mn fz az f (am_ud a 141 ((a 141).set x1.toNat (am_or (am_at (a 141) x1) 0))) := am_mn_a rfl rfl hp0
            have m38 : am_mn fz az f (am_ud (am_ud a 141 ((a 141).set x1.toNat (am_or (am_at (a 141) x1) 0))) 142 ((a 142).set x1.toNat (am_or (f 11739) 0))) := am_mn_a rfl rfl m37
            have m39 : am_mn fz az f (am_ud (am_ud (am_ud a 141 ((a 141).set x1.toNat (am_or (am_at (a 141) x1) 0))) 142 ((a 142).set x1.toNat (am_or (f 11739) 0))) 143 ((a 143).set x1.toNat 0)) := am_mn_a rfl rfl m38
            exact am_T.drop (L1 := [(0, .ref 117), (1, am_iv x1)]) (am_ct149_238 hd J36 m39 (show (-2147483648 ≤ x1 ∧ x1 ≤ 2147483647) by omega) (show 0 ≤ x1 by omega) (show x1 ≤ 8 by omega) (show (f 11713) = z11713 by omega) (show (f 11709) = z11709 by omega) (show (f 11718) = z11718 by omega) (show (f 11741) = z11741 by omega) (show (f 11750) = z11750 by omega) (show (f 11753) = z11753 by omega) (show (f 11757) = z11757 by omega) (show (f 11763) = z11763 by omega) (show (f 11701) = z11701 by omega)) (by simp)
          · refine am_raload_n rfl rfl rfl ?_
            refine am_rgetf (S1 := [am_iv (f 11740), am_iv x1, .ref 143]) rfl rfl ?_
            refine am_rif_eq rfl rfl (by unfold am_rg; omega) (fun hc40 => ?_) (fun hc40 => ?_)
            · refine am_riconst rfl ?_
              have i41 : am_ib (a 143) x1 := by unfold am_ib; omega
              have hl42 : am_LR 143 ((a 143).set x1.toNat 0) := am_RS143 (am_RL 143 rfl hI.1.1) (by omega) (by omega)
              refine am_rbastore (l := a 143) (h1 := am_enc f (am_ud (am_ud (am_ud a 141 ((a 141).set x1.toNat (am_or (am_at (a 141) x1) 0))) 142 ((a 142).set x1.toNat (am_or (f 11739) 0))) 143 ((a 143).set x1.toNat 0)) w e) rfl am_ge143 i41 (by omega) (am_sa143 _) ?_
              have J43 := am_Ra141 hI hl22
              have J44 := am_Ra142 J43 hl29
              have J45 := am_Ra143 J44 hl42
              have m46 : am_mn fz az f (am_ud a 141 ((a 141).set x1.toNat (am_or (am_at (a 141) x1) 0))) := am_mn_a rfl rfl hp0
              have m47 : am_mn fz az f (am_ud (am_ud a 141 ((a 141).set x1.toNat (am_or (am_at (a 141) x1) 0))) 142 ((a 142).set x1.toNat (am_or (f 11739) 0))) := am_mn_a rfl rfl m46
              have m48 : am_mn fz az f (am_ud (am_ud (am_ud a 141 ((a 141).set x1.toNat (am_or (am_at (a 141) x1) 0))) 142 ((a 142).set x1.toNat (am_or (f 11739) 0))) 143 ((a 143).set x1.toNat 0)) := am_mn_a rfl rfl m47
              exact am_T.drop (L1 := [(0, .ref 117), (1, am_iv x1)]) (am_ct149_238 hd J45 m48 (show (-2147483648 ≤ x1 ∧ x1 ≤ 2147483647) by omega) (show 0 ≤ x1 by omega) (show x1 ≤ 8 by omega) (show (f 11713) = z11713 by omega) (show (f 11709) = z11709 by omega) (show (f 11718) = z11718 by omega) (show (f 11741) = z11741 by omega) (show (f 11750) = z11750 by omega) (show (f 11753) = z11753 by omega) (show (f 11757) = z11757 by omega) (show (f 11763) = z11763 by omega) (show (f 11701) = z11701 by omega)) (by simp)
            · refine am_riconst rfl ?_
              refine am_rgoto rfl rfl ?_
              have i49 : am_ib (a 143) x1 := by unfold am_ib; omega
              have hl50 : am_LR 143 ((a 143).set x1.toNat 1) := am_RS143 (am_RL 143 rfl hI.1.1) (by omega) (by omega)
              refine am_rbastore (l := a 143) (h1 := am_enc f (am_ud (am_ud (am_ud a 141 ((a 141).set x1.toNat (am_or (am_at (a 141) x1) 0))) 142 ((a 142).set x1.toNat (am_or (f 11739) 0))) 143 ((a 143).set x1.toNat 1)) w e) rfl am_ge143 i49 (by omega) (am_sa143 _) ?_
              have J51 := am_Ra141 hI hl22
              have J52 := am_Ra142 J51 hl29
              have J53 := am_Ra143 J52 hl50
              have m54 : am_mn fz az f (am_ud a 141 ((a 141).set x1.toNat (am_or (am_at (a 141) x1) 0))) := am_mn_a rfl rfl hp0
              have m55 : am_mn fz az f (am_ud (am_ud a 141 ((a 141).set x1.toNat (am_or (am_at (a 141) x1) 0))) 142 ((a 142).set x1.toNat (am_or (f 11739) 0))) := am_mn_a rfl rfl m54
              have m56 : am_mn fz az f (am_ud (am_ud (am_ud a 141 ((a 141).set x1.toNat (am_or (am_at (a 141) x1) 0))) 142 ((a 142).set x1.toNat (am_or (f 11739) 0))) 143 ((a 143).set x1.toNat 1)) := am_mn_a rfl rfl m55
              exact am_T.drop (L1 := [(0, .ref 117), (1, am_iv x1)]) (am_ct149_238 hd J53 m56 (show (-2147483648 ≤ x1 ∧ x1 ≤ 2147483647) by omega) (show 0 ≤ x1 by omega) (show x1 ≤ 8 by omega) (show (f 11713) = z11713 by omega) (show (f 11709) = z11709 by omega) (show (f 11718) = z11718 by omega) (show (f 11741) = z11741 by omega) (show (f 11750) = z11750 by omega) (show (f 11753) = z11753 by omega) (show (f 11757) = z11757 by omega) (show (f 11763) = z11763 by omega) (show (f 11701) = z11701 by omega)) (by simp)
        · refine am_raload_n rfl rfl rfl ?_
          refine am_rgetf (S1 := [.ref 142, am_iv (f 11739), am_iv x1, .ref 142]) rfl rfl ?_
          refine am_riload_n rfl rfl rfl ?_
          have q57 : (a 142).length = 9 := am_Rl142 (am_RL 142 rfl hI.1.1)
          have i58 : am_ib (a 142) x1 := by unfold am_ib; omega
          have q59 := am_Rb142 (am_RL 142 rfl hI.1.1) i58
          refine am_riaload (l := a 142) rfl am_ge142 i58 ?_
          refine am_rgoto rfl rfl ?_
          have q60 := am_or_rg (f 11739) (am_at (a 142) x1)
          refine am_rior rfl ?_
          have i61 : am_ib (a 142) x1 := by unfold am_ib; omega
          have hl62 : am_LR 142 ((a 142).set x1.toNat (am_or (f 11739) (am_at (a 142) x1))) := am_RS142 (am_RL 142 rfl hI.1.1) (by omega) (by omega)
          refine am_riastore (l := a 142) (h1 := am_enc f (am_ud (am_ud a 141 ((a 141).set x1.toNat (am_or (am_at (a 141) x1) 0))) 142 ((a 142).set x1.toNat (am_or (f 11739) (am_at (a 142) x1)))) w e) rfl am_ge142 i61 (am_sa142 _) ?_
          refine am_raload_n rfl rfl rfl ?_
          refine am_rgetf (S1 := [.ref 143]) rfl rfl ?_
          refine am_riload_n rfl rfl rfl ?_
          refine am_raload_n rfl rfl rfl ?_
          refine am_rgetf (S1 := [.ref 143, am_iv x1, .ref 143]) rfl rfl ?_
          refine am_riload_n rfl rfl rfl ?_
          have i63 : am_ib (a 143) x1 := by unfold am_ib; omega
          refine am_rbaload (l := a 143) rfl am_ge143 i63 ?_
          refine am_rif_eq rfl rfl (by unfold am_rg; omega) (fun hc64 => ?_) (fun hc64 => ?_)
          · refine am_riconst rfl ?_
            have i65 : am_ib (a 143) x1 := by unfold am_ib; omega
            have hl66 : am_LR 143 ((a 143).set x1.toNat 0) := am_RS143 (am_RL 143 rfl hI.1.1) (by omega) (by omega)
            refine am_rbastore (l := a 143) (h1 := am_enc f (am_ud (am_ud (am_ud a 141 ((a 141).set x1.toNat (am_or (am_at (a 141) x1) 0))) 142 ((a 142).set x1.toNat (am_or (f 11739) (am_at (a 142) x1)))) 143 ((a 143).set x1.toNat 0)) w e) rfl am_ge143 i65 (by omega) (am_sa143 _) ?_
            have J67 := am_Ra141 hI hl22
            have J68 := am_Ra142 J67 hl62
            have J69 := am_Ra143 J68 hl66
            have m70 : am_mn fz az f (am_ud a 141 ((a 141).set x1.toNat (am_or (am_at (a 141) x1) 0))) := am_mn_a rfl rfl hp0
            have m71 : am_mn fz az f (am_ud (am_ud a 141 ((a 141).set x1.toNat (am_or (am_at (a 141) x1) 0))) 142 ((a 142).set x1.toNat (am_or (f 11739) (am_at (a 142) x1)))) := am_mn_a rfl rfl m70
            have m72 : am_mn fz az f (am_ud (am_ud (am_ud a 141 ((a 141).set x1.toNat (am_or (am_at (a 141) x1) 0))) 142 ((a 142).set x1.toNat (am_or (f 11739) (am_at (a 142) x1)))) 143 ((a 143).set x1.toNat 0)) := am_mn_a rfl rfl m71
            exact am_T.drop (L1 := [(0, .ref 117), (1, am_iv x1)]) (am_ct149_238 hd J69 m72 (show (-2147483648 ≤ x1 ∧ x1 ≤ 2147483647) by omega) (show 0 ≤ x1 by omega) (show x1 ≤ 8 by omega) (show (f 11713) = z11713 by omega) (show (f 11709) = z11709 by omega) (show (f 11718) = z11718 by omega) (show (f 11741) = z11741 by omega) (show (f 11750) = z11750 by omega) (show (f 11753) = z11753 by omega) (show (f 11757) = z11757 by omega) (show (f 11763) = z11763 by omega) (show (f 11701) = z11701 by omega)) (by simp)
          · refine am_raload_n rfl rfl rfl ?_
            refine am_rgetf (S1 := [am_iv (f 11740), am_iv x1, .ref 143]) rfl rfl ?_
            refine am_rif_eq rfl rfl (by unfold am_rg; omega) (fun hc73 => ?_) (fun hc73 => ?_)
            · refine am_riconst rfl ?_
              have i74 : am_ib (a 143) x1 := by unfold am_ib; omega
              have hl75 : am_LR 143 ((a 143).set x1.toNat 0) := am_RS143 (am_RL 143 rfl hI.1.1) (by omega) (by omega)
              refine am_rbastore (l := a 143) (h1 := am_enc f (am_ud (am_ud (am_ud a 141 ((a 141).set x1.toNat (am_or (am_at (a 141) x1) 0))) 142 ((a 142).set x1.toNat (am_or (f 11739) (am_at (a 142) x1)))) 143 ((a 143).set x1.toNat 0)) w e) rfl am_ge143 i74 (by omega) (am_sa143 _) ?_
              have J76 := am_Ra141 hI hl22
              have J77 := am_Ra142 J76 hl62
              have J78 := am_Ra143 J77 hl75
              have m79 : am_mn fz az f (am_ud a 141 ((a 141).set x1.toNat (am_or (am_at (a 141) x1) 0))) := am_mn_a rfl rfl hp0
              have m80 : am_mn fz az f (am_ud (am_ud a 141 ((a 141).set x1.toNat (am_or (am_at (a 141) x1) 0))) 142 ((a 142).set x1.toNat (am_or (f 11739) (am_at (a 142) x1)))) := am_mn_a rfl rfl m79
              have m81 : am_mn fz az f (am_ud (am_ud (am_ud a 141 ((a 141).set x1.toNat (am_or (am_at (a 141) x1) 0))) 142 ((a 142).set x1.toNat (am_or (f 11739) (am_at (a 142) x1)))) 143 ((a 143).set x1.toNat 0)) := am_mn_a rfl rfl m80
              exact am_T.drop (L1 := [(0, .ref 117), (1, am_iv x1)]) (am_ct149_238 hd J78 m81 (show (-2147483648 ≤ x1 ∧ x1 ≤ 2147483647) by omega) (show 0 ≤ x1 by omega) (show x1 ≤ 8 by omega) (show (f 11713) = z11713 by omega) (show (f 11709) = z11709 by omega) (show (f 11718) = z11718 by omega) (show (f 11741) = z11741 by omega) (show (f 11750) = z11750 by omega) (show (f 11753) = z11753 by omega) (show (f 11757) = z11757 by omega) (show (f 11763) = z11763 by omega) (show (f 11701) = z11701 by omega)) (by simp)
            · refine am_riconst rfl ?_
              refine am_rgoto rfl rfl ?_
              have i82 : am_ib (a 143) x1 := by unfold am_ib; omega
              have hl83 : am_LR 143 ((a 143).set x1.toNat 1) := am_RS143 (am_RL 143 rfl hI.1.1) (by omega) (by omega)
              refine am_rbastore (l := a 143) (h1 := am_enc f (am_ud (am_ud (am_ud a 141 ((a 141).set x1.toNat (am_or (am_at (a 141) x1) 0))) 142 ((a 142).set x1.toNat (am_or (f 11739) (am_at (a 142) x1)))) 143 ((a 143).set x1.toNat 1)) w e) rfl am_ge143 i82 (by omega) (am_sa143 _) ?_
              have J84 := am_Ra141 hI hl22
              have J85 := am_Ra142 J84 hl62
              have J86 := am_Ra143 J85 hl83
              have m87 : am_mn fz az f (am_ud a 141 ((a 141).set x1.toNat (am_or (am_at (a 141) x1) 0))) := am_mn_a rfl rfl hp0
              have m88 : am_mn fz az f (am_ud (am_ud a 141 ((a 141).set x1.toNat (am_or (am_at (a 141) x1) 0))) 142 ((a 142).set x1.toNat (am_or (f 11739) (am_at (a 142) x1)))) := am_mn_a rfl rfl m87
              have m89 : am_mn fz az f (am_ud (am_ud (am_ud a 141 ((a 141).set x1.toNat (am_or (am_at (a 141) x1) 0))) 142 ((a 142).set x1.toNat (am_or (f 11739) (am_at (a 142) x1)))) 143 ((a 143).set x1.toNat 1)) := am_mn_a rfl rfl m88
              exact am_T.drop (L1 := [(0, .ref 117), (1, am_iv x1)]) (am_ct149_238 hd J86 m89 (show (-2147483648 ≤ x1 ∧ x1 ≤ 2147483647) by omega) (show 0 ≤ x1 by omega) (show x1 ≤ 8 by omega) (show (f 11713) = z11713 by omega) (show (f 11709) = z11709 by omega) (show (f 11718) = z11718 by omega) (show (f 11741) = z11741 by omega) (show (f 11750) = z11750 by omega) (show (f 11753) = z11753 by omega) (show (f 11757) = z11757 by omega) (show (f 11763) = z11763 by omega) (show (f 11701) = z11701 by omega)) (by simp)
      · refine am_raload_n rfl rfl rfl ?_
        have q90 := am_Rg11738 hI.1.1
        refine am_rgetf (S1 := [am_iv (f 11738), am_iv (am_at (a 141) x1), am_iv x1, .ref 141]) rfl rfl ?_
        refine am_rgoto rfl rfl ?_
        have q91 := am_or_rg (am_at (a 141) x1) (f 11738)
        refine am_rior rfl ?_
        have i92 : am_ib (a 141) x1 := by unfold am_ib; omega
        have hl93 : am_LR 141 ((a 141).set x1.toNat (am_or (am_at (a 141) x1) (f 11738))) := am_RS141 (am_RL 141 rfl hI.1.1) (by omega) (by omega)
        refine am_riastore (l := a 141) (h1 := am_enc f (am_ud a 141 ((a 141).set x1.toNat (am_or (am_at (a 141) x1) (f 11738)))) w e) rfl am_ge141 i92 (am_sa141 _) ?_
        refine am_raload_n rfl rfl rfl ?_
        refine am_rgetf (S1 := [.ref 142]) rfl rfl ?_
        refine am_riload_n rfl rfl rfl ?_
        refine am_raload_n rfl rfl rfl ?_
        have q94 := am_Rg11739 hI.1.1
        refine am_rgetf (S1 := [am_iv (f 11739), am_iv x1, .ref 142]) rfl rfl ?_
        refine am_raload_n rfl rfl rfl ?_
        have q95 := am_Rg11740 hI.1.1
        refine am_rgetf (S1 := [am_iv (f 11740), am_iv (f 11739), am_iv x1, .ref 142]) rfl rfl ?_
        refine am_rif_eq rfl rfl (by unfold am_rg; omega) (fun hc96 => ?_) (fun hc96 => ?_)
        · refine am_riconst rfl ?_
          have q97 := am_or_rg (f 11739) 0
          refine am_rior rfl ?_
          have q98 : (a 142).length = 9 := am_Rl142 (am_RL 142 rfl hI.1.1)
          have i99 : am_ib (a 142) x1 := by unfold am_ib; omega
          have hl100 : am_LR 142 ((a 142).set x1.toNat (am_or (f 11739) 0)) := am_RS142 (am_RL 142 rfl hI.1.1) (by omega) (by omega)
          refine am_riastore (l := a 142) (h1 := am_enc f (am_ud (am_ud a 141 ((a 141).set x1.toNat (am_or (am_at (a 141) x1) (f 11738)))) 142 ((a 142).set x1.toNat (am_or (f 11739) 0))) w e) rfl am_ge142 i99 (am_sa142 _) ?_
          refine am_raload_n rfl rfl rfl ?_
          refine am_rgetf (S1 := [.ref 143]) rfl rfl ?_
          refine am_riload_n rfl rfl rfl ?_
          refine am_raload_n rfl rfl rfl ?_
          refine am_rgetf (S1 := [.ref 143, am_iv x1, .ref 143]) rfl rfl ?_
          refine am_riload_n rfl rfl rfl ?_
          have i101 : am_ib (a 143) x1 := by unfold am_ib; omega
          refine am_rbaload (l := a 143) rfl am_ge143 i101 ?_
          refine am_rif_eq rfl rfl (by unfold am_rg; omega) (fun hc102 => ?_) (fun hc102 => ?_)
          · refine am_riconst rfl ?_
            have i103 : am_ib (a 143) x1 := by unfold am_ib; omega
            have hl104 : am_LR 143 ((a 143).set x1.toNat 0) := am_RS143 (am_RL 143 rfl hI.1.1) (by omega) (by omega)
            refine am_rbastore (l := a 143) (h1 := am_enc f (am_ud (am_ud (am_ud a 141 ((a 141).set x1.toNat (am_or (am_at (a 141) x1) (f 11738)))) 142 ((a 142).set x1.toNat (am_or (f 11739) 0))) 143 ((a 143).set x1.toNat 0)) w e) rfl am_ge143 i103 (by omega) (am_sa143 _) ?_
            have J105 := am_Ra141 hI hl93
            have J106 := am_Ra142 J105 hl100
            have J107 := am_Ra143 J106 hl104
            have m108 : am_mn fz az f (am_ud a 141 ((a 141).set x1.toNat (am_or (am_at (a 141) x1) (f 11738)))) := am_mn_a rfl rfl hp0
            have m109 : am_mn fz az f (am_ud (am_ud a 141 ((a 141).set x1.toNat (am_or (am_at (a 141) x1) (f 11738)))) 142 ((a 142).set x1.toNat (am_or (f 11739) 0))) := am_mn_a rfl rfl m108
            have m110 : am_mn fz az f (am_ud (am_ud (am_ud a 141 ((a 141).set x1.toNat (am_or (am_at (a 141) x1) (f 11738)))) 142 ((a 142).set x1.toNat (am_or (f 11739) 0))) 143 ((a 143).set x1.toNat 0)) := am_mn_a rfl rfl m109
            exact am_T.drop (L1 := [(0, .ref 117), (1, am_iv x1)]) (am_ct149_238 hd J107 m110 (show (-2147483648 ≤ x1 ∧ x1 ≤ 2147483647) by omega) (show 0 ≤ x1 by omega) (show x1 ≤ 8 by omega) (show (f 11713) = z11713 by omega) (show (f 11709) = z11709 by omega) (show (f 11718) = z11718 by omega) (show (f 11741) = z11741 by omega) (show (f 11750) = z11750 by omega) (show (f 11753) = z11753 by omega) (show (f 11757) = z11757 by omega) (show (f 11763) = z11763 by omega) (show (f 11701) = z11701 by omega)) (by simp)
          · refine am_raload_n rfl rfl rfl ?_
            refine am_rgetf (S1 := [am_iv (f 11740), am_iv x1, .ref 143]) rfl rfl ?_
            refine am_rif_eq rfl rfl (by unfold am_rg; omega) (fun hc111 => ?_) (fun hc111 => ?_)
            · refine am_riconst rfl ?_
              have i112 : am_ib (a 143) x1 := by unfold am_ib; omega
              have hl113 : am_LR 143 ((a 143).set x1.toNat 0) := am_RS143 (am_RL 143 rfl hI.1.1) (by omega) (by omega)
              refine am_rbastore (l := a 143) (h1 := am_enc f (am_ud (am_ud (am_ud a 141 ((a 141).set x1.toNat (am_or (am_at (a 141) x1) (f 11738)))) 142 ((a 142).set x1.toNat (am_or (f 11739) 0))) 143 ((a 143).set x1.toNat 0)) w e) rfl am_ge143 i112 (by omega) (am_sa143 _) ?_
              have J114 := am_Ra141 hI hl93
              have J115 := am_Ra142 J114 hl100
              have J116 := am_Ra143 J115 hl113
              have m117 : am_mn fz az f (am_ud a 141 ((a 141).set x1.toNat (am_or (am_at (a 141) x1) (f 11738)))) := am_mn_a rfl rfl hp0
              have m118 : am_mn fz az f (am_ud (am_ud a 141 ((a 141).set x1.toNat (am_or (am_at (a 141) x1) (f 11738)))) 142 ((a 142).set x1.toNat (am_or (f 11739) 0))) := am_mn_a rfl rfl m117
              have m119 : am_mn fz az f (am_ud (am_ud (am_ud a 141 ((a 141).set x1.toNat (am_or (am_at (a 141) x1) (f 11738)))) 142 ((a 142).set x1.toNat (am_or (f 11739) 0))) 143 ((a 143).set x1.toNat 0)) := am_mn_a rfl rfl m118
              exact am_T.drop (L1 := [(0, .ref 117), (1, am_iv x1)]) (am_ct149_238 hd J116 m119 (show (-2147483648 ≤ x1 ∧ x1 ≤ 2147483647) by omega) (show 0 ≤ x1 by omega) (show x1 ≤ 8 by omega) (show (f 11713) = z11713 by omega) (show (f 11709) = z11709 by omega) (show (f 11718) = z11718 by omega) (show (f 11741) = z11741 by omega) (show (f 11750) = z11750 by omega) (show (f 11753) = z11753 by omega) (show (f 11757) = z11757 by omega) (show (f 11763) = z11763 by omega) (show (f 11701) = z11701 by omega)) (by simp)
            · refine am_riconst rfl ?_
              refine am_rgoto rfl rfl ?_
              have i120 : am_ib (a 143) x1 := by unfold am_ib; omega
              have hl121 : am_LR 143 ((a 143).set x1.toNat 1) := am_RS143 (am_RL 143 rfl hI.1.1) (by omega) (by omega)
              refine am_rbastore (l := a 143) (h1 := am_enc f (am_ud (am_ud (am_ud a 141 ((a 141).set x1.toNat (am_or (am_at (a 141) x1) (f 11738)))) 142 ((a 142).set x1.toNat (am_or (f 11739) 0))) 143 ((a 143).set x1.toNat 1)) w e) rfl am_ge143 i120 (by omega) (am_sa143 _) ?_
              have J122 := am_Ra141 hI hl93
              have J123 := am_Ra142 J122 hl100
              have J124 := am_Ra143 J123 hl121
              have m125 : am_mn fz az f (am_ud a 141 ((a 141).set x1.toNat (am_or (am_at (a 141) x1) (f 11738)))) := am_mn_a rfl rfl hp0
              have m126 : am_mn fz az f (am_ud (am_ud a 141 ((a 141).set x1.toNat (am_or (am_at (a 141) x1) (f 11738)))) 142 ((a 142).set x1.toNat (am_or (f 11739) 0))) := am_mn_a rfl rfl m125
              have m127 : am_mn fz az f (am_ud (am_ud (am_ud a 141 ((a 141).set x1.toNat (am_or (am_at (a 141) x1) (f 11738)))) 142 ((a 142).set x1.toNat (am_or (f 11739) 0))) 143 ((a 143).set x1.toNat 1)) := am_mn_a rfl rfl m126
              exact am_T.drop (L1 := [(0, .ref 117), (1, am_iv x1)]) (am_ct149_238 hd J124 m127 (show (-2147483648 ≤ x1 ∧ x1 ≤ 2147483647) by omega) (show 0 ≤ x1 by omega) (show x1 ≤ 8 by omega) (show (f 11713) = z11713 by omega) (show (f 11709) = z11709 by omega) (show (f 11718) = z11718 by omega) (show (f 11741) = z11741 by omega) (show (f 11750) = z11750 by omega) (show (f 11753) = z11753 by omega) (show (f 11757) = z11757 by omega) (show (f 11763) = z11763 by omega) (show (f 11701) = z11701 by omega)) (by simp)
        · refine am_raload_n rfl rfl rfl ?_
          refine am_rgetf (S1 := [.ref 142, am_iv (f 11739), am_iv x1, .ref 142]) rfl rfl ?_
          refine am_riload_n rfl rfl rfl ?_
          have q128 : (a 142).length = 9 := am_Rl142 (am_RL 142 rfl hI.1.1)
          have i129 : am_ib (a 142) x1 := by unfold am_ib; omega
          have q130 := am_Rb142 (am_RL 142 rfl hI.1.1) i129
          refine am_riaload (l := a 142) rfl am_ge142 i129 ?_
          refine am_rgoto rfl rfl ?_
          have q131 := am_or_rg (f 11739) (am_at (a 142) x1)
          refine am_rior rfl ?_
          have i132 : am_ib (a 142) x1 := by unfold am_ib; omega
          have hl133 : am_LR 142 ((a 142).set x1.toNat (am_or (f 11739) (am_at (a 142) x1))) := am_RS142 (am_RL 142 rfl hI.1.1) (by omega) (by omega)
          refine am_riastore (l := a 142) (h1 := am_enc f (am_ud (am_ud a 141 ((a 141).set x1.toNat (am_or (am_at (a 141) x1) (f 11738)))) 142 ((a 142).set x1.toNat (am_or (f 11739) (am_at (a 142) x1)))) w e) rfl am_ge142 i132 (am_sa142 _) ?_
          refine am_raload_n rfl rfl rfl ?_
          refine am_rgetf (S1 := [.ref 143]) rfl rfl ?_
          refine am_riload_n rfl rfl rfl ?_
          refine am_raload_n rfl rfl rfl ?_
          refine am_rgetf (S1 := [.ref 143, am_iv x1, .ref 143]) rfl rfl ?_
          refine am_riload_n rfl rfl rfl ?_
          have i134 : am_ib (a 143) x1 := by unfold am_ib; omega
          refine am_rbaload (l := a 143) rfl am_ge143 i134 ?_
          refine am_rif_eq rfl rfl (by unfold am_rg; omega) (fun hc135 => ?_) (fun hc135 => ?_)
          · refine am_riconst rfl ?_
            have i136 : am_ib (a 143) x1 := by unfold am_ib; omega
            have hl137 : am_LR 143 ((a 143).set x1.toNat 0) := am_RS143 (am_RL 143 rfl hI.1.1) (by omega) (by omega)
            refine am_rbastore (l := a 143) (h1 := am_enc f (am_ud (am_ud (am_ud a 141 ((a 141).set x1.toNat (am_or (am_at (a 141) x1) (f 11738)))) 142 ((a 142).set x1.toNat (am_or (f 11739) (am_at (a 142) x1)))) 143 ((a 143).set x1.toNat 0)) w e) rfl am_ge143 i136 (by omega) (am_sa143 _) ?_
            have J138 := am_Ra141 hI hl93
            have J139 := am_Ra142 J138 hl133
            have J140 := am_Ra143 J139 hl137
            have m141 : am_mn fz az f (am_ud a 141 ((a 141).set x1.toNat (am_or (am_at (a 141) x1) (f 11738)))) := am_mn_a rfl rfl hp0
            have m142 : am_mn fz az f (am_ud (am_ud a 141 ((a 141).set x1.toNat (am_or (am_at (a 141) x1) (f 11738)))) 142 ((a 142).set x1.toNat (am_or (f 11739) (am_at (a 142) x1)))) := am_mn_a rfl rfl m141
            have m143 : am_mn fz az f (am_ud (am_ud (am_ud a 141 ((a 141).set x1.toNat (am_or (am_at (a 141) x1) (f 11738)))) 142 ((a 142).set x1.toNat (am_or (f 11739) (am_at (a 142) x1)))) 143 ((a 143).set x1.toNat 0)) := am_mn_a rfl rfl m142
            exact am_T.drop (L1 := [(0, .ref 117), (1, am_iv x1)]) (am_ct149_238 hd J140 m143 (show (-2147483648 ≤ x1 ∧ x1 ≤ 2147483647) by omega) (show 0 ≤ x1 by omega) (show x1 ≤ 8 by omega) (show (f 11713) = z11713 by omega) (show (f 11709) = z11709 by omega) (show (f 11718) = z11718 by omega) (show (f 11741) = z11741 by omega) (show (f 11750) = z11750 by omega) (show (f 11753) = z11753 by omega) (show (f 11757) = z11757 by omega) (show (f 11763) = z11763 by omega) (show (f 11701) = z11701 by omega)) (by simp)
          · refine am_raload_n rfl rfl rfl ?_
            refine am_rgetf (S1 := [am_iv (f 11740), am_iv x1, .ref 143]) rfl rfl ?_
            refine am_rif_eq rfl rfl (by unfold am_rg; omega) (fun hc144 => ?_) (fun hc144 => ?_)
            · refine am_riconst rfl ?_
              have i145 : am_ib (a 143) x1 := by unfold am_ib; omega
              have hl146 : am_LR 143 ((a 143).set x1.toNat 0) := am_RS143 (am_RL 143 rfl hI.1.1) (by omega) (by omega)
              refine am_rbastore (l := a 143) (h1 := am_enc f (am_ud (am_ud (am_ud a 141 ((a 141).set x1.toNat (am_or (am_at (a 141) x1) (f 11738)))) 142 ((a 142).set x1.toNat (am_or (f 11739) (am_at (a 142) x1)))) 143 ((a 143).set x1.toNat 0)) w e) rfl am_ge143 i145 (by omega) (am_sa143 _) ?_
              have J147 := am_Ra141 hI hl93
              have J148 := am_Ra142 J147 hl133
              have J149 := am_Ra143 J148 hl146
              have m150 : am_mn fz az f (am_ud a 141 ((a 141).set x1.toNat (am_or (am_at (a 141) x1) (f 11738)))) := am_mn_a rfl rfl hp0
              have m151 : am_mn fz az f (am_ud (am_ud a 141 ((a 141).set x1.toNat (am_or (am_at (a 141) x1) (f 11738)))) 142 ((a 142).set x1.toNat (am_or (f 11739) (am_at (a 142) x1)))) := am_mn_a rfl rfl m150
              have m152 : am_mn fz az f (am_ud (am_ud (am_ud a 141 ((a 141).set x1.toNat (am_or (am_at (a 141) x1) (f 11738)))) 142 ((a 142).set x1.toNat (am_or (f 11739) (am_at (a 142) x1)))) 143 ((a 143).set x1.toNat 0)) := am_mn_a rfl rfl m151
              exact am_T.drop (L1 := [(0, .ref 117), (1, am_iv x1)]) (am_ct149_238 hd J149 m152 (show (-2147483648 ≤ x1 ∧ x1 ≤ 2147483647) by omega) (show 0 ≤ x1 by omega) (show x1 ≤ 8 by omega) (show (f 11713) = z11713 by omega) (show (f 11709) = z11709 by omega) (show (f 11718) = z11718 by omega) (show (f 11741) = z11741 by omega) (show (f 11750) = z11750 by omega) (show (f 11753) = z11753 by omega) (show (f 11757) = z11757 by omega) (show (f 11763) = z11763 by omega) (show (f 11701) = z11701 by omega)) (by simp)
            · refine am_riconst rfl ?_
              refine am_rgoto rfl rfl ?_
              have i153 : am_ib (a 143) x1 := by unfold am_ib; omega
              have hl154 : am_LR 143 ((a 143).set x1.toNat 1) := am_RS143 (am_RL 143 rfl hI.1.1) (by omega) (by omega)
              refine am_rbastore (l := a 143) (h1 := am_enc f (am_ud (am_ud (am_ud a 141 ((a 141).set x1.toNat (am_or (am_at (a 141) x1) (f 11738)))) 142 ((a 142).set x1.toNat (am_or (f 11739) (am_at (a 142) x1)))) 143 ((a 143).set x1.toNat 1)) w e) rfl am_ge143 i153 (by omega) (am_sa143 _) ?_
              have J155 := am_Ra141 hI hl93
              have J156 := am_Ra142 J155 hl133
              have J157 := am_Ra143 J156 hl154
              have m158 : am_mn fz az f (am_ud a 141 ((a 141).set x1.toNat (am_or (am_at (a 141) x1) (f 11738)))) := am_mn_a rfl rfl hp0
              have m159 : am_mn fz az f (am_ud (am_ud a 141 ((a 141).set x1.toNat (am_or (am_at (a 141) x1) (f 11738)))) 142 ((a 142).set x1.toNat (am_or (f 11739) (am_at (a 142) x1)))) := am_mn_a rfl rfl m158
              have m160 : am_mn fz az f (am_ud (am_ud (am_ud a 141 ((a 141).set x1.toNat (am_or (am_at (a 141) x1) (f 11738)))) 142 ((a 142).set x1.toNat (am_or (f 11739) (am_at (a 142) x1)))) 143 ((a 143).set x1.toNat 1)) := am_mn_a rfl rfl m159
              exact am_T.drop (L1 := [(0, .ref 117), (1, am_iv x1)]) (am_ct149_238 hd J157 m160 (show (-2147483648 ≤ x1 ∧ x1 ≤ 2147483647) by omega) (show 0 ≤ x1 by omega) (show x1 ≤ 8 by omega) (show (f 11713) = z11713 by omega) (show (f 11709) = z11709 by omega) (show (f 11718) = z11718 by omega) (show (f 11741) = z11741 by omega) (show (f 11750) = z11750 by omega) (show (f 11753) = z11753 by omega) (show (f 11757) = z11757 by omega) (show (f 11763) = z11763 by omega) (show (f 11701) = z11701 by omega)) (by simp)
    · refine am_raload_n rfl rfl rfl ?_
      refine am_rgetf (S1 := [.ref 135]) rfl rfl ?_
      refine am_rsipush rfl (by decide) ?_
      refine am_riload_n rfl rfl rfl ?_
      refine am_riadd rfl ?_
      refine am_rdup2 rfl rfl rfl ?_
      have q161 : (a 135).length = 810 := am_Rl135 (am_RL 135 rfl hI.1.1)
      have i162 : am_ib (a 135) (780 + x2) := by unfold am_ib; omega
      have q163 := am_Rb135 (am_RL 135 rfl hI.1.1) i162
      refine am_riaload (l := a 135) rfl am_ge135 i162 ?_
      refine am_raload_n rfl rfl rfl ?_
      refine am_rgetf (S1 := [.ref 142, am_iv (am_at (a 135) (780 + x2)), am_iv (780 + x2), .ref 135]) rfl rfl ?_
      refine am_riload_n rfl rfl rfl ?_
      have q164 : (a 142).length = 9 := am_Rl142 (am_RL 142 rfl hI.1.1)
      have i165 : am_ib (a 142) x1 := by unfold am_ib; omega
      have q166 := am_Rb142 (am_RL 142 rfl hI.1.1) i165
      refine am_riaload (l := a 142) rfl am_ge142 i165 ?_
      refine am_riload_n rfl rfl rfl ?_
      have q167 := am_shr_rg (am_at (a 142) x1) x2
      refine am_rishr rfl ?_
      refine am_riconst rfl ?_
      have q168 := am_and_rg (am_shr (am_at (a 142) x1) x2) 1
      refine am_riand rfl ?_
      refine am_riconst rfl ?_
      refine am_ric_ne rfl rfl (by unfold am_rg; omega) (by unfold am_rg; omega) (fun hc169 => ?_) (fun hc169 => ?_)
      · refine am_riconst rfl ?_
        have q170 := am_or_rg (am_at (a 135) (780 + x2)) 0
        refine am_rior rfl ?_
        have i171 : am_ib (a 135) (780 + x2) := by unfold am_ib; omega
        have hl172 : am_LR 135 ((a 135).set (780 + x2).toNat (am_or (am_at (a 135) (780 + x2)) 0)) := am_RS135 (am_RL 135 rfl hI.1.1) (by omega) (by omega)
        refine am_riastore (l := a 135) (h1 := am_enc f (am_ud a 135 ((a 135).set (780 + x2).toNat (am_or (am_at (a 135) (780 + x2)) 0))) w e) rfl am_ge135 i171 (am_sa135 _) ?_
        refine am_riinc (L1 := [(0, .ref 117), (1, am_iv x1), (2, am_iv (x2 + 1))]) rfl rfl rfl rfl rfl ?_
        refine am_rgoto rfl rfl ?_
        have J173 := am_Ra135 hI hl172
        have m174 : am_mn fz az f (am_ud a 135 ((a 135).set (780 + x2).toNat (am_or (am_at (a 135) (780 + x2)) 0))) := am_mn_a rfl rfl hp0
        exact ih (show (30 - (x2 + 1)).toNat < n by omega) J173 m174 (show (-2147483648 ≤ x1 ∧ x1 ≤ 2147483647) by omega) (show (-2147483648 ≤ (x2 + 1) ∧ (x2 + 1) ≤ 2147483647) by omega) (show 0 ≤ (x2 + 1) by omega) (show 0 ≤ x1 by omega) (show x1 ≤ 8 by omega) (show (f 11713) = z11713 by omega) (show (f 11709) = z11709 by omega) (show (f 11718) = z11718 by omega) (show (f 11741) = z11741 by omega) (show (f 11750) = z11750 by omega) (show (f 11753) = z11753 by omega) (show (f 11757) = z11757 by omega) (show (f 11763) = z11763 by omega) (show (f 11701) = z11701 by omega)
      · refine am_raload_n rfl rfl rfl ?_
        have q175 := am_Rg11738 hI.1.1
        refine am_rgetf (S1 := [am_iv (f 11738), am_iv (am_at (a 135) (780 + x2)), am_iv (780 + x2), .ref 135]) rfl rfl ?_
        refine am_rgoto rfl rfl ?_
        have q176 := am_or_rg (am_at (a 135) (780 + x2)) (f 11738)
        refine am_rior rfl ?_
        have i177 : am_ib (a 135) (780 + x2) := by unfold am_ib; omega
        have hl178 : am_LR 135 ((a 135).set (780 + x2).toNat (am_or (am_at (a 135) (780 + x2)) (f 11738))) := am_RS135 (am_RL 135 rfl hI.1.1) (by omega) (by omega)
        refine am_riastore (l := a 135) (h1 := am_enc f (am_ud a 135 ((a 135).set (780 + x2).toNat (am_or (am_at (a 135) (780 + x2)) (f 11738)))) w e) rfl am_ge135 i177 (am_sa135 _) ?_
        refine am_riinc (L1 := [(0, .ref 117), (1, am_iv x1), (2, am_iv (x2 + 1))]) rfl rfl rfl rfl rfl ?_
        refine am_rgoto rfl rfl ?_
        have J179 := am_Ra135 hI hl178
        have m180 : am_mn fz az f (am_ud a 135 ((a 135).set (780 + x2).toNat (am_or (am_at (a 135) (780 + x2)) (f 11738)))) := am_mn_a rfl rfl hp0
        exact ih (show (30 - (x2 + 1)).toNat < n by omega) J179 m180 (show (-2147483648 ≤ x1 ∧ x1 ≤ 2147483647) by omega) (show (-2147483648 ≤ (x2 + 1) ∧ (x2 + 1) ≤ 2147483647) by omega) (show 0 ≤ (x2 + 1) by omega) (show 0 ≤ x1 by omega) (show x1 ≤ 8 by omega) (show (f 11713) = z11713 by omega) (show (f 11709) = z11709 by omega) (show (f 11718) = z11718 by omega) (show (f 11741) = z11741 by omega) (show (f 11750) = z11750 by omega) (show (f 11753) = z11753 by omega) (show (f 11757) = z11757 by omega) (show (f 11763) = z11763 by omega) (show (f 11701) = z11701 by omega)
set_option maxRecDepth 100000 in
set_option maxHeartbeats 4000000 in
theorem am_ct149 {X : List Value} {w : Value} {e : Nat} {g : aF} {h : aA} {E : Nat → aF → aA → Prop} {d : Nat} {y1 : Int} {f : aF} {a : aA} (hd : 1 ≤ d) (hI : am_RV g h f a) (hp0 : (-2147483648 ≤ y1 ∧ y1 ≤ 2147483647)) (hp1 : 0 ≤ y1) (hp2 : y1 ≤ 8) :
    am_TE X d am_m148 0 (lv_args 0 [.ref 117, am_iv y1]) [] f a w e (am_QV (fun f1 a1 => am_RV g h f1 a1 ∧ am_mn f a f1 a1 ∧ f1 11713 = (f 11713) ∧ f1 11709 = (f 11709) ∧ f1 11718 = (f 11718) ∧ f1 11741 = (f 11741) ∧ f1 11750 = (f 11750) ∧ f1 11753 = (f 11753) ∧ f1 11757 = (f 11757) ∧ f1 11763 = (f 11763) ∧ f1 11701 = (f 11701))) E := by
  obtain ⟨d, rfl⟩ : ∃ d0, d = d0 + 1 := ⟨d - 1, by omega⟩
  have q1 := am_RV_ph hI
  have q2 := am_RV_p0 hI
  refine am_raload_n rfl rfl rfl ?_
  refine am_rgetf (S1 := [.ref 144]) rfl rfl ?_
  refine am_riload_n rfl rfl rfl ?_
  have q3 : (a 144).length = 9 := am_Rl144 (am_RL 144 rfl hI.1.1)
  have i4 : am_ib (a 144) y1 := by unfold am_ib; omega
  have q5 := am_Rb144 (am_RL 144 rfl hI.1.1) i4
  refine am_rbaload (l := a 144) rfl am_ge144 i4 ?_
  refine am_rif_ne rfl rfl (by unfold am_rg; omega) (fun hc6 => ?_) (fun hc6 => ?_)
  · refine am_raload_n rfl rfl rfl ?_
    refine am_rgetf (S1 := [.ref 140]) rfl rfl ?_
    refine am_riload_n rfl rfl rfl ?_
    have q7 : (a 140).length = 9 := am_Rl140 (am_RL 140 rfl hI.1.1)
    have i8 : am_ib (a 140) y1 := by unfold am_ib; omega
    have q9 := am_Rb140 (am_RL 140 rfl hI.1.1) i8
    refine am_riaload (l := a 140) rfl am_ge140 i8 ?_
    refine am_riconst rfl ?_
    refine am_ric_ne rfl rfl (by unfold am_rg; omega) (by unfold am_rg; omega) (fun hc10 => ?_) (fun hc10 => ?_)
    · refine am_riconst rfl ?_
      refine am_ristore_n (L1 := [(0, .ref 117), (1, am_iv y1), (2, am_iv 0)]) rfl rfl rfl rfl rfl ?_
      have q11 := am_Rg11701 hI.1.1
      have q12 := am_Rg11713 hI.1.1
      have q13 := am_Rg11709 hI.1.1
      have q14 := am_Rg11718 hI.1.1
      have q15 := am_Rg11741 hI.1.1
      have q16 := am_Rg11750 hI.1.1
      have q17 := am_Rg11753 hI.1.1
      have q18 := am_Rg11757 hI.1.1
      have q19 := am_Rg11763 hI.1.1
      exact am_ct149_110 hd (_ + 1) (Nat.lt_succ_self _) hI (am_mn.refl f a) (by omega) (by omega) (by omega) (by omega) (by omega) (by omega) (by omega) (by omega) (by omega) (by omega) (by omega) (by omega) (by omega) (by omega)
    · refine am_raload_n rfl rfl rfl ?_
      refine am_rgetf (S1 := [.ref 141]) rfl rfl ?_
      refine am_riload_n rfl rfl rfl ?_
      refine am_rdup2 rfl rfl rfl ?_
      have q20 : (a 141).length = 9 := am_Rl141 (am_RL 141 rfl hI.1.1)
      have i21 : am_ib (a 141) y1 := by unfold am_ib; omega
      have q22 := am_Rb141 (am_RL 141 rfl hI.1.1) i21
      refine am_riaload (l := a 141) rfl am_ge141 i21 ?_
      refine am_raload_n rfl rfl rfl ?_
      have q23 := am_Rg11738 hI.1.1
      refine am_rgetf (S1 := [am_iv (f 11738), am_iv (am_at (a 141) y1), am_iv y1, .ref 141]) rfl rfl ?_
      have q24 := am_or_rg (am_at (a 141) y1) (f 11738)
      refine am_rior rfl ?_
      have i25 : am_ib (a 141) y1 := by unfold am_ib; omega
      have hl26 : am_LR 141 ((a 141).set y1.toNat (am_or (am_at (a 141) y1) (f 11738))) := am_RS141 (am_RL 141 rfl hI.1.1) (by omega) (by omega)
      refine am_riastore (l := a 141) (h1 := am_enc f (am_ud a 141 ((a 141).set y1.toNat (am_or (am_at (a 141) y1) (f 11738)))) w e) rfl am_ge141 i25 (am_sa141 _) ?_
      refine am_raload_n rfl rfl rfl ?_
      refine am_rgetf (S1 := [.ref 142]) rfl rfl ?_
      refine am_riload_n rfl rfl rfl ?_
      refine am_rdup2 rfl rfl rfl ?_
      have q27 : (a 142).length = 9 := am_Rl142 (am_RL 142 rfl hI.1.1)
      have i28 : am_ib (a 142) y1 := by unfold am_ib; omega
      have q29 := am_Rb142 (am_RL 142 rfl hI.1.1) i28
      refine am_riaload (l := a 142) rfl am_ge142 i28 ?_
      refine am_raload_n rfl rfl rfl ?_
      have q30 := am_Rg11739 hI.1.1
      refine am_rgetf (S1 := [am_iv (f 11739), am_iv (am_at (a 142) y1), am_iv y1, .ref 142]) rfl rfl ?_
      have q31 := am_or_rg (am_at (a 142) y1) (f 11739)
      refine am_rior rfl ?_
      have i32 : am_ib (a 142) y1 := by unfold am_ib; omega
      have hl33 : am_LR 142 ((a 142).set y1.toNat (am_or (am_at (a 142) y1) (f 11739))) := am_RS142 (am_RL 142 rfl hI.1.1) (by omega) (by omega)
      refine am_riastore (l := a 142) (h1 := am_enc f (am_ud (am_ud a 141 ((a 141).set y1.toNat (am_or (am_at (a 141) y1) (f 11738)))) 142 ((a 142).set y1.toNat (am_or (am_at (a 142) y1) (f 11739)))) w e) rfl am_ge142 i32 (am_sa142 _) ?_
      refine am_raload_n rfl rfl rfl ?_
      refine am_rgetf (S1 := [.ref 143]) rfl rfl ?_
      refine am_riload_n rfl rfl rfl ?_
      refine am_raload_n rfl rfl rfl ?_
      refine am_rgetf (S1 := [.ref 143, am_iv y1, .ref 143]) rfl rfl ?_
      refine am_riload_n rfl rfl rfl ?_
      have q34 : (a 143).length = 9 := am_Rl143 (am_RL 143 rfl hI.1.1)
      have i35 : am_ib (a 143) y1 := by unfold am_ib; omega
      have q36 := am_Rb143 (am_RL 143 rfl hI.1.1) i35
      refine am_rbaload (l := a 143) rfl am_ge143 i35 ?_
      refine am_rif_ne rfl rfl (by unfold am_rg; omega) (fun hc37 => ?_) (fun hc37 => ?_)
      · refine am_riconst rfl ?_
        refine am_rgoto rfl rfl ?_
        have i38 : am_ib (a 143) y1 := by unfold am_ib; omega
        have hl39 : am_LR 143 ((a 143).set y1.toNat 1) := am_RS143 (am_RL 143 rfl hI.1.1) (by omega) (by omega)
        refine am_rbastore (l := a 143) (h1 := am_enc f (am_ud (am_ud (am_ud a 141 ((a 141).set y1.toNat (am_or (am_at (a 141) y1) (f 11738)))) 142 ((a 142).set y1.toNat (am_or (am_at (a 142) y1) (f 11739)))) 143 ((a 143).set y1.toNat 1)) w e) rfl am_ge143 i38 (by omega) (am_sa143 _) ?_
        refine am_rgoto rfl rfl ?_
        have q40 := am_Rg11701 hI.1.1
        have J41 := am_Ra141 hI hl26
        have J42 := am_Ra142 J41 hl33
        have J43 := am_Ra143 J42 hl39
        have m44 : am_mn f a f (am_ud a 141 ((a 141).set y1.toNat (am_or (am_at (a 141) y1) (f 11738)))) := am_mn_a rfl rfl (am_mn.refl f a)
        have m45 : am_mn f a f (am_ud (am_ud a 141 ((a 141).set y1.toNat (am_or (am_at (a 141) y1) (f 11738)))) 142 ((a 142).set y1.toNat (am_or (am_at (a 142) y1) (f 11739)))) := am_mn_a rfl rfl m44
        have m46 : am_mn f a f (am_ud (am_ud (am_ud a 141 ((a 141).set y1.toNat (am_or (am_at (a 141) y1) (f 11738)))) 142 ((a 142).set y1.toNat (am_or (am_at (a 142) y1) (f 11739)))) 143 ((a 143).set y1.toNat 1)) := am_mn_a rfl rfl m45
        have q47 := am_Rg11713 hI.1.1
        have q48 := am_Rg11709 hI.1.1
        have q49 := am_Rg11718 hI.1.1
        have q50 := am_Rg11741 hI.1.1
        have q51 := am_Rg11750 hI.1.1
        have q52 := am_Rg11753 hI.1.1
        have q53 := am_Rg11757 hI.1.1
        have q54 := am_Rg11763 hI.1.1
        exact am_ct149_238 hd J43 m46 (show (-2147483648 ≤ y1 ∧ y1 ≤ 2147483647) by omega) (show 0 ≤ y1 by omega) (show y1 ≤ 8 by omega) (show (f 11713) = (f 11713) by omega) (show (f 11709) = (f 11709) by omega) (show (f 11718) = (f 11718) by omega) (show (f 11741) = (f 11741) by omega) (show (f 11750) = (f 11750) by omega) (show (f 11753) = (f 11753) by omega) (show (f 11757) = (f 11757) by omega) (show (f 11763) = (f 11763) by omega) (show (f 11701) = (f 11701) by omega)
      · refine am_raload_n rfl rfl rfl ?_
        have q55 := am_Rg11740 hI.1.1
        refine am_rgetf (S1 := [am_iv (f 11740), am_iv y1, .ref 143]) rfl rfl ?_
        refine am_rif_eq rfl rfl (by unfold am_rg; omega) (fun hc56 => ?_) (fun hc56 => ?_)
        · refine am_riconst rfl ?_
          have i57 : am_ib (a 143) y1 := by unfold am_ib; omega
          have hl58 : am_LR 143 ((a 143).set y1.toNat 0) := am_RS143 (am_RL 143 rfl hI.1.1) (by omega) (by omega)
          refine am_rbastore (l := a 143) (h1 := am_enc f (am_ud (am_ud (am_ud a 141 ((a 141).set y1.toNat (am_or (am_at (a 141) y1) (f 11738)))) 142 ((a 142).set y1.toNat (am_or (am_at (a 142) y1) (f 11739)))) 143 ((a 143).set y1.toNat 0)) w e) rfl am_ge143 i57 (by omega) (am_sa143 _) ?_
          refine am_rgoto rfl rfl ?_
          have q59 := am_Rg11701 hI.1.1
          have J60 := am_Ra141 hI hl26
          have J61 := am_Ra142 J60 hl33
          have J62 := am_Ra143 J61 hl58
          have m63 : am_mn f a f (am_ud a 141 ((a 141).set y1.toNat (am_or (am_at (a 141) y1) (f 11738)))) := am_mn_a rfl rfl (am_mn.refl f a)
          have m64 : am_mn f a f (am_ud (am_ud a 141 ((a 141).set y1.toNat (am_or (am_at (a 141) y1) (f 11738)))) 142 ((a 142).set y1.toNat (am_or (am_at (a 142) y1) (f 11739)))) := am_mn_a rfl rfl m63
          have m65 : am_mn f a f (am_ud (am_ud (am_ud a 141 ((a 141).set y1.toNat (am_or (am_at (a 141) y1) (f 11738)))) 142 ((a 142).set y1.toNat (am_or (am_at (a 142) y1) (f 11739)))) 143 ((a 143).set y1.toNat 0)) := am_mn_a rfl rfl m64
          have q66 := am_Rg11713 hI.1.1
          have q67 := am_Rg11709 hI.1.1
          have q68 := am_Rg11718 hI.1.1
          have q69 := am_Rg11741 hI.1.1
          have q70 := am_Rg11750 hI.1.1
          have q71 := am_Rg11753 hI.1.1
          have q72 := am_Rg11757 hI.1.1
          have q73 := am_Rg11763 hI.1.1
          exact am_ct149_238 hd J62 m65 (show (-2147483648 ≤ y1 ∧ y1 ≤ 2147483647) by omega) (show 0 ≤ y1 by omega) (show y1 ≤ 8 by omega) (show (f 11713) = (f 11713) by omega) (show (f 11709) = (f 11709) by omega) (show (f 11718) = (f 11718) by omega) (show (f 11741) = (f 11741) by omega) (show (f 11750) = (f 11750) by omega) (show (f 11753) = (f 11753) by omega) (show (f 11757) = (f 11757) by omega) (show (f 11763) = (f 11763) by omega) (show (f 11701) = (f 11701) by omega)
        · refine am_riconst rfl ?_
          refine am_rgoto rfl rfl ?_
          have i74 : am_ib (a 143) y1 := by unfold am_ib; omega
          have hl75 : am_LR 143 ((a 143).set y1.toNat 1) := am_RS143 (am_RL 143 rfl hI.1.1) (by omega) (by omega)
          refine am_rbastore (l := a 143) (h1 := am_enc f (am_ud (am_ud (am_ud a 141 ((a 141).set y1.toNat (am_or (am_at (a 141) y1) (f 11738)))) 142 ((a 142).set y1.toNat (am_or (am_at (a 142) y1) (f 11739)))) 143 ((a 143).set y1.toNat 1)) w e) rfl am_ge143 i74 (by omega) (am_sa143 _) ?_
          refine am_rgoto rfl rfl ?_
          have q76 := am_Rg11701 hI.1.1
          have J77 := am_Ra141 hI hl26
          have J78 := am_Ra142 J77 hl33
          have J79 := am_Ra143 J78 hl75
          have m80 : am_mn f a f (am_ud a 141 ((a 141).set y1.toNat (am_or (am_at (a 141) y1) (f 11738)))) := am_mn_a rfl rfl (am_mn.refl f a)
          have m81 : am_mn f a f (am_ud (am_ud a 141 ((a 141).set y1.toNat (am_or (am_at (a 141) y1) (f 11738)))) 142 ((a 142).set y1.toNat (am_or (am_at (a 142) y1) (f 11739)))) := am_mn_a rfl rfl m80
          have m82 : am_mn f a f (am_ud (am_ud (am_ud a 141 ((a 141).set y1.toNat (am_or (am_at (a 141) y1) (f 11738)))) 142 ((a 142).set y1.toNat (am_or (am_at (a 142) y1) (f 11739)))) 143 ((a 143).set y1.toNat 1)) := am_mn_a rfl rfl m81
          have q83 := am_Rg11713 hI.1.1
          have q84 := am_Rg11709 hI.1.1
          have q85 := am_Rg11718 hI.1.1
          have q86 := am_Rg11741 hI.1.1
          have q87 := am_Rg11750 hI.1.1
          have q88 := am_Rg11753 hI.1.1
          have q89 := am_Rg11757 hI.1.1
          have q90 := am_Rg11763 hI.1.1
          exact am_ct149_238 hd J79 m82 (show (-2147483648 ≤ y1 ∧ y1 ≤ 2147483647) by omega) (show 0 ≤ y1 by omega) (show y1 ≤ 8 by omega) (show (f 11713) = (f 11713) by omega) (show (f 11709) = (f 11709) by omega) (show (f 11718) = (f 11718) by omega) (show (f 11741) = (f 11741) by omega) (show (f 11750) = (f 11750) by omega) (show (f 11753) = (f 11753) by omega) (show (f 11757) = (f 11757) by omega) (show (f 11763) = (f 11763) by omega) (show (f 11701) = (f 11701) by omega)
  · refine am_raload_n rfl rfl rfl ?_
    refine am_rgetf (S1 := [.ref 141]) rfl rfl ?_
    refine am_riload_n rfl rfl rfl ?_
    refine am_raload_n rfl rfl rfl ?_
    have q91 := am_Rg11738 hI.1.1
    refine am_rgetf (S1 := [am_iv (f 11738), am_iv y1, .ref 141]) rfl rfl ?_
    have q92 : (a 141).length = 9 := am_Rl141 (am_RL 141 rfl hI.1.1)
    have i93 : am_ib (a 141) y1 := by unfold am_ib; omega
    have hl94 : am_LR 141 ((a 141).set y1.toNat (f 11738)) := am_RS141 (am_RL 141 rfl hI.1.1) (by omega) (by omega)
    refine am_riastore (l := a 141) (h1 := am_enc f (am_ud a 141 ((a 141).set y1.toNat (f 11738))) w e) rfl am_ge141 i93 (am_sa141 _) ?_
    refine am_raload_n rfl rfl rfl ?_
    refine am_rgetf (S1 := [.ref 142]) rfl rfl ?_
    refine am_riload_n rfl rfl rfl ?_
    refine am_raload_n rfl rfl rfl ?_
    have q95 := am_Rg11739 hI.1.1
    refine am_rgetf (S1 := [am_iv (f 11739), am_iv y1, .ref 142]) rfl rfl ?_
    have q96 : (a 142).length = 9 := am_Rl142 (am_RL 142 rfl hI.1.1)
    have i97 : am_ib (a 142) y1 := by unfold am_ib; omega
    have hl98 : am_LR 142 ((a 142).set y1.toNat (f 11739)) := am_RS142 (am_RL 142 rfl hI.1.1) (by omega) (by omega)
    refine am_riastore (l := a 142) (h1 := am_enc f (am_ud (am_ud a 141 ((a 141).set y1.toNat (f 11738))) 142 ((a 142).set y1.toNat (f 11739))) w e) rfl am_ge142 i97 (am_sa142 _) ?_
    refine am_raload_n rfl rfl rfl ?_
    refine am_rgetf (S1 := [.ref 143]) rfl rfl ?_
    refine am_riload_n rfl rfl rfl ?_
    refine am_raload_n rfl rfl rfl ?_
    have q99 := am_Rg11740 hI.1.1
    refine am_rgetf (S1 := [am_iv (f 11740), am_iv y1, .ref 143]) rfl rfl ?_
    have q100 : (a 143).length = 9 := am_Rl143 (am_RL 143 rfl hI.1.1)
    have i101 : am_ib (a 143) y1 := by unfold am_ib; omega
    have hl102 : am_LR 143 ((a 143).set y1.toNat (f 11740)) := am_RS143 (am_RL 143 rfl hI.1.1) (by omega) (by omega)
    refine am_rbastore (l := a 143) (h1 := am_enc f (am_ud (am_ud (am_ud a 141 ((a 141).set y1.toNat (f 11738))) 142 ((a 142).set y1.toNat (f 11739))) 143 ((a 143).set y1.toNat (f 11740))) w e) rfl am_ge143 i101 (by omega) (am_sa143 _) ?_
    refine am_rgoto rfl rfl ?_
    have q103 := am_Rg11701 hI.1.1
    have J104 := am_Ra141 hI hl94
    have J105 := am_Ra142 J104 hl98
    have J106 := am_Ra143 J105 hl102
    have m107 : am_mn f a f (am_ud a 141 ((a 141).set y1.toNat (f 11738))) := am_mn_a rfl rfl (am_mn.refl f a)
    have m108 : am_mn f a f (am_ud (am_ud a 141 ((a 141).set y1.toNat (f 11738))) 142 ((a 142).set y1.toNat (f 11739))) := am_mn_a rfl rfl m107
    have m109 : am_mn f a f (am_ud (am_ud (am_ud a 141 ((a 141).set y1.toNat (f 11738))) 142 ((a 142).set y1.toNat (f 11739))) 143 ((a 143).set y1.toNat (f 11740))) := am_mn_a rfl rfl m108
    have q110 := am_Rg11713 hI.1.1
    have q111 := am_Rg11709 hI.1.1
    have q112 := am_Rg11718 hI.1.1
    have q113 := am_Rg11741 hI.1.1
    have q114 := am_Rg11750 hI.1.1
    have q115 := am_Rg11753 hI.1.1
    have q116 := am_Rg11757 hI.1.1
    have q117 := am_Rg11763 hI.1.1
    exact am_ct149_238 hd J106 m109 (show (-2147483648 ≤ y1 ∧ y1 ≤ 2147483647) by omega) (show 0 ≤ y1 by omega) (show y1 ≤ 8 by omega) (show (f 11713) = (f 11713) by omega) (show (f 11709) = (f 11709) by omega) (show (f 11718) = (f 11718) by omega) (show (f 11741) = (f 11741) by omega) (show (f 11750) = (f 11750) by omega) (show (f 11753) = (f 11753) by omega) (show (f 11757) = (f 11757) by omega) (show (f 11763) = (f 11763) by omega) (show (f 11701) = (f 11701) by omega)
set_option maxRecDepth 100000 in
set_option maxHeartbeats 4000000 in
theorem am_ct153_L4 {X : List Value} {w : Value} {e : Nat} {g : aF} {h : aA} {E : Nat → aF → aA → Prop} {d : Nat} {z11713 : Int} {z11709 : Int} {z11718 : Int} {z11741 : Int} {z11750 : Int} {z11753 : Int} {z11757 : Int} {z11763 : Int} {fz : aF} {az : aA} (hd : 3 ≤ d + 1) (n : Nat) :
    (∀ {f : aF} {a : aA} {x2 : Int} {x3 : Int}, (40 * (8 * (3500 - am_ph f a) + 3 - f 11701)).toNat < n → am_RV g h f a → am_mn fz az f a → (-2147483648 ≤ x2 ∧ x2 ≤ 2147483647) → (-2147483648 ≤ x3 ∧ x3 ≤ 2147483647) → 0 ≤ x2 → x2 ≤ 8 → (x3 = 0 ∨ x3 = 1) → f 11713 = z11713 → f 11709 = z11709 → f 11718 = z11718 → f 11741 = z11741 → f 11750 = z11750 → f 11753 = z11753 → f 11757 = z11757 → f 11763 = z11763 → am_TE X (d + 1) am_m152 4 [(0, .ref 117), (2, am_iv x2), (3, am_iv x3)] [] f a w e (am_QI (fun b f1 a1 => am_RV g h f1 a1 ∧ am_mn fz az f1 a1 ∧ (-2147483648 ≤ b ∧ b ≤ 2147483647) ∧ f1 11713 = z11713 ∧ f1 11709 = z11709 ∧ f1 11718 = z11718 ∧ f1 11741 = z11741 ∧ f1 11750 = z11750 ∧ f1 11753 = z11753 ∧ f1 11757 = z11757 ∧ f1 11763 = z11763 ∧ (0 ≤ b ∧ b ≤ 8))) E) ∧ (∀ {f : aF} {a : aA} {x2 : Int} {x3 : Int} {x5 : Int}, (40 * (8 * (3500 - am_ph f a) + 3 - f 11701) - 1 + 10 * f 11701).toNat < n → am_RV g h f a → am_mn fz az f a → (-2147483648 ≤ x2 ∧ x2 ≤ 2147483647) → (-2147483648 ≤ x3 ∧ x3 ≤ 2147483647) → (-2147483648 ≤ x5 ∧ x5 ≤ 2147483647) → 0 ≤ x2 → x2 ≤ 8 → (x3 = 0 ∨ x3 = 1) → (f 11701 = 0 → am_at (a 124) (f 11713) < am_at (a 125) (f 11713)) → 1 ≤ x2 → f 11713 = z11713 → f 11709 = z11709 → f 11718 = z11718 → f 11741 = z11741 → f 11750 = z11750 → f 11753 = z11753 → f 11757 = z11757 → f 11763 = z11763 → am_TE X (d + 1) am_m152 107 [(0, .ref 117), (2, am_iv x2), (3, am_iv x3), (5, am_iv x5)] [] f a w e (am_QI (fun b f1 a1 => am_RV g h f1 a1 ∧ am_mn fz az f1 a1 ∧ (-2147483648 ≤ b ∧ b ≤ 2147483647) ∧ f1 11713 = z11713 ∧ f1 11709 = z11709 ∧ f1 11718 = z11718 ∧ f1 11741 = z11741 ∧ f1 11750 = z11750 ∧ f1 11753 = z11753 ∧ f1 11757 = z11757 ∧ f1 11763 = z11763 ∧ (0 ≤ b ∧ b ≤ 8))) E) ∧ (∀ {f : aF} {a : aA} {x2 : Int} {x3 : Int}, (40 * (8 * (3500 - am_ph f a) + 3 - f 11701) - 2 + 10 * f 11701).toNat < n → am_RV g h f a → am_mn fz az f a → (-2147483648 ≤ x2 ∧ x2 ≤ 2147483647) → (-2147483648 ≤ x3 ∧ x3 ≤ 2147483647) → 0 ≤ x2 → x2 ≤ 8 → (x3 = 0 ∨ x3 = 1) → (f 11701 = 0 → am_at (a 124) (f 11713) < am_at (a 125) (f 11713)) → 1 ≤ x2 → f 11713 = z11713 → f 11709 = z11709 → f 11718 = z11718 → f 11741 = z11741 → f 11750 = z11750 → f 11753 = z11753 → f 11757 = z11757 → f 11763 = z11763 → am_TE X (d + 1) am_m152 127 [(0, .ref 117), (2, am_iv x2), (3, am_iv x3)] [] f a w e (am_QI (fun b f1 a1 => am_RV g h f1 a1 ∧ am_mn fz az f1 a1 ∧ (-2147483648 ≤ b ∧ b ≤ 2147483647) ∧ f1 11713 = z11713 ∧ f1 11709 = z11709 ∧ f1 11718 = z11718 ∧ f1 11741 = z11741 ∧ f1 11750 = z11750 ∧ f1 11753 = z11753 ∧ f1 11757 = z11757 ∧ f1 11763 = z11763 ∧ (0 ≤ b ∧ b ≤ 8))) E) ∧ (∀ {f : aF} {a : aA} {x2 : Int} {x3 : Int}, (40 * (8 * (3500 - am_ph f a) + 3 - f 11701) + 1 + 5 * f 11701).toNat < n → am_RV g h f a → am_mn fz az f a → (-2147483648 ≤ x2 ∧ x2 ≤ 2147483647) → (-2147483648 ≤ x3 ∧ x3 ≤ 2147483647) → 0 ≤ x2 → x2 ≤ 8 → (x3 = 0 ∨ x3 = 1) → 1 ≤ x2 → f 11713 = z11713 → f 11709 = z11709 → f 11718 = z11718 → f 11741 = z11741 → f 11750 = z11750 → f 11753 = z11753 → f 11757 = z11757 → f 11763 = z11763 → am_TE X (d + 1) am_m152 138 [(0, .ref 117), (2, am_iv x2), (3, am_iv x3)] [] f a w e (am_QI (fun b f1 a1 => am_RV g h f1 a1 ∧ am_mn fz az f1 a1 ∧ (-2147483648 ≤ b ∧ b ≤ 2147483647) ∧ f1 11713 = z11713 ∧ f1 11709 = z11709 ∧ f1 11718 = z11718 ∧ f1 11741 = z11741 ∧ f1 11750 = z11750 ∧ f1 11753 = z11753 ∧ f1 11757 = z11757 ∧ f1 11763 = z11763 ∧ (0 ≤ b ∧ b ≤ 8))) E) := by
  induction n with
  | zero => refine ⟨?_, ?_, ?_, ?_⟩ <;> intros <;> omega
  | succ n ih =>
    refine ⟨?_, ?_, ?_, ?_⟩
    · intro f a x2 x3 hn hI hp0 hp1 hp2 hp3 hp4 hp5 hp6 hp7 hp8 hp9 hp10 hp11 hp12 hp13
      have q1 := am_RV_ph hI
      have q2 := am_RV_p0 hI
      have q3 := am_Rg11713 hI.1.1
      have q4 := am_Rg11709 hI.1.1
      have q5 := am_Rg11718 hI.1.1
      have q6 := am_Rg11741 hI.1.1
      have q7 := am_Rg11750 hI.1.1
      have q8 := am_Rg11753 hI.1.1
      have q9 := am_Rg11757 hI.1.1
      have q10 := am_Rg11763 hI.1.1
      have q11 := am_Rg11701 hI.1.1
      refine am_riload_n rfl rfl rfl ?_
      refine am_rif_eq rfl rfl (by unfold am_rg; omega) (fun hc12 => ?_) (fun hc12 => ?_)
      · refine am_riload_n rfl rfl rfl ?_
        exact am_eiret rfl rfl ⟨hI, hp0, (show (-2147483648 ≤ x2 ∧ x2 ≤ 2147483647) by omega), (show f 11713 = z11713 by omega), (show f 11709 = z11709 by omega), (show f 11718 = z11718 by omega), (show f 11741 = z11741 by omega), (show f 11750 = z11750 by omega), (show f 11753 = z11753 by omega), (show f 11757 = z11757 by omega), (show f 11763 = z11763 by omega), (show (0 ≤ x2 ∧ x2 ≤ 8) by omega)⟩
      · refine am_raload_n rfl rfl rfl ?_
        refine am_rgetf (S1 := [am_iv (f 11701)]) rfl rfl ?_
        refine am_rif_ne rfl rfl (by unfold am_rg; omega) (fun hc13 => ?_) (fun hc13 => ?_)
        · refine am_riload_n rfl rfl rfl ?_
          exact am_eiret rfl rfl ⟨hI, hp0, (show (-2147483648 ≤ x2 ∧ x2 ≤ 2147483647) by omega), (show f 11713 = z11713 by omega), (show f 11709 = z11709 by omega), (show f 11718 = z11718 by omega), (show f 11741 = z11741 by omega), (show f 11750 = z11750 by omega), (show f 11753 = z11753 by omega), (show f 11757 = z11757 by omega), (show f 11763 = z11763 by omega), (show (0 ≤ x2 ∧ x2 ≤ 8) by omega)⟩
        · refine am_raload_n rfl rfl rfl ?_
          refine am_evirtualV (m := am_m147) (As := [.ref 117]) (S1 := []) rfl rfl rfl rfl rfl rfl rfl rfl rfl rfl (am_TE.void (am_ct148  (by omega) hI) (fun f14 a14 hq15 => ?_) (fun _ _ _ h => h))
          obtain ⟨hI16, hk17, hq15⟩ := hq15
          replace hq15 : f14 11713 = ((f 11713)) ∧ f14 11709 = ((f 11709)) ∧ f14 11718 = ((f 11718)) ∧ f14 11741 = ((f 11741)) ∧ f14 11750 = ((f 11750)) ∧ f14 11753 = ((f 11753)) ∧ f14 11757 = ((f 11757)) ∧ f14 11763 = ((f 11763)) := hq15
          have mm18 : f 11701 ≤ f14 11701 ∧ am_ph f a ≤ am_ph f14 a14 ∧ am_at (a 124) 0 ≤ am_at (a14 124) 0 ∧ am_at (a14 125) 0 = am_at (a 125) 0 := hk17
          have hm19 := am_mn.trans hp0 hk17
          refine am_riload_n rfl rfl rfl ?_
          refine am_rif_ne rfl rfl (by unfold am_rg; omega) (fun hc20 => ?_) (fun hc20 => ?_)
          · refine am_raload_n rfl rfl rfl ?_
            refine am_riload_n rfl rfl rfl ?_
            refine am_evirtualV (m := am_m148) (As := [.ref 117, am_iv x2]) (S1 := []) rfl rfl rfl rfl rfl rfl rfl rfl rfl rfl (am_TE.void (am_ct149 (y1 := x2) (by omega) hI16 (by omega) (show 0 ≤ x2 by omega) (show x2 ≤ 8 by omega)) (fun f21 a21 hq22 => ?_) (fun _ _ _ h => h))
            obtain ⟨hI23, hk24, hq22⟩ := hq22
            replace hq22 : f21 11713 = ((f14 11713)) ∧ f21 11709 = ((f14 11709)) ∧ f21 11718 = ((f14 11718)) ∧ f21 11741 = ((f14 11741)) ∧ f21 11750 = ((f14 11750)) ∧ f21 11753 = ((f14 11753)) ∧ f21 11757 = ((f14 11757)) ∧ f21 11763 = ((f14 11763)) ∧ f21 11701 = ((f14 11701)) := hq22
            have mm25 : f14 11701 ≤ f21 11701 ∧ am_ph f14 a14 ≤ am_ph f21 a21 ∧ am_at (a14 124) 0 ≤ am_at (a21 124) 0 ∧ am_at (a21 125) 0 = am_at (a14 125) 0 := hk24
            have hm26 := am_mn.trans hm19 hk24
            refine am_raload_n rfl rfl rfl ?_
            refine am_evirtualI (m := am_m125) (As := [.ref 117]) (S1 := []) rfl rfl rfl rfl rfl rfl rfl rfl rfl rfl (am_TE.int (am_ct126  (by omega) hI23) (fun b27 f27 a27 hq28 => ?_) (fun _ _ _ h => h))
            obtain ⟨hI29, hk30, hq28⟩ := hq28
            replace hq28 : (b27 = 0 ∨ b27 = 1) ∧ f27 11701 = ((f21 11701)) ∧ f27 11713 = ((f21 11713)) ∧ f27 11701 ≤ 3 - 3 * b27 ∧ (am_ph f21 a21 ) + b27 ≤ am_ph f27 a27 ∧ (am_at (a21 124) 0) + b27 ≤ am_at (a27 124) 0 + ((f21 11713)) := hq28
            have mm31 : f21 11701 ≤ f27 11701 ∧ am_ph f21 a21 ≤ am_ph f27 a27 ∧ am_at (a21 124) 0 ≤ am_at (a27 124) 0 ∧ am_at (a27 125) 0 = am_at (a21 125) 0 := hk30.1
            have hm32 := am_mn.trans hm26 hk30.1
            have t33 : f27 11709 = f21 11709 := hk30.2.1 11709 rfl
            have t34 : f27 11718 = f21 11718 := hk30.2.1 11718 rfl
            have t35 : f27 11741 = f21 11741 := hk30.2.1 11741 rfl
            have t36 : f27 11750 = f21 11750 := hk30.2.1 11750 rfl
            have t37 : f27 11753 = f21 11753 := hk30.2.1 11753 rfl
            have t38 : f27 11757 = f21 11757 := hk30.2.1 11757 rfl
            have t39 : f27 11763 = f21 11763 := hk30.2.1 11763 rfl
            refine am_rpop rfl rfl ?_
            refine am_raload_n rfl rfl rfl ?_
            refine am_evirtualI (m := am_m121) (As := [.ref 117]) (S1 := []) rfl rfl rfl rfl rfl rfl rfl rfl rfl rfl (am_TE.int (am_ct122  (by omega) hI29) (fun b40 f40 a40 hq41 => ?_) (fun _ _ _ h => h))
            obtain ⟨rfl, rfl, hq41⟩ := hq41
            refine am_ristore (L1 := [(0, .ref 117), (2, am_iv x2), (3, am_iv x3), (4, am_iv b40)]) rfl rfl rfl rfl rfl ?_
            refine am_riload rfl rfl rfl ?_
            refine am_rbipush rfl (by decide) ?_
            refine am_ric_ne rfl rfl (by unfold am_rg; omega) (by unfold am_rg; omega) (fun hc42 => ?_) (fun hc42 => ?_)
            · refine am_riconst rfl ?_
              refine am_ristore_n (L1 := [(0, .ref 117), (2, am_iv x2), (3, am_iv 0), (4, am_iv b40)]) rfl rfl rfl rfl rfl ?_
              refine am_riload rfl rfl rfl ?_
              refine am_rbipush rfl (by decide) ?_
              refine am_ric_eq rfl rfl (by unfold am_rg; omega) (by unfold am_rg; omega) (fun hc43 => ?_) (fun hc43 => ?_)
              · refine am_riload rfl rfl rfl ?_
                refine am_rbipush rfl (by decide) ?_
                refine am_ric_ne rfl rfl (by unfold am_rg; omega) (by unfold am_rg; omega) (fun hc44 => ?_) (fun hc44 => ?_)
                · refine am_riconst rfl ?_
                  refine am_ristore (L1 := [(0, .ref 117), (2, am_iv x2), (3, am_iv 0), (4, am_iv b40), (5, am_iv 2)]) rfl rfl rfl rfl rfl ?_
                  refine am_raload_n rfl rfl rfl ?_
                  refine am_rgetf (S1 := [.ref 140]) rfl rfl ?_
                  refine am_riload_n rfl rfl rfl ?_
                  have q45 : (a27 140).length = 9 := am_Rl140 (am_RL 140 rfl hI29.1.1)
                  have i46 : am_ib (a27 140) x2 := by unfold am_ib; omega
                  have q47 := am_Rb140 (am_RL 140 rfl hI29.1.1) i46
                  refine am_riaload (l := a27 140) rfl am_ge140 i46 ?_
                  refine am_rif_eq rfl rfl (by unfold am_rg; omega) (fun hc48 => ?_) (fun hc48 => ?_)
                  · have q49 := am_Rg11701 hI29.1.1
                    have ok50 : 0 ≤ b40 → f27 11701 = 0 ∧ am_at (a27 124) (f27 11713) < am_at (a27 125) (f27 11713) := am_PK.ok hq41.2.2.1
                    have q51 := am_Rg11713 hI29.1.1
                    have q52 := am_Rg11709 hI29.1.1
                    have q53 := am_Rg11718 hI29.1.1
                    have q54 := am_Rg11741 hI29.1.1
                    have q55 := am_Rg11750 hI29.1.1
                    have q56 := am_Rg11753 hI29.1.1
                    have q57 := am_Rg11757 hI29.1.1
                    have q58 := am_Rg11763 hI29.1.1
                    exact am_T.drop (L1 := [(0, .ref 117), (2, am_iv x2), (3, am_iv 0), (5, am_iv 2)]) (ih.2.1 (by omega) hI29 hm32 (by omega) (by omega) (by omega) (by omega) (by omega) (by omega) (by omega) (by omega) (by omega) (by omega) (by omega) (by omega) (by omega) (by omega) (by omega) (by omega)) (by simp)
                  · refine am_raload_n rfl rfl rfl ?_
                    refine am_rgetf (S1 := [.ref 140]) rfl rfl ?_
                    refine am_riload_n rfl rfl rfl ?_
                    have i59 : am_ib (a27 140) x2 := by unfold am_ib; omega
                    refine am_riaload (l := a27 140) rfl am_ge140 i59 ?_
                    refine am_riload rfl rfl rfl ?_
                    refine am_ric_eq rfl rfl (by unfold am_rg; omega) (by unfold am_rg; omega) (fun hc60 => ?_) (fun hc60 => ?_)
                    · have q61 := am_Rg11701 hI29.1.1
                      have ok62 : 0 ≤ b40 → f27 11701 = 0 ∧ am_at (a27 124) (f27 11713) < am_at (a27 125) (f27 11713) := am_PK.ok hq41.2.2.1
                      have q63 := am_Rg11713 hI29.1.1
                      have q64 := am_Rg11709 hI29.1.1
                      have q65 := am_Rg11718 hI29.1.1
                      have q66 := am_Rg11741 hI29.1.1
                      have q67 := am_Rg11750 hI29.1.1
                      have q68 := am_Rg11753 hI29.1.1
                      have q69 := am_Rg11757 hI29.1.1
                      have q70 := am_Rg11763 hI29.1.1
                      exact am_T.drop (L1 := [(0, .ref 117), (2, am_iv x2), (3, am_iv 0), (5, am_iv 2)]) (ih.2.1 (by omega) hI29 hm32 (by omega) (by omega) (by omega) (by omega) (by omega) (by omega) (by omega) (by omega) (by omega) (by omega) (by omega) (by omega) (by omega) (by omega) (by omega) (by omega)) (by simp)
                    · refine am_raload_n rfl rfl rfl ?_
                      refine am_riconst rfl ?_
                      have q71 := am_Rg11701 hI29.1.1
                      refine am_evirtualV (m := am_m116) (As := [.ref 117, am_iv 1]) (S1 := []) rfl rfl rfl rfl rfl rfl rfl rfl rfl rfl (am_TE.void (am_ct117 (y1 := 1) (by omega) (by omega) (show 1 ≤ 1 by omega) (show 1 ≤ 3 by omega) (show 0 ≤ (f27 11701) by omega) (show (f27 11701) ≤ 3 by omega)) (fun f72 a72 hq73 => ?_) (fun _ _ _ h => h))
                      obtain ⟨v74, rfl, rfl, hq73⟩ := hq73
                      replace hq73 : 0 < v74 ∧ v74 ≤ 3 ∧ f27 11701 ≤ v74 := hq73
                      have J75 := am_Rf11701 (v := v74) hI29 (by omega) (by omega)
                      have m76 : am_mn fz az (am_ud f27 11701 v74) a27 := am_mn.halt hm32 (by omega)
                      have q77 := am_Rg11713 hI29.1.1
                      have q78 := am_Rg11709 hI29.1.1
                      have q79 := am_Rg11718 hI29.1.1
                      have q80 := am_Rg11741 hI29.1.1
                      have q81 := am_Rg11750 hI29.1.1
                      have q82 := am_Rg11753 hI29.1.1
                      have q83 := am_Rg11757 hI29.1.1
                      have q84 := am_Rg11763 hI29.1.1
                      exact am_T.drop (L1 := [(0, .ref 117), (2, am_iv x2), (3, am_iv 0), (5, am_iv 2)]) (ih.2.1 (show (40 * (8 * (3500 - am_ph f27 a27 ) + 3 - (v74)) - 1 + 10 * (v74)).toNat < n by omega) J75 m76 (show (-2147483648 ≤ x2 ∧ x2 ≤ 2147483647) by omega) (show (-2147483648 ≤ 0 ∧ 0 ≤ 2147483647) by omega) (show (-2147483648 ≤ 2 ∧ 2 ≤ 2147483647) by omega) (show 0 ≤ x2 by omega) (show x2 ≤ 8 by omega) (show (0 = 0 ∨ 0 = 1) by omega) (show ((v74) = 0 → am_at (a27 124) ((f27 11713)) < am_at (a27 125) ((f27 11713))) by omega) (show 1 ≤ x2 by omega) (show (f27 11713) = z11713 by omega) (show (f27 11709) = z11709 by omega) (show (f27 11718) = z11718 by omega) (show (f27 11741) = z11741 by omega) (show (f27 11750) = z11750 by omega) (show (f27 11753) = z11753 by omega) (show (f27 11757) = z11757 by omega) (show (f27 11763) = z11763 by omega)) (by simp)
                · refine am_riconst rfl ?_
                  refine am_rgoto rfl rfl ?_
                  refine am_ristore (L1 := [(0, .ref 117), (2, am_iv x2), (3, am_iv 0), (4, am_iv b40), (5, am_iv 1)]) rfl rfl rfl rfl rfl ?_
                  refine am_raload_n rfl rfl rfl ?_
                  refine am_rgetf (S1 := [.ref 140]) rfl rfl ?_
                  refine am_riload_n rfl rfl rfl ?_
                  have q85 : (a27 140).length = 9 := am_Rl140 (am_RL 140 rfl hI29.1.1)
                  have i86 : am_ib (a27 140) x2 := by unfold am_ib; omega
                  have q87 := am_Rb140 (am_RL 140 rfl hI29.1.1) i86
                  refine am_riaload (l := a27 140) rfl am_ge140 i86 ?_
                  refine am_rif_eq rfl rfl (by unfold am_rg; omega) (fun hc88 => ?_) (fun hc88 => ?_)
                  · have q89 := am_Rg11701 hI29.1.1
                    have ok90 : 0 ≤ b40 → f27 11701 = 0 ∧ am_at (a27 124) (f27 11713) < am_at (a27 125) (f27 11713) := am_PK.ok hq41.2.2.1
                    have q91 := am_Rg11713 hI29.1.1
                    have q92 := am_Rg11709 hI29.1.1
                    have q93 := am_Rg11718 hI29.1.1
                    have q94 := am_Rg11741 hI29.1.1
                    have q95 := am_Rg11750 hI29.1.1
                    have q96 := am_Rg11753 hI29.1.1
                    have q97 := am_Rg11757 hI29.1.1
                    have q98 := am_Rg11763 hI29.1.1
                    exact am_T.drop (L1 := [(0, .ref 117), (2, am_iv x2), (3, am_iv 0), (5, am_iv 1)]) (ih.2.1 (by omega) hI29 hm32 (by omega) (by omega) (by omega) (by omega) (by omega) (by omega) (by omega) (by omega) (by omega) (by omega) (by omega) (by omega) (by omega) (by omega) (by omega) (by omega)) (by simp)
                  · refine am_raload_n rfl rfl rfl ?_
                    refine am_rgetf (S1 := [.ref 140]) rfl rfl ?_
                    refine am_riload_n rfl rfl rfl ?_
                    have i99 : am_ib (a27 140) x2 := by unfold am_ib; omega
                    refine am_riaload (l := a27 140) rfl am_ge140 i99 ?_
                    refine am_riload rfl rfl rfl ?_
                    refine am_ric_eq rfl rfl (by unfold am_rg; omega) (by unfold am_rg; omega) (fun hc100 => ?_) (fun hc100 => ?_)
                    · have q101 := am_Rg11701 hI29.1.1
                      have ok102 : 0 ≤ b40 → f27 11701 = 0 ∧ am_at (a27 124) (f27 11713) < am_at (a27 125) (f27 11713) := am_PK.ok hq41.2.2.1
                      have q103 := am_Rg11713 hI29.1.1
                      have q104 := am_Rg11709 hI29.1.1
                      have q105 := am_Rg11718 hI29.1.1
                      have q106 := am_Rg11741 hI29.1.1
                      have q107 := am_Rg11750 hI29.1.1
                      have q108 := am_Rg11753 hI29.1.1
                      have q109 := am_Rg11757 hI29.1.1
                      have q110 := am_Rg11763 hI29.1.1
                      exact am_T.drop (L1 := [(0, .ref 117), (2, am_iv x2), (3, am_iv 0), (5, am_iv 1)]) (ih.2.1 (by omega) hI29 hm32 (by omega) (by omega) (by omega) (by omega) (by omega) (by omega) (by omega) (by omega) (by omega) (by omega) (by omega) (by omega) (by omega) (by omega) (by omega) (by omega)) (by simp)
                    · refine am_raload_n rfl rfl rfl ?_
                      refine am_riconst rfl ?_
                      have q111 := am_Rg11701 hI29.1.1
                      refine am_evirtualV (m := am_m116) (As := [.ref 117, am_iv 1]) (S1 := []) rfl rfl rfl rfl rfl rfl rfl rfl rfl rfl (am_TE.void (am_ct117 (y1 := 1) (by omega) (by omega) (show 1 ≤ 1 by omega) (show 1 ≤ 3 by omega) (show 0 ≤ (f27 11701) by omega) (show (f27 11701) ≤ 3 by omega)) (fun f112 a112 hq113 => ?_) (fun _ _ _ h => h))
                      obtain ⟨v114, rfl, rfl, hq113⟩ := hq113
                      replace hq113 : 0 < v114 ∧ v114 ≤ 3 ∧ f27 11701 ≤ v114 := hq113
                      have J115 := am_Rf11701 (v := v114) hI29 (by omega) (by omega)
                      have m116 : am_mn fz az (am_ud f27 11701 v114) a27 := am_mn.halt hm32 (by omega)
                      have q117 := am_Rg11713 hI29.1.1
                      have q118 := am_Rg11709 hI29.1.1
                      have q119 := am_Rg11718 hI29.1.1
                      have q120 := am_Rg11741 hI29.1.1
                      have q121 := am_Rg11750 hI29.1.1
                      have q122 := am_Rg11753 hI29.1.1
                      have q123 := am_Rg11757 hI29.1.1
                      have q124 := am_Rg11763 hI29.1.1
                      exact am_T.drop (L1 := [(0, .ref 117), (2, am_iv x2), (3, am_iv 0), (5, am_iv 1)]) (ih.2.1 (show (40 * (8 * (3500 - am_ph f27 a27 ) + 3 - (v114)) - 1 + 10 * (v114)).toNat < n by omega) J115 m116 (show (-2147483648 ≤ x2 ∧ x2 ≤ 2147483647) by omega) (show (-2147483648 ≤ 0 ∧ 0 ≤ 2147483647) by omega) (show (-2147483648 ≤ 1 ∧ 1 ≤ 2147483647) by omega) (show 0 ≤ x2 by omega) (show x2 ≤ 8 by omega) (show (0 = 0 ∨ 0 = 1) by omega) (show ((v114) = 0 → am_at (a27 124) ((f27 11713)) < am_at (a27 125) ((f27 11713))) by omega) (show 1 ≤ x2 by omega) (show (f27 11713) = z11713 by omega) (show (f27 11709) = z11709 by omega) (show (f27 11718) = z11718 by omega) (show (f27 11741) = z11741 by omega) (show (f27 11750) = z11750 by omega) (show (f27 11753) = z11753 by omega) (show (f27 11757) = z11757 by omega) (show (f27 11763) = z11763 by omega)) (by simp)
              · refine am_riload rfl rfl rfl ?_
                refine am_rbipush rfl (by decide) ?_
                refine am_ric_ne rfl rfl (by unfold am_rg; omega) (by unfold am_rg; omega) (fun hc125 => ?_) (fun hc125 => ?_)
                · refine am_riload_n rfl rfl rfl ?_
                  refine am_rif_ne rfl rfl (by unfold am_rg; omega) (fun hc126 => ?_) (fun hc126 => ?_)
                  · exfalso; omega
                  refine am_raload_n rfl rfl rfl ?_
                  refine am_riconst rfl ?_
                  have q127 := am_Rg11701 hI29.1.1
                  refine am_evirtualV (m := am_m116) (As := [.ref 117, am_iv 1]) (S1 := []) rfl rfl rfl rfl rfl rfl rfl rfl rfl rfl (am_TE.void (am_ct117 (y1 := 1) (by omega) (by omega) (show 1 ≤ 1 by omega) (show 1 ≤ 3 by omega) (show 0 ≤ (f27 11701) by omega) (show (f27 11701) ≤ 3 by omega)) (fun f128 a128 hq129 => ?_) (fun _ _ _ h => h))
                  obtain ⟨v130, rfl, rfl, hq129⟩ := hq129
                  replace hq129 : 0 < v130 ∧ v130 ≤ 3 ∧ f27 11701 ≤ v130 := hq129
                  have J131 := am_Rf11701 (v := v130) hI29 (by omega) (by omega)
                  have m132 : am_mn fz az (am_ud f27 11701 v130) a27 := am_mn.halt hm32 (by omega)
                  have q133 := am_Rg11713 hI29.1.1
                  have q134 := am_Rg11709 hI29.1.1
                  have q135 := am_Rg11718 hI29.1.1
                  have q136 := am_Rg11741 hI29.1.1
                  have q137 := am_Rg11750 hI29.1.1
                  have q138 := am_Rg11753 hI29.1.1
                  have q139 := am_Rg11757 hI29.1.1
                  have q140 := am_Rg11763 hI29.1.1
                  exact am_T.drop (L1 := [(0, .ref 117), (2, am_iv x2), (3, am_iv 0)]) (ih.2.2.1 (show (40 * (8 * (3500 - am_ph f27 a27 ) + 3 - (v130)) - 2 + 10 * (v130)).toNat < n by omega) J131 m132 (show (-2147483648 ≤ x2 ∧ x2 ≤ 2147483647) by omega) (show (-2147483648 ≤ 0 ∧ 0 ≤ 2147483647) by omega) (show 0 ≤ x2 by omega) (show x2 ≤ 8 by omega) (show (0 = 0 ∨ 0 = 1) by omega) (show ((v130) = 0 → am_at (a27 124) ((f27 11713)) < am_at (a27 125) ((f27 11713))) by omega) (show 1 ≤ x2 by omega) (show (f27 11713) = z11713 by omega) (show (f27 11709) = z11709 by omega) (show (f27 11718) = z11718 by omega) (show (f27 11741) = z11741 by omega) (show (f27 11750) = z11750 by omega) (show (f27 11753) = z11753 by omega) (show (f27 11757) = z11757 by omega) (show (f27 11763) = z11763 by omega)) (by simp)
                · refine am_riload rfl rfl rfl ?_
                  refine am_rbipush rfl (by decide) ?_
                  refine am_ric_ne rfl rfl (by unfold am_rg; omega) (by unfold am_rg; omega) (fun hc141 => ?_) (fun hc141 => ?_)
                  · refine am_riconst rfl ?_
                    refine am_ristore (L1 := [(0, .ref 117), (2, am_iv x2), (3, am_iv 0), (4, am_iv b40), (5, am_iv 2)]) rfl rfl rfl rfl rfl ?_
                    refine am_raload_n rfl rfl rfl ?_
                    refine am_rgetf (S1 := [.ref 140]) rfl rfl ?_
                    refine am_riload_n rfl rfl rfl ?_
                    have q142 : (a27 140).length = 9 := am_Rl140 (am_RL 140 rfl hI29.1.1)
                    have i143 : am_ib (a27 140) x2 := by unfold am_ib; omega
                    have q144 := am_Rb140 (am_RL 140 rfl hI29.1.1) i143
                    refine am_riaload (l := a27 140) rfl am_ge140 i143 ?_
                    refine am_rif_eq rfl rfl (by unfold am_rg; omega) (fun hc145 => ?_) (fun hc145 => ?_)
                    · have q146 := am_Rg11701 hI29.1.1
                      have ok147 : 0 ≤ b40 → f27 11701 = 0 ∧ am_at (a27 124) (f27 11713) < am_at (a27 125) (f27 11713) := am_PK.ok hq41.2.2.1
                      have q148 := am_Rg11713 hI29.1.1
                      have q149 := am_Rg11709 hI29.1.1
                      have q150 := am_Rg11718 hI29.1.1
                      have q151 := am_Rg11741 hI29.1.1
                      have q152 := am_Rg11750 hI29.1.1
                      have q153 := am_Rg11753 hI29.1.1
                      have q154 := am_Rg11757 hI29.1.1
                      have q155 := am_Rg11763 hI29.1.1
                      exact am_T.drop (L1 := [(0, .ref 117), (2, am_iv x2), (3, am_iv 0), (5, am_iv 2)]) (ih.2.1 (by omega) hI29 hm32 (by omega) (by omega) (by omega) (by omega) (by omega) (by omega) (by omega) (by omega) (by omega) (by omega) (by omega) (by omega) (by omega) (by omega) (by omega) (by omega)) (by simp)
                    · refine am_raload_n rfl rfl rfl ?_
                      refine am_rgetf (S1 := [.ref 140]) rfl rfl ?_
                      refine am_riload_n rfl rfl rfl ?_
                      have i156 : am_ib (a27 140) x2 := by unfold am_ib; omega
                      refine am_riaload (l := a27 140) rfl am_ge140 i156 ?_
                      refine am_riload rfl rfl rfl ?_
                      refine am_ric_eq rfl rfl (by unfold am_rg; omega) (by unfold am_rg; omega) (fun hc157 => ?_) (fun hc157 => ?_)
                      · have q158 := am_Rg11701 hI29.1.1
                        have ok159 : 0 ≤ b40 → f27 11701 = 0 ∧ am_at (a27 124) (f27 11713) < am_at (a27 125) (f27 11713) := am_PK.ok hq41.2.2.1
                        have q160 := am_Rg11713 hI29.1.1
                        have q161 := am_Rg11709 hI29.1.1
                        have q162 := am_Rg11718 hI29.1.1
                        have q163 := am_Rg11741 hI29.1.1
                        have q164 := am_Rg11750 hI29.1.1
                        have q165 := am_Rg11753 hI29.1.1
                        have q166 := am_Rg11757 hI29.1.1
                        have q167 := am_Rg11763 hI29.1.1
                        exact am_T.drop (L1 := [(0, .ref 117), (2, am_iv x2), (3, am_iv 0), (5, am_iv 2)]) (ih.2.1 (by omega) hI29 hm32 (by omega) (by omega) (by omega) (by omega) (by omega) (by omega) (by omega) (by omega) (by omega) (by omega) (by omega) (by omega) (by omega) (by omega) (by omega) (by omega)) (by simp)
                      · refine am_raload_n rfl rfl rfl ?_
                        refine am_riconst rfl ?_
                        have q168 := am_Rg11701 hI29.1.1
                        refine am_evirtualV (m := am_m116) (As := [.ref 117, am_iv 1]) (S1 := []) rfl rfl rfl rfl rfl rfl rfl rfl rfl rfl (am_TE.void (am_ct117 (y1 := 1) (by omega) (by omega) (show 1 ≤ 1 by omega) (show 1 ≤ 3 by omega) (show 0 ≤ (f27 11701) by omega) (show (f27 11701) ≤ 3 by omega)) (fun f169 a169 hq170 => ?_) (fun _ _ _ h => h))
                        obtain ⟨v171, rfl, rfl, hq170⟩ := hq170
                        replace hq170 : 0 < v171 ∧ v171 ≤ 3 ∧ f27 11701 ≤ v171 := hq170
                        have J172 := am_Rf11701 (v := v171) hI29 (by omega) (by omega)
                        have m173 : am_mn fz az (am_ud f27 11701 v171) a27 := am_mn.halt hm32 (by omega)
                        have q174 := am_Rg11713 hI29.1.1
                        have q175 := am_Rg11709 hI29.1.1
                        have q176 := am_Rg11718 hI29.1.1
                        have q177 := am_Rg11741 hI29.1.1
                        have q178 := am_Rg11750 hI29.1.1
                        have q179 := am_Rg11753 hI29.1.1
                        have q180 := am_Rg11757 hI29.1.1
                        have q181 := am_Rg11763 hI29.1.1
                        exact am_T.drop (L1 := [(0, .ref 117), (2, am_iv x2), (3, am_iv 0), (5, am_iv 2)]) (ih.2.1 (show (40 * (8 * (3500 - am_ph f27 a27 ) + 3 - (v171)) - 1 + 10 * (v171)).toNat < n by omega) J172 m173 (show (-2147483648 ≤ x2 ∧ x2 ≤ 2147483647) by omega) (show (-2147483648 ≤ 0 ∧ 0 ≤ 2147483647) by omega) (show (-2147483648 ≤ 2 ∧ 2 ≤ 2147483647) by omega) (show 0 ≤ x2 by omega) (show x2 ≤ 8 by omega) (show (0 = 0 ∨ 0 = 1) by omega) (show ((v171) = 0 → am_at (a27 124) ((f27 11713)) < am_at (a27 125) ((f27 11713))) by omega) (show 1 ≤ x2 by omega) (show (f27 11713) = z11713 by omega) (show (f27 11709) = z11709 by omega) (show (f27 11718) = z11718 by omega) (show (f27 11741) = z11741 by omega) (show (f27 11750) = z11750 by omega) (show (f27 11753) = z11753 by omega) (show (f27 11757) = z11757 by omega) (show (f27 11763) = z11763 by omega)) (by simp)
                  · refine am_riconst rfl ?_
                    refine am_rgoto rfl rfl ?_
                    refine am_ristore (L1 := [(0, .ref 117), (2, am_iv x2), (3, am_iv 0), (4, am_iv b40), (5, am_iv 1)]) rfl rfl rfl rfl rfl ?_
                    refine am_raload_n rfl rfl rfl ?_
                    refine am_rgetf (S1 := [.ref 140]) rfl rfl ?_
                    refine am_riload_n rfl rfl rfl ?_
                    have q182 : (a27 140).length = 9 := am_Rl140 (am_RL 140 rfl hI29.1.1)
                    have i183 : am_ib (a27 140) x2 := by unfold am_ib; omega
                    have q184 := am_Rb140 (am_RL 140 rfl hI29.1.1) i183
                    refine am_riaload (l := a27 140) rfl am_ge140 i183 ?_
                    refine am_rif_eq rfl rfl (by unfold am_rg; omega) (fun hc185 => ?_) (fun hc185 => ?_)
                    · have q186 := am_Rg11701 hI29.1.1
                      have ok187 : 0 ≤ b40 → f27 11701 = 0 ∧ am_at (a27 124) (f27 11713) < am_at (a27 125) (f27 11713) := am_PK.ok hq41.2.2.1
                      have q188 := am_Rg11713 hI29.1.1
                      have q189 := am_Rg11709 hI29.1.1
                      have q190 := am_Rg11718 hI29.1.1
                      have q191 := am_Rg11741 hI29.1.1
                      have q192 := am_Rg11750 hI29.1.1
                      have q193 := am_Rg11753 hI29.1.1
                      have q194 := am_Rg11757 hI29.1.1
                      have q195 := am_Rg11763 hI29.1.1
                      exact am_T.drop (L1 := [(0, .ref 117), (2, am_iv x2), (3, am_iv 0), (5, am_iv 1)]) (ih.2.1 (by omega) hI29 hm32 (by omega) (by omega) (by omega) (by omega) (by omega) (by omega) (by omega) (by omega) (by omega) (by omega) (by omega) (by omega) (by omega) (by omega) (by omega) (by omega)) (by simp)
                    · refine am_raload_n rfl rfl rfl ?_
                      refine am_rgetf (S1 := [.ref 140]) rfl rfl ?_
                      refine am_riload_n rfl rfl rfl ?_
                      have i196 : am_ib (a27 140) x2 := by unfold am_ib; omega
                      refine am_riaload (l := a27 140) rfl am_ge140 i196 ?_
                      refine am_riload rfl rfl rfl ?_
                      refine am_ric_eq rfl rfl (by unfold am_rg; omega) (by unfold am_rg; omega) (fun hc197 => ?_) (fun hc197 => ?_)
                      · have q198 := am_Rg11701 hI29.1.1
                        have ok199 : 0 ≤ b40 → f27 11701 = 0 ∧ am_at (a27 124) (f27 11713) < am_at (a27 125) (f27 11713) := am_PK.ok hq41.2.2.1
                        have q200 := am_Rg11713 hI29.1.1
                        have q201 := am_Rg11709 hI29.1.1
                        have q202 := am_Rg11718 hI29.1.1
                        have q203 := am_Rg11741 hI29.1.1
                        have q204 := am_Rg11750 hI29.1.1
                        have q205 := am_Rg11753 hI29.1.1
                        have q206 := am_Rg11757 hI29.1.1
                        have q207 := am_Rg11763 hI29.1.1
                        exact am_T.drop (L1 := [(0, .ref 117), (2, am_iv x2), (3, am_iv 0), (5, am_iv 1)]) (ih.2.1 (by omega) hI29 hm32 (by omega) (by omega) (by omega) (by omega) (by omega) (by omega) (by omega) (by omega) (by omega) (by omega) (by omega) (by omega) (by omega) (by omega) (by omega) (by omega)) (by simp)
                      · refine am_raload_n rfl rfl rfl ?_
                        refine am_riconst rfl ?_
                        have q208 := am_Rg11701 hI29.1.1
                        refine am_evirtualV (m := am_m116) (As := [.ref 117, am_iv 1]) (S1 := []) rfl rfl rfl rfl rfl rfl rfl rfl rfl rfl (am_TE.void (am_ct117 (y1 := 1) (by omega) (by omega) (show 1 ≤ 1 by omega) (show 1 ≤ 3 by omega) (show 0 ≤ (f27 11701) by omega) (show (f27 11701) ≤ 3 by omega)) (fun f209 a209 hq210 => ?_) (fun _ _ _ h => h))
                        obtain ⟨v211, rfl, rfl, hq210⟩ := hq210
                        replace hq210 : 0 < v211 ∧ v211 ≤ 3 ∧ f27 11701 ≤ v211 := hq210
                        have J212 := am_Rf11701 (v := v211) hI29 (by omega) (by omega)
                        have m213 : am_mn fz az (am_ud f27 11701 v211) a27 := am_mn.halt hm32 (by omega)
                        have q214 := am_Rg11713 hI29.1.1
                        have q215 := am_Rg11709 hI29.1.1
                        have q216 := am_Rg11718 hI29.1.1
                        have q217 := am_Rg11741 hI29.1.1
                        have q218 := am_Rg11750 hI29.1.1
                        have q219 := am_Rg11753 hI29.1.1
                        have q220 := am_Rg11757 hI29.1.1
                        have q221 := am_Rg11763 hI29.1.1
                        exact am_T.drop (L1 := [(0, .ref 117), (2, am_iv x2), (3, am_iv 0), (5, am_iv 1)]) (ih.2.1 (show (40 * (8 * (3500 - am_ph f27 a27 ) + 3 - (v211)) - 1 + 10 * (v211)).toNat < n by omega) J212 m213 (show (-2147483648 ≤ x2 ∧ x2 ≤ 2147483647) by omega) (show (-2147483648 ≤ 0 ∧ 0 ≤ 2147483647) by omega) (show (-2147483648 ≤ 1 ∧ 1 ≤ 2147483647) by omega) (show 0 ≤ x2 by omega) (show x2 ≤ 8 by omega) (show (0 = 0 ∨ 0 = 1) by omega) (show ((v211) = 0 → am_at (a27 124) ((f27 11713)) < am_at (a27 125) ((f27 11713))) by omega) (show 1 ≤ x2 by omega) (show (f27 11713) = z11713 by omega) (show (f27 11709) = z11709 by omega) (show (f27 11718) = z11718 by omega) (show (f27 11741) = z11741 by omega) (show (f27 11750) = z11750 by omega) (show (f27 11753) = z11753 by omega) (show (f27 11757) = z11757 by omega) (show (f27 11763) = z11763 by omega)) (by simp)
            · refine am_riconst rfl ?_
              refine am_rgoto rfl rfl ?_
              refine am_ristore_n (L1 := [(0, .ref 117), (2, am_iv x2), (3, am_iv 1), (4, am_iv b40)]) rfl rfl rfl rfl rfl ?_
              refine am_riload rfl rfl rfl ?_
              refine am_rbipush rfl (by decide) ?_
              refine am_ric_eq rfl rfl (by unfold am_rg; omega) (by unfold am_rg; omega) (fun hc222 => ?_) (fun hc222 => ?_)
              · refine am_riload rfl rfl rfl ?_
                refine am_rbipush rfl (by decide) ?_
                refine am_ric_ne rfl rfl (by unfold am_rg; omega) (by unfold am_rg; omega) (fun hc223 => ?_) (fun hc223 => ?_)
                · refine am_riconst rfl ?_
                  refine am_ristore (L1 := [(0, .ref 117), (2, am_iv x2), (3, am_iv 1), (4, am_iv b40), (5, am_iv 2)]) rfl rfl rfl rfl rfl ?_
                  refine am_raload_n rfl rfl rfl ?_
                  refine am_rgetf (S1 := [.ref 140]) rfl rfl ?_
                  refine am_riload_n rfl rfl rfl ?_
                  have q224 : (a27 140).length = 9 := am_Rl140 (am_RL 140 rfl hI29.1.1)
                  have i225 : am_ib (a27 140) x2 := by unfold am_ib; omega
                  have q226 := am_Rb140 (am_RL 140 rfl hI29.1.1) i225
                  refine am_riaload (l := a27 140) rfl am_ge140 i225 ?_
                  refine am_rif_eq rfl rfl (by unfold am_rg; omega) (fun hc227 => ?_) (fun hc227 => ?_)
                  · have q228 := am_Rg11701 hI29.1.1
                    have ok229 : 0 ≤ b40 → f27 11701 = 0 ∧ am_at (a27 124) (f27 11713) < am_at (a27 125) (f27 11713) := am_PK.ok hq41.2.2.1
                    have q230 := am_Rg11713 hI29.1.1
                    have q231 := am_Rg11709 hI29.1.1
                    have q232 := am_Rg11718 hI29.1.1
                    have q233 := am_Rg11741 hI29.1.1
                    have q234 := am_Rg11750 hI29.1.1
                    have q235 := am_Rg11753 hI29.1.1
                    have q236 := am_Rg11757 hI29.1.1
                    have q237 := am_Rg11763 hI29.1.1
                    exact am_T.drop (L1 := [(0, .ref 117), (2, am_iv x2), (3, am_iv 1), (5, am_iv 2)]) (ih.2.1 (by omega) hI29 hm32 (by omega) (by omega) (by omega) (by omega) (by omega) (by omega) (by omega) (by omega) (by omega) (by omega) (by omega) (by omega) (by omega) (by omega) (by omega) (by omega)) (by simp)
                  · refine am_raload_n rfl rfl rfl ?_
                    refine am_rgetf (S1 := [.ref 140]) rfl rfl ?_
                    refine am_riload_n rfl rfl rfl ?_
                    have i238 : am_ib (a27 140) x2 := by unfold am_ib; omega
                    refine am_riaload (l := a27 140) rfl am_ge140 i238 ?_
                    refine am_riload rfl rfl rfl ?_
                    refine am_ric_eq rfl rfl (by unfold am_rg; omega) (by unfold am_rg; omega) (fun hc239 => ?_) (fun hc239 => ?_)
                    · have q240 := am_Rg11701 hI29.1.1
                      have ok241 : 0 ≤ b40 → f27 11701 = 0 ∧ am_at (a27 124) (f27 11713) < am_at (a27 125) (f27 11713) := am_PK.ok hq41.2.2.1
                      have q242 := am_Rg11713 hI29.1.1
                      have q243 := am_Rg11709 hI29.1.1
                      have q244 := am_Rg11718 hI29.1.1
                      have q245 := am_Rg11741 hI29.1.1
                      have q246 := am_Rg11750 hI29.1.1
                      have q247 := am_Rg11753 hI29.1.1
                      have q248 := am_Rg11757 hI29.1.1
                      have q249 := am_Rg11763 hI29.1.1
                      exact am_T.drop (L1 := [(0, .ref 117), (2, am_iv x2), (3, am_iv 1), (5, am_iv 2)]) (ih.2.1 (by omega) hI29 hm32 (by omega) (by omega) (by omega) (by omega) (by omega) (by omega) (by omega) (by omega) (by omega) (by omega) (by omega) (by omega) (by omega) (by omega) (by omega) (by omega)) (by simp)
                    · refine am_raload_n rfl rfl rfl ?_
                      refine am_riconst rfl ?_
                      have q250 := am_Rg11701 hI29.1.1
                      refine am_evirtualV (m := am_m116) (As := [.ref 117, am_iv 1]) (S1 := []) rfl rfl rfl rfl rfl rfl rfl rfl rfl rfl (am_TE.void (am_ct117 (y1 := 1) (by omega) (by omega) (show 1 ≤ 1 by omega) (show 1 ≤ 3 by omega) (show 0 ≤ (f27 11701) by omega) (show (f27 11701) ≤ 3 by omega)) (fun f251 a251 hq252 => ?_) (fun _ _ _ h => h))
                      obtain ⟨v253, rfl, rfl, hq252⟩ := hq252
                      replace hq252 : 0 < v253 ∧ v253 ≤ 3 ∧ f27 11701 ≤ v253 := hq252
                      have J254 := am_Rf11701 (v := v253) hI29 (by omega) (by omega)
                      have m255 : am_mn fz az (am_ud f27 11701 v253) a27 := am_mn.halt hm32 (by omega)
                      have q256 := am_Rg11713 hI29.1.1
                      have q257 := am_Rg11709 hI29.1.1
                      have q258 := am_Rg11718 hI29.1.1
                      have q259 := am_Rg11741 hI29.1.1
                      have q260 := am_Rg11750 hI29.1.1
                      have q261 := am_Rg11753 hI29.1.1
                      have q262 := am_Rg11757 hI29.1.1
                      have q263 := am_Rg11763 hI29.1.1
                      exact am_T.drop (L1 := [(0, .ref 117), (2, am_iv x2), (3, am_iv 1), (5, am_iv 2)]) (ih.2.1 (show (40 * (8 * (3500 - am_ph f27 a27 ) + 3 - (v253)) - 1 + 10 * (v253)).toNat < n by omega) J254 m255 (show (-2147483648 ≤ x2 ∧ x2 ≤ 2147483647) by omega) (show (-2147483648 ≤ 1 ∧ 1 ≤ 2147483647) by omega) (show (-2147483648 ≤ 2 ∧ 2 ≤ 2147483647) by omega) (show 0 ≤ x2 by omega) (show x2 ≤ 8 by omega) (show (1 = 0 ∨ 1 = 1) by omega) (show ((v253) = 0 → am_at (a27 124) ((f27 11713)) < am_at (a27 125) ((f27 11713))) by omega) (show 1 ≤ x2 by omega) (show (f27 11713) = z11713 by omega) (show (f27 11709) = z11709 by omega) (show (f27 11718) = z11718 by omega) (show (f27 11741) = z11741 by omega) (show (f27 11750) = z11750 by omega) (show (f27 11753) = z11753 by omega) (show (f27 11757) = z11757 by omega) (show (f27 11763) = z11763 by omega)) (by simp)
                · refine am_riconst rfl ?_
                  refine am_rgoto rfl rfl ?_
                  refine am_ristore (L1 := [(0, .ref 117), (2, am_iv x2), (3, am_iv 1), (4, am_iv b40), (5, am_iv 1)]) rfl rfl rfl rfl rfl ?_
                  refine am_raload_n rfl rfl rfl ?_
                  refine am_rgetf (S1 := [.ref 140]) rfl rfl ?_
                  refine am_riload_n rfl rfl rfl ?_
                  have q264 : (a27 140).length = 9 := am_Rl140 (am_RL 140 rfl hI29.1.1)
                  have i265 : am_ib (a27 140) x2 := by unfold am_ib; omega
                  have q266 := am_Rb140 (am_RL 140 rfl hI29.1.1) i265
                  refine am_riaload (l := a27 140) rfl am_ge140 i265 ?_
                  refine am_rif_eq rfl rfl (by unfold am_rg; omega) (fun hc267 => ?_) (fun hc267 => ?_)
                  · have q268 := am_Rg11701 hI29.1.1
                    have ok269 : 0 ≤ b40 → f27 11701 = 0 ∧ am_at (a27 124) (f27 11713) < am_at (a27 125) (f27 11713) := am_PK.ok hq41.2.2.1
                    have q270 := am_Rg11713 hI29.1.1
                    have q271 := am_Rg11709 hI29.1.1
                    have q272 := am_Rg11718 hI29.1.1
                    have q273 := am_Rg11741 hI29.1.1
                    have q274 := am_Rg11750 hI29.1.1
                    have q275 := am_Rg11753 hI29.1.1
                    have q276 := am_Rg11757 hI29.1.1
                    have q277 := am_Rg11763 hI29.1.1
                    exact am_T.drop (L1 := [(0, .ref 117), (2, am_iv x2), (3, am_iv 1), (5, am_iv 1)]) (ih.2.1 (by omega) hI29 hm32 (by omega) (by omega) (by omega) (by omega) (by omega) (by omega) (by omega) (by omega) (by omega) (by omega) (by omega) (by omega) (by omega) (by omega) (by omega) (by omega)) (by simp)
                  · refine am_raload_n rfl rfl rfl ?_
                    refine am_rgetf (S1 := [.ref 140]) rfl rfl ?_
                    refine am_riload_n rfl rfl rfl ?_
                    have i278 : am_ib (a27 140) x2 := by unfold am_ib; omega
                    refine am_riaload (l := a27 140) rfl am_ge140 i278 ?_
                    refine am_riload rfl rfl rfl ?_
                    refine am_ric_eq rfl rfl (by unfold am_rg; omega) (by unfold am_rg; omega) (fun hc279 => ?_) (fun hc279 => ?_)
                    · have q280 := am_Rg11701 hI29.1.1
                      have ok281 : 0 ≤ b40 → f27 11701 = 0 ∧ am_at (a27 124) (f27 11713) < am_at (a27 125) (f27 11713) := am_PK.ok hq41.2.2.1
                      have q282 := am_Rg11713 hI29.1.1
                      have q283 := am_Rg11709 hI29.1.1
                      have q284 := am_Rg11718 hI29.1.1
                      have q285 := am_Rg11741 hI29.1.1
                      have q286 := am_Rg11750 hI29.1.1
                      have q287 := am_Rg11753 hI29.1.1
                      have q288 := am_Rg11757 hI29.1.1
                      have q289 := am_Rg11763 hI29.1.1
                      exact am_T.drop (L1 := [(0, .ref 117), (2, am_iv x2), (3, am_iv 1), (5, am_iv 1)]) (ih.2.1 (by omega) hI29 hm32 (by omega) (by omega) (by omega) (by omega) (by omega) (by omega) (by omega) (by omega) (by omega) (by omega) (by omega) (by omega) (by omega) (by omega) (by omega) (by omega)) (by simp)
                    · refine am_raload_n rfl rfl rfl ?_
                      refine am_riconst rfl ?_
                      have q290 := am_Rg11701 hI29.1.1
                      refine am_evirtualV (m := am_m116) (As := [.ref 117, am_iv 1]) (S1 := []) rfl rfl rfl rfl rfl rfl rfl rfl rfl rfl (am_TE.void (am_ct117 (y1 := 1) (by omega) (by omega) (show 1 ≤ 1 by omega) (show 1 ≤ 3 by omega) (show 0 ≤ (f27 11701) by omega) (show (f27 11701) ≤ 3 by omega)) (fun f291 a291 hq292 => ?_) (fun _ _ _ h => h))
                      obtain ⟨v293, rfl, rfl, hq292⟩ := hq292
                      replace hq292 : 0 < v293 ∧ v293 ≤ 3 ∧ f27 11701 ≤ v293 := hq292
                      have J294 := am_Rf11701 (v := v293) hI29 (by omega) (by omega)
                      have m295 : am_mn fz az (am_ud f27 11701 v293) a27 := am_mn.halt hm32 (by omega)
                      have q296 := am_Rg11713 hI29.1.1
                      have q297 := am_Rg11709 hI29.1.1
                      have q298 := am_Rg11718 hI29.1.1
                      have q299 := am_Rg11741 hI29.1.1
                      have q300 := am_Rg11750 hI29.1.1
                      have q301 := am_Rg11753 hI29.1.1
                      have q302 := am_Rg11757 hI29.1.1
                      have q303 := am_Rg11763 hI29.1.1
                      exact am_T.drop (L1 := [(0, .ref 117), (2, am_iv x2), (3, am_iv 1), (5, am_iv 1)]) (ih.2.1 (show (40 * (8 * (3500 - am_ph f27 a27 ) + 3 - (v293)) - 1 + 10 * (v293)).toNat < n by omega) J294 m295 (show (-2147483648 ≤ x2 ∧ x2 ≤ 2147483647) by omega) (show (-2147483648 ≤ 1 ∧ 1 ≤ 2147483647) by omega) (show (-2147483648 ≤ 1 ∧ 1 ≤ 2147483647) by omega) (show 0 ≤ x2 by omega) (show x2 ≤ 8 by omega) (show (1 = 0 ∨ 1 = 1) by omega) (show ((v293) = 0 → am_at (a27 124) ((f27 11713)) < am_at (a27 125) ((f27 11713))) by omega) (show 1 ≤ x2 by omega) (show (f27 11713) = z11713 by omega) (show (f27 11709) = z11709 by omega) (show (f27 11718) = z11718 by omega) (show (f27 11741) = z11741 by omega) (show (f27 11750) = z11750 by omega) (show (f27 11753) = z11753 by omega) (show (f27 11757) = z11757 by omega) (show (f27 11763) = z11763 by omega)) (by simp)
              · refine am_riload rfl rfl rfl ?_
                refine am_rbipush rfl (by decide) ?_
                refine am_ric_ne rfl rfl (by unfold am_rg; omega) (by unfold am_rg; omega) (fun hc304 => ?_) (fun hc304 => ?_)
                · refine am_riload_n rfl rfl rfl ?_
                  refine am_rif_ne rfl rfl (by unfold am_rg; omega) (fun hc305 => ?_) (fun hc305 => ?_)
                  rotate_left
                  · exfalso; omega
                  have q306 := am_Rg11701 hI29.1.1
                  have ok307 : 0 ≤ b40 → f27 11701 = 0 ∧ am_at (a27 124) (f27 11713) < am_at (a27 125) (f27 11713) := am_PK.ok hq41.2.2.1
                  have q308 := am_Rg11713 hI29.1.1
                  have q309 := am_Rg11709 hI29.1.1
                  have q310 := am_Rg11718 hI29.1.1
                  have q311 := am_Rg11741 hI29.1.1
                  have q312 := am_Rg11750 hI29.1.1
                  have q313 := am_Rg11753 hI29.1.1
                  have q314 := am_Rg11757 hI29.1.1
                  have q315 := am_Rg11763 hI29.1.1
                  exact am_T.drop (L1 := [(0, .ref 117), (2, am_iv x2), (3, am_iv 1)]) (ih.2.2.1 (by omega) hI29 hm32 (by omega) (by omega) (by omega) (by omega) (by omega) (by omega) (by omega) (by omega) (by omega) (by omega) (by omega) (by omega) (by omega) (by omega) (by omega)) (by simp)
                · refine am_riload rfl rfl rfl ?_
                  refine am_rbipush rfl (by decide) ?_
                  refine am_ric_ne rfl rfl (by unfold am_rg; omega) (by unfold am_rg; omega) (fun hc316 => ?_) (fun hc316 => ?_)
                  · refine am_riconst rfl ?_
                    refine am_ristore (L1 := [(0, .ref 117), (2, am_iv x2), (3, am_iv 1), (4, am_iv b40), (5, am_iv 2)]) rfl rfl rfl rfl rfl ?_
                    refine am_raload_n rfl rfl rfl ?_
                    refine am_rgetf (S1 := [.ref 140]) rfl rfl ?_
                    refine am_riload_n rfl rfl rfl ?_
                    have q317 : (a27 140).length = 9 := am_Rl140 (am_RL 140 rfl hI29.1.1)
                    have i318 : am_ib (a27 140) x2 := by unfold am_ib; omega
                    have q319 := am_Rb140 (am_RL 140 rfl hI29.1.1) i318
                    refine am_riaload (l := a27 140) rfl am_ge140 i318 ?_
                    refine am_rif_eq rfl rfl (by unfold am_rg; omega) (fun hc320 => ?_) (fun hc320 => ?_)
                    · have q321 := am_Rg11701 hI29.1.1
                      have ok322 : 0 ≤ b40 → f27 11701 = 0 ∧ am_at (a27 124) (f27 11713) < am_at (a27 125) (f27 11713) := am_PK.ok hq41.2.2.1
                      have q323 := am_Rg11713 hI29.1.1
                      have q324 := am_Rg11709 hI29.1.1
                      have q325 := am_Rg11718 hI29.1.1
                      have q326 := am_Rg11741 hI29.1.1
                      have q327 := am_Rg11750 hI29.1.1
                      have q328 := am_Rg11753 hI29.1.1
                      have q329 := am_Rg11757 hI29.1.1
                      have q330 := am_Rg11763 hI29.1.1
                      exact am_T.drop (L1 := [(0, .ref 117), (2, am_iv x2), (3, am_iv 1), (5, am_iv 2)]) (ih.2.1 (by omega) hI29 hm32 (by omega) (by omega) (by omega) (by omega) (by omega) (by omega) (by omega) (by omega) (by omega) (by omega) (by omega) (by omega) (by omega) (by omega) (by omega) (by omega)) (by simp)
                    · refine am_raload_n rfl rfl rfl ?_
                      refine am_rgetf (S1 := [.ref 140]) rfl rfl ?_
                      refine am_riload_n rfl rfl rfl ?_
                      have i331 : am_ib (a27 140) x2 := by unfold am_ib; omega
                      refine am_riaload (l := a27 140) rfl am_ge140 i331 ?_
                      refine am_riload rfl rfl rfl ?_
                      refine am_ric_eq rfl rfl (by unfold am_rg; omega) (by unfold am_rg; omega) (fun hc332 => ?_) (fun hc332 => ?_)
                      · have q333 := am_Rg11701 hI29.1.1
                        have ok334 : 0 ≤ b40 → f27 11701 = 0 ∧ am_at (a27 124) (f27 11713) < am_at (a27 125) (f27 11713) := am_PK.ok hq41.2.2.1
                        have q335 := am_Rg11713 hI29.1.1
                        have q336 := am_Rg11709 hI29.1.1
                        have q337 := am_Rg11718 hI29.1.1
                        have q338 := am_Rg11741 hI29.1.1
                        have q339 := am_Rg11750 hI29.1.1
                        have q340 := am_Rg11753 hI29.1.1
                        have q341 := am_Rg11757 hI29.1.1
                        have q342 := am_Rg11763 hI29.1.1
                        exact am_T.drop (L1 := [(0, .ref 117), (2, am_iv x2), (3, am_iv 1), (5, am_iv 2)]) (ih.2.1 (by omega) hI29 hm32 (by omega) (by omega) (by omega) (by omega) (by omega) (by omega) (by omega) (by omega) (by omega) (by omega) (by omega) (by omega) (by omega) (by omega) (by omega) (by omega)) (by simp)
                      · refine am_raload_n rfl rfl rfl ?_
                        refine am_riconst rfl ?_
                        have q343 := am_Rg11701 hI29.1.1
                        refine am_evirtualV (m := am_m116) (As := [.ref 117, am_iv 1]) (S1 := []) rfl rfl rfl rfl rfl rfl rfl rfl rfl rfl (am_TE.void (am_ct117 (y1 := 1) (by omega) (by omega) (show 1 ≤ 1 by omega) (show 1 ≤ 3 by omega) (show 0 ≤ (f27 11701) by omega) (show (f27 11701) ≤ 3 by omega)) (fun f344 a344 hq345 => ?_) (fun _ _ _ h => h))
                        obtain ⟨v346, rfl, rfl, hq345⟩ := hq345
                        replace hq345 : 0 < v346 ∧ v346 ≤ 3 ∧ f27 11701 ≤ v346 := hq345
                        have J347 := am_Rf11701 (v := v346) hI29 (by omega) (by omega)
                        have m348 : am_mn fz az (am_ud f27 11701 v346) a27 := am_mn.halt hm32 (by omega)
                        have q349 := am_Rg11713 hI29.1.1
                        have q350 := am_Rg11709 hI29.1.1
                        have q351 := am_Rg11718 hI29.1.1
                        have q352 := am_Rg11741 hI29.1.1
                        have q353 := am_Rg11750 hI29.1.1
                        have q354 := am_Rg11753 hI29.1.1
                        have q355 := am_Rg11757 hI29.1.1
                        have q356 := am_Rg11763 hI29.1.1
                        exact am_T.drop (L1 := [(0, .ref 117), (2, am_iv x2), (3, am_iv 1), (5, am_iv 2)]) (ih.2.1 (show (40 * (8 * (3500 - am_ph f27 a27 ) + 3 - (v346)) - 1 + 10 * (v346)).toNat < n by omega) J347 m348 (show (-2147483648 ≤ x2 ∧ x2 ≤ 2147483647) by omega) (show (-2147483648 ≤ 1 ∧ 1 ≤ 2147483647) by omega) (show (-2147483648 ≤ 2 ∧ 2 ≤ 2147483647) by omega) (show 0 ≤ x2 by omega) (show x2 ≤ 8 by omega) (show (1 = 0 ∨ 1 = 1) by omega) (show ((v346) = 0 → am_at (a27 124) ((f27 11713)) < am_at (a27 125) ((f27 11713))) by omega) (show 1 ≤ x2 by omega) (show (f27 11713) = z11713 by omega) (show (f27 11709) = z11709 by omega) (show (f27 11718) = z11718 by omega) (show (f27 11741) = z11741 by omega) (show (f27 11750) = z11750 by omega) (show (f27 11753) = z11753 by omega) (show (f27 11757) = z11757 by omega) (show (f27 11763) = z11763 by omega)) (by simp)
                  · refine am_riconst rfl ?_
                    refine am_rgoto rfl rfl ?_
                    refine am_ristore (L1 := [(0, .ref 117), (2, am_iv x2), (3, am_iv 1), (4, am_iv b40), (5, am_iv 1)]) rfl rfl rfl rfl rfl ?_
                    refine am_raload_n rfl rfl rfl ?_
                    refine am_rgetf (S1 := [.ref 140]) rfl rfl ?_
                    refine am_riload_n rfl rfl rfl ?_
                    have q357 : (a27 140).length = 9 := am_Rl140 (am_RL 140 rfl hI29.1.1)
                    have i358 : am_ib (a27 140) x2 := by unfold am_ib; omega
                    have q359 := am_Rb140 (am_RL 140 rfl hI29.1.1) i358
                    refine am_riaload (l := a27 140) rfl am_ge140 i358 ?_
                    refine am_rif_eq rfl rfl (by unfold am_rg; omega) (fun hc360 => ?_) (fun hc360 => ?_)
                    · have q361 := am_Rg11701 hI29.1.1
                      have ok362 : 0 ≤ b40 → f27 11701 = 0 ∧ am_at (a27 124) (f27 11713) < am_at (a27 125) (f27 11713) := am_PK.ok hq41.2.2.1
                      have q363 := am_Rg11713 hI29.1.1
                      have q364 := am_Rg11709 hI29.1.1
                      have q365 := am_Rg11718 hI29.1.1
                      have q366 := am_Rg11741 hI29.1.1
                      have q367 := am_Rg11750 hI29.1.1
                      have q368 := am_Rg11753 hI29.1.1
                      have q369 := am_Rg11757 hI29.1.1
                      have q370 := am_Rg11763 hI29.1.1
                      exact am_T.drop (L1 := [(0, .ref 117), (2, am_iv x2), (3, am_iv 1), (5, am_iv 1)]) (ih.2.1 (by omega) hI29 hm32 (by omega) (by omega) (by omega) (by omega) (by omega) (by omega) (by omega) (by omega) (by omega) (by omega) (by omega) (by omega) (by omega) (by omega) (by omega) (by omega)) (by simp)
                    · refine am_raload_n rfl rfl rfl ?_
                      refine am_rgetf (S1 := [.ref 140]) rfl rfl ?_
                      refine am_riload_n rfl rfl rfl ?_
                      have i371 : am_ib (a27 140) x2 := by unfold am_ib; omega
                      refine am_riaload (l := a27 140) rfl am_ge140 i371 ?_
                      refine am_riload rfl rfl rfl ?_
                      refine am_ric_eq rfl rfl (by unfold am_rg; omega) (by unfold am_rg; omega) (fun hc372 => ?_) (fun hc372 => ?_)
                      · have q373 := am_Rg11701 hI29.1.1
                        have ok374 : 0 ≤ b40 → f27 11701 = 0 ∧ am_at (a27 124) (f27 11713) < am_at (a27 125) (f27 11713) := am_PK.ok hq41.2.2.1
                        have q375 := am_Rg11713 hI29.1.1
                        have q376 := am_Rg11709 hI29.1.1
                        have q377 := am_Rg11718 hI29.1.1
                        have q378 := am_Rg11741 hI29.1.1
                        have q379 := am_Rg11750 hI29.1.1
                        have q380 := am_Rg11753 hI29.1.1
                        have q381 := am_Rg11757 hI29.1.1
                        have q382 := am_Rg11763 hI29.1.1
                        exact am_T.drop (L1 := [(0, .ref 117), (2, am_iv x2), (3, am_iv 1), (5, am_iv 1)]) (ih.2.1 (by omega) hI29 hm32 (by omega) (by omega) (by omega) (by omega) (by omega) (by omega) (by omega) (by omega) (by omega) (by omega) (by omega) (by omega) (by omega) (by omega) (by omega) (by omega)) (by simp)
                      · refine am_raload_n rfl rfl rfl ?_
                        refine am_riconst rfl ?_
                        have q383 := am_Rg11701 hI29.1.1
                        refine am_evirtualV (m := am_m116) (As := [.ref 117, am_iv 1]) (S1 := []) rfl rfl rfl rfl rfl rfl rfl rfl rfl rfl (am_TE.void (am_ct117 (y1 := 1) (by omega) (by omega) (show 1 ≤ 1 by omega) (show 1 ≤ 3 by omega) (show 0 ≤ (f27 11701) by omega) (show (f27 11701) ≤ 3 by omega)) (fun f384 a384 hq385 => ?_) (fun _ _ _ h => h))
                        obtain ⟨v386, rfl, rfl, hq385⟩ := hq385
                        replace hq385 : 0 < v386 ∧ v386 ≤ 3 ∧ f27 11701 ≤ v386 := hq385
                        have J387 := am_Rf11701 (v := v386) hI29 (by omega) (by omega)
                        have m388 : am_mn fz az (am_ud f27 11701 v386) a27 := am_mn.halt hm32 (by omega)
                        have q389 := am_Rg11713 hI29.1.1
                        have q390 := am_Rg11709 hI29.1.1
                        have q391 := am_Rg11718 hI29.1.1
                        have q392 := am_Rg11741 hI29.1.1
                        have q393 := am_Rg11750 hI29.1.1
                        have q394 := am_Rg11753 hI29.1.1
                        have q395 := am_Rg11757 hI29.1.1
                        have q396 := am_Rg11763 hI29.1.1
                        exact am_T.drop (L1 := [(0, .ref 117), (2, am_iv x2), (3, am_iv 1), (5, am_iv 1)]) (ih.2.1 (show (40 * (8 * (3500 - am_ph f27 a27 ) + 3 - (v386)) - 1 + 10 * (v386)).toNat < n by omega) J387 m388 (show (-2147483648 ≤ x2 ∧ x2 ≤ 2147483647) by omega) (show (-2147483648 ≤ 1 ∧ 1 ≤ 2147483647) by omega) (show (-2147483648 ≤ 1 ∧ 1 ≤ 2147483647) by omega) (show 0 ≤ x2 by omega) (show x2 ≤ 8 by omega) (show (1 = 0 ∨ 1 = 1) by omega) (show ((v386) = 0 → am_at (a27 124) ((f27 11713)) < am_at (a27 125) ((f27 11713))) by omega) (show 1 ≤ x2 by omega) (show (f27 11713) = z11713 by omega) (show (f27 11709) = z11709 by omega) (show (f27 11718) = z11718 by omega) (show (f27 11741) = z11741 by omega) (show (f27 11750) = z11750 by omega) (show (f27 11753) = z11753 by omega) (show (f27 11757) = z11757 by omega) (show (f27 11763) = z11763 by omega)) (by simp)
          · refine am_riconst rfl ?_
            have q397 := am_Rg11701 hI16.1.1
            have q398 := am_Rg11713 hI16.1.1
            have q399 := am_Rg11709 hI16.1.1
            have q400 := am_Rg11718 hI16.1.1
            have q401 := am_Rg11741 hI16.1.1
            have q402 := am_Rg11750 hI16.1.1
            have q403 := am_Rg11753 hI16.1.1
            have q404 := am_Rg11757 hI16.1.1
            have q405 := am_Rg11763 hI16.1.1
            exact am_eiret rfl rfl ⟨hI16, hm19, (show (-2147483648 ≤ (0 : Int) ∧ (0 : Int) ≤ 2147483647) by omega), (show f14 11713 = z11713 by omega), (show f14 11709 = z11709 by omega), (show f14 11718 = z11718 by omega), (show f14 11741 = z11741 by omega), (show f14 11750 = z11750 by omega), (show f14 11753 = z11753 by omega), (show f14 11757 = z11757 by omega), (show f14 11763 = z11763 by omega), (show (0 ≤ ((0 : Int)) ∧ ((0 : Int)) ≤ 8) by omega)⟩
    · intro f a x2 x3 x5 hn hI hp0 hp1 hp2 hp3 hp4 hp5 hp6 hp7 hp8 hp9 hp10 hp11 hp12 hp13 hp14 hp15 hp16
      have q1 := am_RV_ph hI
      have q2 := am_RV_p0 hI
      have q3 := am_Rg11701 hI.1.1
      have q4 := am_Rg11713 hI.1.1
      have q5 := am_Rg11709 hI.1.1
      have q6 := am_Rg11718 hI.1.1
      have q7 := am_Rg11741 hI.1.1
      have q8 := am_Rg11750 hI.1.1
      have q9 := am_Rg11753 hI.1.1
      have q10 := am_Rg11757 hI.1.1
      have q11 := am_Rg11763 hI.1.1
      refine am_raload_n rfl rfl rfl ?_
      refine am_rgetf (S1 := [.ref 140]) rfl rfl ?_
      refine am_riload_n rfl rfl rfl ?_
      refine am_riload rfl rfl rfl ?_
      have q12 : (a 140).length = 9 := am_Rl140 (am_RL 140 rfl hI.1.1)
      have i13 : am_ib (a 140) x2 := by unfold am_ib; omega
      have hl14 : am_LR 140 ((a 140).set x2.toNat x5) := am_RS140 (am_RL 140 rfl hI.1.1) (by omega) (by omega)
      refine am_riastore (l := a 140) (h1 := am_enc f (am_ud a 140 ((a 140).set x2.toNat x5)) w e) rfl am_ge140 i13 (am_sa140 _) ?_
      refine am_rgoto rfl rfl ?_
      have J15 := am_Ra140 hI hl14
      have m16 : am_mn fz az f (am_ud a 140 ((a 140).set x2.toNat x5)) := am_mn_a rfl rfl hp0
      exact am_T.drop (L1 := [(0, .ref 117), (2, am_iv x2), (3, am_iv x3)]) (ih.2.2.1 (show (40 * (8 * (3500 - am_ph f a ) + 3 - (f 11701)) - 2 + 10 * (f 11701)).toNat < n by omega) J15 m16 (show (-2147483648 ≤ x2 ∧ x2 ≤ 2147483647) by omega) (show (-2147483648 ≤ x3 ∧ x3 ≤ 2147483647) by omega) (show 0 ≤ x2 by omega) (show x2 ≤ 8 by omega) (show (x3 = 0 ∨ x3 = 1) by omega) (show ((f 11701) = 0 → am_at (a 124) ((f 11713)) < am_at (a 125) ((f 11713))) by omega) (show 1 ≤ x2 by omega) (show (f 11713) = z11713 by omega) (show (f 11709) = z11709 by omega) (show (f 11718) = z11718 by omega) (show (f 11741) = z11741 by omega) (show (f 11750) = z11750 by omega) (show (f 11753) = z11753 by omega) (show (f 11757) = z11757 by omega) (show (f 11763) = z11763 by omega)) (by simp)
    · intro f a x2 x3 hn hI hp0 hp1 hp2 hp3 hp4 hp5 hp6 hp7 hp8 hp9 hp10 hp11 hp12 hp13 hp14 hp15
      have q1 := am_RV_ph hI
      have q2 := am_RV_p0 hI
      have q3 := am_Rg11701 hI.1.1
      have q4 := am_Rg11713 hI.1.1
      have q5 := am_Rg11709 hI.1.1
      have q6 := am_Rg11718 hI.1.1
      have q7 := am_Rg11741 hI.1.1
      have q8 := am_Rg11750 hI.1.1
      have q9 := am_Rg11753 hI.1.1
      have q10 := am_Rg11757 hI.1.1
      have q11 := am_Rg11763 hI.1.1
      refine am_raload_n rfl rfl rfl ?_
      refine am_rgetf (S1 := [am_iv (f 11701)]) rfl rfl ?_
      refine am_rif_ne rfl rfl (by unfold am_rg; omega) (fun hc12 => ?_) (fun hc12 => ?_)
      · exact ih.2.2.2 (by omega) hI hp0 (by omega) (by omega) (by omega) (by omega) (by omega) (by omega) (by omega) (by omega) (by omega) (by omega) (by omega) (by omega) (by omega) (by omega)
      · refine am_raload_n rfl rfl rfl ?_
        refine am_evirtualV (m := am_m122) (As := [.ref 117]) (S1 := []) rfl rfl rfl rfl rfl rfl rfl rfl rfl rfl (am_TE.void (am_ct123  (by omega) hI (show am_at (a 124) ((f 11713)) < am_at (a 125) ((f 11713)) by omega)) (fun f13 a13 hq14 => ?_) (fun _ _ _ h => h))
        obtain ⟨hI15, hk16, hq14⟩ := hq14
        replace hq14 : f13 11701 = ((f 11701)) ∧ f13 11713 = ((f 11713)) ∧ am_ph f13 a13 = (am_ph f a ) + 1 ∧ (((f 11713)) = 0 → am_at (a13 124) 0 = (am_at (a 124) 0) + 1) := hq14
        have mm17 : f 11701 ≤ f13 11701 ∧ am_ph f a ≤ am_ph f13 a13 ∧ am_at (a 124) 0 ≤ am_at (a13 124) 0 ∧ am_at (a13 125) 0 = am_at (a 125) 0 := hk16.1
        have hm18 := am_mn.trans hp0 hk16.1
        have t19 : f13 11709 = f 11709 := hk16.2.1 11709 rfl
        have t20 : f13 11718 = f 11718 := hk16.2.1 11718 rfl
        have t21 : f13 11741 = f 11741 := hk16.2.1 11741 rfl
        have t22 : f13 11750 = f 11750 := hk16.2.1 11750 rfl
        have t23 : f13 11753 = f 11753 := hk16.2.1 11753 rfl
        have t24 : f13 11757 = f 11757 := hk16.2.1 11757 rfl
        have t25 : f13 11763 = f 11763 := hk16.2.1 11763 rfl
        have q26 := am_Rg11701 hI15.1.1
        have q27 := am_Rg11713 hI15.1.1
        have q28 := am_Rg11709 hI15.1.1
        have q29 := am_Rg11718 hI15.1.1
        have q30 := am_Rg11741 hI15.1.1
        have q31 := am_Rg11750 hI15.1.1
        have q32 := am_Rg11753 hI15.1.1
        have q33 := am_Rg11757 hI15.1.1
        have q34 := am_Rg11763 hI15.1.1
        exact ih.2.2.2 (by omega) hI15 hm18 (by omega) (by omega) (by omega) (by omega) (by omega) (by omega) (by omega) (by omega) (by omega) (by omega) (by omega) (by omega) (by omega) (by omega)
    · intro f a x2 x3 hn hI hp0 hp1 hp2 hp3 hp4 hp5 hp6 hp7 hp8 hp9 hp10 hp11 hp12 hp13 hp14
      have q1 := am_RV_ph hI
      have q2 := am_RV_p0 hI
      have q3 := am_Rg11713 hI.1.1
      have q4 := am_Rg11709 hI.1.1
      have q5 := am_Rg11718 hI.1.1
      have q6 := am_Rg11741 hI.1.1
      have q7 := am_Rg11750 hI.1.1
      have q8 := am_Rg11753 hI.1.1
      have q9 := am_Rg11757 hI.1.1
      have q10 := am_Rg11763 hI.1.1
      have q11 := am_Rg11701 hI.1.1
      refine am_riload_n rfl rfl rfl ?_
      refine am_rif_eq rfl rfl (by unfold am_rg; omega) (fun hc12 => ?_) (fun hc12 => ?_)
      · refine am_rgoto rfl rfl ?_
        exact ih.1 (by omega) hI hp0 (by omega) (by omega) (by omega) (by omega) (by omega) (by omega) (by omega) (by omega) (by omega) (by omega) (by omega) (by omega) (by omega)
      · refine am_raload_n rfl rfl rfl ?_
        refine am_raload_n rfl rfl rfl ?_
        refine am_rgetf (S1 := [.ref 141, .ref 117]) rfl rfl ?_
        refine am_riload_n rfl rfl rfl ?_
        have q13 : (a 141).length = 9 := am_Rl141 (am_RL 141 rfl hI.1.1)
        have i14 : am_ib (a 141) x2 := by unfold am_ib; omega
        have q15 := am_Rb141 (am_RL 141 rfl hI.1.1) i14
        refine am_riaload (l := a 141) rfl am_ge141 i14 ?_
        refine am_rputf (S1 := []) (h1 := am_enc (am_ud f 11738 (am_at (a 141) x2)) a w e) rfl (am_pfB rfl am_ge117 rfl (am_sf11738 _)) (by rw [am_enc_len, am_enc_len]) ?_
        refine am_raload_n rfl rfl rfl ?_
        refine am_raload_n rfl rfl rfl ?_
        refine am_rgetf (S1 := [.ref 142, .ref 117]) rfl rfl ?_
        refine am_riload_n rfl rfl rfl ?_
        have q16 : (a 142).length = 9 := am_Rl142 (am_RL 142 rfl hI.1.1)
        have i17 : am_ib (a 142) x2 := by unfold am_ib; omega
        have q18 := am_Rb142 (am_RL 142 rfl hI.1.1) i17
        refine am_riaload (l := a 142) rfl am_ge142 i17 ?_
        refine am_rputf (S1 := []) (h1 := am_enc (am_ud (am_ud f 11738 (am_at (a 141) x2)) 11739 (am_at (a 142) x2)) a w e) rfl (am_pfB rfl am_ge117 rfl (am_sf11739 _)) (by rw [am_enc_len, am_enc_len]) ?_
        refine am_raload_n rfl rfl rfl ?_
        refine am_raload_n rfl rfl rfl ?_
        refine am_rgetf (S1 := [.ref 143, .ref 117]) rfl rfl ?_
        refine am_riload_n rfl rfl rfl ?_
        have q19 : (a 143).length = 9 := am_Rl143 (am_RL 143 rfl hI.1.1)
        have i20 : am_ib (a 143) x2 := by unfold am_ib; omega
        have q21 := am_Rb143 (am_RL 143 rfl hI.1.1) i20
        refine am_rbaload (l := a 143) rfl am_ge143 i20 ?_
        have hB22 : am_at (a 143) x2 = 0 ∨ am_at (a 143) x2 = 1 := by omega
        refine am_rputf (S1 := []) (h1 := am_enc (am_ud (am_ud (am_ud f 11738 (am_at (a 141) x2)) 11739 (am_at (a 142) x2)) 11740 (am_at (a 143) x2)) a w e) rfl (am_pfB rfl am_ge117 (by rcases hB22 with h9 | h9 <;> rw [h9] <;> rfl) (am_sf11740 _)) (by rw [am_enc_len, am_enc_len]) ?_
        refine am_riinc (L1 := [(0, .ref 117), (2, am_iv (x2 + (-1))), (3, am_iv x3)]) rfl rfl rfl rfl rfl ?_
        refine am_rgoto rfl rfl ?_
        have J23 := am_Rf11738 (v := am_at (a 141) x2) hI (by omega) (by omega)
        have J24 := am_Rf11739 (v := am_at (a 142) x2) J23 (by omega) (by omega)
        have J25 := am_Rf11740 (v := am_at (a 143) x2) J24 (by omega) (by omega)
        have m26 : am_mn fz az (am_ud f 11738 (am_at (a 141) x2)) a := am_mn_f rfl rfl rfl hp0
        have m27 : am_mn fz az (am_ud (am_ud f 11738 (am_at (a 141) x2)) 11739 (am_at (a 142) x2)) a := am_mn_f rfl rfl rfl m26
        have m28 : am_mn fz az (am_ud (am_ud (am_ud f 11738 (am_at (a 141) x2)) 11739 (am_at (a 142) x2)) 11740 (am_at (a 143) x2)) a := am_mn_f rfl rfl rfl m27
        exact ih.1 (show (40 * (8 * (3500 - am_ph f a ) + 3 - (f 11701))).toNat < n by omega) J25 m28 (show (-2147483648 ≤ (x2 + (-1)) ∧ (x2 + (-1)) ≤ 2147483647) by omega) (show (-2147483648 ≤ x3 ∧ x3 ≤ 2147483647) by omega) (show 0 ≤ (x2 + (-1)) by omega) (show (x2 + (-1)) ≤ 8 by omega) (show (x3 = 0 ∨ x3 = 1) by omega) (show (f 11713) = z11713 by omega) (show (f 11709) = z11709 by omega) (show (f 11718) = z11718 by omega) (show (f 11741) = z11741 by omega) (show (f 11750) = z11750 by omega) (show (f 11753) = z11753 by omega) (show (f 11757) = z11757 by omega) (show (f 11763) = z11763 by omega)
set_option maxRecDepth 100000 in
set_option maxHeartbeats 4000000 in
theorem am_ct153_4 {X : List Value} {w : Value} {e : Nat} {g : aF} {h : aA} {E : Nat → aF → aA → Prop} {d : Nat} {z11713 : Int} {z11709 : Int} {z11718 : Int} {z11741 : Int} {z11750 : Int} {z11753 : Int} {z11757 : Int} {z11763 : Int} {fz : aF} {az : aA} (hd : 3 ≤ d + 1) (n : Nat) : ∀ {f : aF} {a : aA} {x2 : Int} {x3 : Int}, (40 * (8 * (3500 - am_ph f a) + 3 - f 11701)).toNat < n → am_RV g h f a → am_mn fz az f a → (-2147483648 ≤ x2 ∧ x2 ≤ 2147483647) → (-2147483648 ≤ x3 ∧ x3 ≤ 2147483647) → 0 ≤ x2 → x2 ≤ 8 → (x3 = 0 ∨ x3 = 1) → f 11713 = z11713 → f 11709 = z11709 → f 11718 = z11718 → f 11741 = z11741 → f 11750 = z11750 → f 11753 = z11753 → f 11757 = z11757 → f 11763 = z11763 → am_TE X (d + 1) am_m152 4 [(0, .ref 117), (2, am_iv x2), (3, am_iv x3)] [] f a w e (am_QI (fun b f1 a1 => am_RV g h f1 a1 ∧ am_mn fz az f1 a1 ∧ (-2147483648 ≤ b ∧ b ≤ 2147483647) ∧ f1 11713 = z11713 ∧ f1 11709 = z11709 ∧ f1 11718 = z11718 ∧ f1 11741 = z11741 ∧ f1 11750 = z11750 ∧ f1 11753 = z11753 ∧ f1 11757 = z11757 ∧ f1 11763 = z11763 ∧ (0 ≤ b ∧ b ≤ 8))) E := (am_ct153_L4 hd n).1
set_option maxRecDepth 100000 in
set_option maxHeartbeats 4000000 in
theorem am_ct153_107 {X : List Value} {w : Value} {e : Nat} {g : aF} {h : aA} {E : Nat → aF → aA → Prop} {d : Nat} {z11713 : Int} {z11709 : Int} {z11718 : Int} {z11741 : Int} {z11750 : Int} {z11753 : Int} {z11757 : Int} {z11763 : Int} {fz : aF} {az : aA} (hd : 3 ≤ d + 1) (n : Nat) : ∀ {f : aF} {a : aA} {x2 : Int} {x3 : Int} {x5 : Int}, (40 * (8 * (3500 - am_ph f a) + 3 - f 11701) - 1 + 10 * f 11701).toNat < n → am_RV g h f a → am_mn fz az f a → (-2147483648 ≤ x2 ∧ x2 ≤ 2147483647) → (-2147483648 ≤ x3 ∧ x3 ≤ 2147483647) → (-2147483648 ≤ x5 ∧ x5 ≤ 2147483647) → 0 ≤ x2 → x2 ≤ 8 → (x3 = 0 ∨ x3 = 1) → (f 11701 = 0 → am_at (a 124) (f 11713) < am_at (a 125) (f 11713)) → 1 ≤ x2 → f 11713 = z11713 → f 11709 = z11709 → f 11718 = z11718 → f 11741 = z11741 → f 11750 = z11750 → f 11753 = z11753 → f 11757 = z11757 → f 11763 = z11763 → am_TE X (d + 1) am_m152 107 [(0, .ref 117), (2, am_iv x2), (3, am_iv x3), (5, am_iv x5)] [] f a w e (am_QI (fun b f1 a1 => am_RV g h f1 a1 ∧ am_mn fz az f1 a1 ∧ (-2147483648 ≤ b ∧ b ≤ 2147483647) ∧ f1 11713 = z11713 ∧ f1 11709 = z11709 ∧ f1 11718 = z11718 ∧ f1 11741 = z11741 ∧ f1 11750 = z11750 ∧ f1 11753 = z11753 ∧ f1 11757 = z11757 ∧ f1 11763 = z11763 ∧ (0 ≤ b ∧ b ≤ 8))) E := (am_ct153_L4 hd n).2.1
set_option maxRecDepth 100000 in
set_option maxHeartbeats 4000000 in
theorem am_ct153_127 {X : List Value} {w : Value} {e : Nat} {g : aF} {h : aA} {E : Nat → aF → aA → Prop} {d : Nat} {z11713 : Int} {z11709 : Int} {z11718 : Int} {z11741 : Int} {z11750 : Int} {z11753 : Int} {z11757 : Int} {z11763 : Int} {fz : aF} {az : aA} (hd : 3 ≤ d + 1) (n : Nat) : ∀ {f : aF} {a : aA} {x2 : Int} {x3 : Int}, (40 * (8 * (3500 - am_ph f a) + 3 - f 11701) - 2 + 10 * f 11701).toNat < n → am_RV g h f a → am_mn fz az f a → (-2147483648 ≤ x2 ∧ x2 ≤ 2147483647) → (-2147483648 ≤ x3 ∧ x3 ≤ 2147483647) → 0 ≤ x2 → x2 ≤ 8 → (x3 = 0 ∨ x3 = 1) → (f 11701 = 0 → am_at (a 124) (f 11713) < am_at (a 125) (f 11713)) → 1 ≤ x2 → f 11713 = z11713 → f 11709 = z11709 → f 11718 = z11718 → f 11741 = z11741 → f 11750 = z11750 → f 11753 = z11753 → f 11757 = z11757 → f 11763 = z11763 → am_TE X (d + 1) am_m152 127 [(0, .ref 117), (2, am_iv x2), (3, am_iv x3)] [] f a w e (am_QI (fun b f1 a1 => am_RV g h f1 a1 ∧ am_mn fz az f1 a1 ∧ (-2147483648 ≤ b ∧ b ≤ 2147483647) ∧ f1 11713 = z11713 ∧ f1 11709 = z11709 ∧ f1 11718 = z11718 ∧ f1 11741 = z11741 ∧ f1 11750 = z11750 ∧ f1 11753 = z11753 ∧ f1 11757 = z11757 ∧ f1 11763 = z11763 ∧ (0 ≤ b ∧ b ≤ 8))) E := (am_ct153_L4 hd n).2.2.1
set_option maxRecDepth 100000 in
set_option maxHeartbeats 4000000 in
theorem am_ct153_138 {X : List Value} {w : Value} {e : Nat} {g : aF} {h : aA} {E : Nat → aF → aA → Prop} {d : Nat} {z11713 : Int} {z11709 : Int} {z11718 : Int} {z11741 : Int} {z11750 : Int} {z11753 : Int} {z11757 : Int} {z11763 : Int} {fz : aF} {az : aA} (hd : 3 ≤ d + 1) (n : Nat) : ∀ {f : aF} {a : aA} {x2 : Int} {x3 : Int}, (40 * (8 * (3500 - am_ph f a) + 3 - f 11701) + 1 + 5 * f 11701).toNat < n → am_RV g h f a → am_mn fz az f a → (-2147483648 ≤ x2 ∧ x2 ≤ 2147483647) → (-2147483648 ≤ x3 ∧ x3 ≤ 2147483647) → 0 ≤ x2 → x2 ≤ 8 → (x3 = 0 ∨ x3 = 1) → 1 ≤ x2 → f 11713 = z11713 → f 11709 = z11709 → f 11718 = z11718 → f 11741 = z11741 → f 11750 = z11750 → f 11753 = z11753 → f 11757 = z11757 → f 11763 = z11763 → am_TE X (d + 1) am_m152 138 [(0, .ref 117), (2, am_iv x2), (3, am_iv x3)] [] f a w e (am_QI (fun b f1 a1 => am_RV g h f1 a1 ∧ am_mn fz az f1 a1 ∧ (-2147483648 ≤ b ∧ b ≤ 2147483647) ∧ f1 11713 = z11713 ∧ f1 11709 = z11709 ∧ f1 11718 = z11718 ∧ f1 11741 = z11741 ∧ f1 11750 = z11750 ∧ f1 11753 = z11753 ∧ f1 11757 = z11757 ∧ f1 11763 = z11763 ∧ (0 ≤ b ∧ b ≤ 8))) E := (am_ct153_L4 hd n).2.2.2
set_option maxRecDepth 100000 in
set_option maxHeartbeats 4000000 in
theorem am_ct153 {X : List Value} {w : Value} {e : Nat} {g : aF} {h : aA} {E : Nat → aF → aA → Prop} {d : Nat} {y1 : Int} {f : aF} {a : aA} (hd : 3 ≤ d) (hI : am_RV g h f a) (hp0 : (-2147483648 ≤ y1 ∧ y1 ≤ 2147483647)) (hp1 : 0 ≤ y1) (hp2 : y1 ≤ 8) :
    am_TE X d am_m152 0 (lv_args 0 [.ref 117, am_iv y1]) [] f a w e (am_QI (fun b f1 a1 => am_RV g h f1 a1 ∧ am_mn f a f1 a1 ∧ (-2147483648 ≤ b ∧ b ≤ 2147483647) ∧ f1 11713 = (f 11713) ∧ f1 11709 = (f 11709) ∧ f1 11718 = (f 11718) ∧ f1 11741 = (f 11741) ∧ f1 11750 = (f 11750) ∧ f1 11753 = (f 11753) ∧ f1 11757 = (f 11757) ∧ f1 11763 = (f 11763) ∧ (0 ≤ b ∧ b ≤ 8))) E := by
  obtain ⟨d, rfl⟩ : ∃ d0, d = d0 + 1 := ⟨d - 1, by omega⟩
  have q1 := am_RV_ph hI
  have q2 := am_RV_p0 hI
  refine am_riload_n rfl rfl rfl ?_
  refine am_ristore_n (L1 := [(0, .ref 117), (1, am_iv y1), (2, am_iv y1)]) rfl rfl rfl rfl rfl ?_
  refine am_riconst rfl ?_
  refine am_ristore_n (L1 := [(0, .ref 117), (1, am_iv y1), (2, am_iv y1), (3, am_iv 1)]) rfl rfl rfl rfl rfl ?_
  have q3 := am_Rg11701 hI.1.1
  have q4 := am_Rg11713 hI.1.1
  have q5 := am_Rg11709 hI.1.1
  have q6 := am_Rg11718 hI.1.1
  have q7 := am_Rg11741 hI.1.1
  have q8 := am_Rg11750 hI.1.1
  have q9 := am_Rg11753 hI.1.1
  have q10 := am_Rg11757 hI.1.1
  have q11 := am_Rg11763 hI.1.1
  exact am_T.drop (L1 := [(0, .ref 117), (2, am_iv y1), (3, am_iv 1)]) (am_ct153_4 hd (_ + 1) (Nat.lt_succ_self _) hI (am_mn.refl f a) (by omega) (by omega) (by omega) (by omega) (by omega) (by omega) (by omega) (by omega) (by omega) (by omega) (by omega) (by omega) (by omega)) (by simp)
set_option maxRecDepth 100000 in
set_option maxHeartbeats 4000000 in
theorem am_ct152_39 {X : List Value} {w : Value} {e : Nat} {g : aF} {h : aA} {E : Nat → aF → aA → Prop} {d : Nat} {z11713 : Int} {z11709 : Int} {z11718 : Int} {z11741 : Int} {z11750 : Int} {z11753 : Int} {z11757 : Int} {z11763 : Int} {fz : aF} {az : aA} (hd : 4 ≤ d + 1) (n : Nat) :
    ∀ {f : aF} {a : aA} {x1 : Int}, (8 * (3500 - am_ph f a) + 3 - f 11701).toNat < n → am_RV g h f a → am_mn fz az f a → (-2147483648 ≤ x1 ∧ x1 ≤ 2147483647) → 0 ≤ x1 → x1 ≤ 8 → f 11713 = z11713 → f 11709 = z11709 → f 11718 = z11718 → f 11741 = z11741 → f 11750 = z11750 → f 11753 = z11753 → f 11757 = z11757 → f 11763 = z11763 → am_TE X (d + 1) am_m151 39 [(0, .ref 117), (1, am_iv x1)] [] f a w e (am_QV (fun f1 a1 => am_RV g h f1 a1 ∧ am_mn fz az f1 a1 ∧ f1 11713 = z11713 ∧ f1 11709 = z11709 ∧ f1 11718 = z11718 ∧ f1 11741 = z11741 ∧ f1 11750 = z11750 ∧ f1 11753 = z11753 ∧ f1 11757 = z11757 ∧ f1 11763 = z11763)) E := by
  induction n with
  | zero => intros; omega
  | succ n ih =>
    intro f a x1 hn hI hp0 hp1 hp2 hp3 hp4 hp5 hp6 hp7 hp8 hp9 hp10 hp11
    have q1 := am_RV_ph hI
    have q2 := am_RV_p0 hI
    have q3 := am_Rg11713 hI.1.1
    have q4 := am_Rg11709 hI.1.1
    have q5 := am_Rg11718 hI.1.1
    have q6 := am_Rg11741 hI.1.1
    have q7 := am_Rg11750 hI.1.1
    have q8 := am_Rg11753 hI.1.1
    have q9 := am_Rg11757 hI.1.1
    have q10 := am_Rg11763 hI.1.1
    have q11 := am_Rg11701 hI.1.1
    refine am_riload_n rfl rfl rfl ?_
    refine am_rif_le rfl rfl (by unfold am_rg; omega) (fun hc12 => ?_) (fun hc12 => ?_)
    · refine am_raload_n rfl rfl rfl ?_
      refine am_rgetf (S1 := [.ref 141]) rfl rfl ?_
      refine am_riconst rfl ?_
      refine am_raload_n rfl rfl rfl ?_
      have q13 := am_Rg11738 hI.1.1
      refine am_rgetf (S1 := [am_iv (f 11738), am_iv 0, .ref 141]) rfl rfl ?_
      have q14 : (a 141).length = 9 := am_Rl141 (am_RL 141 rfl hI.1.1)
      have i15 : am_ib (a 141) 0 := by unfold am_ib; omega
      have hl16 : am_LR 141 ((a 141).set (0 : Int).toNat (f 11738)) := am_RS141 (am_RL 141 rfl hI.1.1) (by omega) (by omega)
      refine am_riastore (l := a 141) (h1 := am_enc f (am_ud a 141 ((a 141).set (0 : Int).toNat (f 11738))) w e) rfl am_ge141 i15 (am_sa141 _) ?_
      refine am_raload_n rfl rfl rfl ?_
      refine am_rgetf (S1 := [.ref 142]) rfl rfl ?_
      refine am_riconst rfl ?_
      refine am_raload_n rfl rfl rfl ?_
      have q17 := am_Rg11739 hI.1.1
      refine am_rgetf (S1 := [am_iv (f 11739), am_iv 0, .ref 142]) rfl rfl ?_
      have q18 : (a 142).length = 9 := am_Rl142 (am_RL 142 rfl hI.1.1)
      have i19 : am_ib (a 142) 0 := by unfold am_ib; omega
      have hl20 : am_LR 142 ((a 142).set (0 : Int).toNat (f 11739)) := am_RS142 (am_RL 142 rfl hI.1.1) (by omega) (by omega)
      refine am_riastore (l := a 142) (h1 := am_enc f (am_ud (am_ud a 141 ((a 141).set (0 : Int).toNat (f 11738))) 142 ((a 142).set (0 : Int).toNat (f 11739))) w e) rfl am_ge142 i19 (am_sa142 _) ?_
      refine am_raload_n rfl rfl rfl ?_
      refine am_rgetf (S1 := [.ref 143]) rfl rfl ?_
      refine am_riconst rfl ?_
      refine am_raload_n rfl rfl rfl ?_
      have q21 := am_Rg11740 hI.1.1
      refine am_rgetf (S1 := [am_iv (f 11740), am_iv 0, .ref 143]) rfl rfl ?_
      have q22 : (a 143).length = 9 := am_Rl143 (am_RL 143 rfl hI.1.1)
      have i23 : am_ib (a 143) 0 := by unfold am_ib; omega
      have hl24 : am_LR 143 ((a 143).set (0 : Int).toNat (f 11740)) := am_RS143 (am_RL 143 rfl hI.1.1) (by omega) (by omega)
      refine am_rbastore (l := a 143) (h1 := am_enc f (am_ud (am_ud (am_ud a 141 ((a 141).set (0 : Int).toNat (f 11738))) 142 ((a 142).set (0 : Int).toNat (f 11739))) 143 ((a 143).set (0 : Int).toNat (f 11740))) w e) rfl am_ge143 i23 (by omega) (am_sa143 _) ?_
      have J25 := am_Ra141 hI hl16
      have J26 := am_Ra142 J25 hl20
      have J27 := am_Ra143 J26 hl24
      have m28 : am_mn fz az f (am_ud a 141 ((a 141).set (0 : Int).toNat (f 11738))) := am_mn_a rfl rfl hp0
      have m29 : am_mn fz az f (am_ud (am_ud a 141 ((a 141).set (0 : Int).toNat (f 11738))) 142 ((a 142).set (0 : Int).toNat (f 11739))) := am_mn_a rfl rfl m28
      have m30 : am_mn fz az f (am_ud (am_ud (am_ud a 141 ((a 141).set (0 : Int).toNat (f 11738))) 142 ((a 142).set (0 : Int).toNat (f 11739))) 143 ((a 143).set (0 : Int).toNat (f 11740))) := am_mn_a rfl rfl m29
      exact am_eret rfl rfl ⟨J27, m30, (show f 11713 = z11713 by omega), (show f 11709 = z11709 by omega), (show f 11718 = z11718 by omega), (show f 11741 = z11741 by omega), (show f 11750 = z11750 by omega), (show f 11753 = z11753 by omega), (show f 11757 = z11757 by omega), (show f 11763 = z11763 by omega)⟩
    · refine am_raload_n rfl rfl rfl ?_
      refine am_rgetf (S1 := [am_iv (f 11701)]) rfl rfl ?_
      refine am_rif_ne rfl rfl (by unfold am_rg; omega) (fun hc31 => ?_) (fun hc31 => ?_)
      · refine am_raload_n rfl rfl rfl ?_
        refine am_rgetf (S1 := [.ref 141]) rfl rfl ?_
        refine am_riconst rfl ?_
        refine am_raload_n rfl rfl rfl ?_
        have q32 := am_Rg11738 hI.1.1
        refine am_rgetf (S1 := [am_iv (f 11738), am_iv 0, .ref 141]) rfl rfl ?_
        have q33 : (a 141).length = 9 := am_Rl141 (am_RL 141 rfl hI.1.1)
        have i34 : am_ib (a 141) 0 := by unfold am_ib; omega
        have hl35 : am_LR 141 ((a 141).set (0 : Int).toNat (f 11738)) := am_RS141 (am_RL 141 rfl hI.1.1) (by omega) (by omega)
        refine am_riastore (l := a 141) (h1 := am_enc f (am_ud a 141 ((a 141).set (0 : Int).toNat (f 11738))) w e) rfl am_ge141 i34 (am_sa141 _) ?_
        refine am_raload_n rfl rfl rfl ?_
        refine am_rgetf (S1 := [.ref 142]) rfl rfl ?_
        refine am_riconst rfl ?_
        refine am_raload_n rfl rfl rfl ?_
        have q36 := am_Rg11739 hI.1.1
        refine am_rgetf (S1 := [am_iv (f 11739), am_iv 0, .ref 142]) rfl rfl ?_
        have q37 : (a 142).length = 9 := am_Rl142 (am_RL 142 rfl hI.1.1)
        have i38 : am_ib (a 142) 0 := by unfold am_ib; omega
        have hl39 : am_LR 142 ((a 142).set (0 : Int).toNat (f 11739)) := am_RS142 (am_RL 142 rfl hI.1.1) (by omega) (by omega)
        refine am_riastore (l := a 142) (h1 := am_enc f (am_ud (am_ud a 141 ((a 141).set (0 : Int).toNat (f 11738))) 142 ((a 142).set (0 : Int).toNat (f 11739))) w e) rfl am_ge142 i38 (am_sa142 _) ?_
        refine am_raload_n rfl rfl rfl ?_
        refine am_rgetf (S1 := [.ref 143]) rfl rfl ?_
        refine am_riconst rfl ?_
        refine am_raload_n rfl rfl rfl ?_
        have q40 := am_Rg11740 hI.1.1
        refine am_rgetf (S1 := [am_iv (f 11740), am_iv 0, .ref 143]) rfl rfl ?_
        have q41 : (a 143).length = 9 := am_Rl143 (am_RL 143 rfl hI.1.1)
        have i42 : am_ib (a 143) 0 := by unfold am_ib; omega
        have hl43 : am_LR 143 ((a 143).set (0 : Int).toNat (f 11740)) := am_RS143 (am_RL 143 rfl hI.1.1) (by omega) (by omega)
        refine am_rbastore (l := a 143) (h1 := am_enc f (am_ud (am_ud (am_ud a 141 ((a 141).set (0 : Int).toNat (f 11738))) 142 ((a 142).set (0 : Int).toNat (f 11739))) 143 ((a 143).set (0 : Int).toNat (f 11740))) w e) rfl am_ge143 i42 (by omega) (am_sa143 _) ?_
        have J44 := am_Ra141 hI hl35
        have J45 := am_Ra142 J44 hl39
        have J46 := am_Ra143 J45 hl43
        have m47 : am_mn fz az f (am_ud a 141 ((a 141).set (0 : Int).toNat (f 11738))) := am_mn_a rfl rfl hp0
        have m48 : am_mn fz az f (am_ud (am_ud a 141 ((a 141).set (0 : Int).toNat (f 11738))) 142 ((a 142).set (0 : Int).toNat (f 11739))) := am_mn_a rfl rfl m47
        have m49 : am_mn fz az f (am_ud (am_ud (am_ud a 141 ((a 141).set (0 : Int).toNat (f 11738))) 142 ((a 142).set (0 : Int).toNat (f 11739))) 143 ((a 143).set (0 : Int).toNat (f 11740))) := am_mn_a rfl rfl m48
        exact am_eret rfl rfl ⟨J46, m49, (show f 11713 = z11713 by omega), (show f 11709 = z11709 by omega), (show f 11718 = z11718 by omega), (show f 11741 = z11741 by omega), (show f 11750 = z11750 by omega), (show f 11753 = z11753 by omega), (show f 11757 = z11757 by omega), (show f 11763 = z11763 by omega)⟩
      · refine am_raload_n rfl rfl rfl ?_
        refine am_evirtualI (m := am_m125) (As := [.ref 117]) (S1 := []) rfl rfl rfl rfl rfl rfl rfl rfl rfl rfl (am_TE.int (am_ct126  (by omega) hI) (fun b50 f50 a50 hq51 => ?_) (fun _ _ _ h => h))
        obtain ⟨hI52, hk53, hq51⟩ := hq51
        replace hq51 : (b50 = 0 ∨ b50 = 1) ∧ f50 11701 = ((f 11701)) ∧ f50 11713 = ((f 11713)) ∧ f50 11701 ≤ 3 - 3 * b50 ∧ (am_ph f a ) + b50 ≤ am_ph f50 a50 ∧ (am_at (a 124) 0) + b50 ≤ am_at (a50 124) 0 + ((f 11713)) := hq51
        have mm54 : f 11701 ≤ f50 11701 ∧ am_ph f a ≤ am_ph f50 a50 ∧ am_at (a 124) 0 ≤ am_at (a50 124) 0 ∧ am_at (a50 125) 0 = am_at (a 125) 0 := hk53.1
        have hm55 := am_mn.trans hp0 hk53.1
        have t56 : f50 11709 = f 11709 := hk53.2.1 11709 rfl
        have t57 : f50 11718 = f 11718 := hk53.2.1 11718 rfl
        have t58 : f50 11741 = f 11741 := hk53.2.1 11741 rfl
        have t59 : f50 11750 = f 11750 := hk53.2.1 11750 rfl
        have t60 : f50 11753 = f 11753 := hk53.2.1 11753 rfl
        have t61 : f50 11757 = f 11757 := hk53.2.1 11757 rfl
        have t62 : f50 11763 = f 11763 := hk53.2.1 11763 rfl
        refine am_rpop rfl rfl ?_
        refine am_raload_n rfl rfl rfl ?_
        refine am_evirtualI (m := am_m121) (As := [.ref 117]) (S1 := []) rfl rfl rfl rfl rfl rfl rfl rfl rfl rfl (am_TE.int (am_ct122  (by omega) hI52) (fun b63 f63 a63 hq64 => ?_) (fun _ _ _ h => h))
        obtain ⟨rfl, rfl, hq64⟩ := hq64
        refine am_rbipush rfl (by decide) ?_
        refine am_ric_ne rfl rfl (by unfold am_rg; omega) (by unfold am_rg; omega) (fun hc65 => ?_) (fun hc65 => ?_)
        · refine am_raload_n rfl rfl rfl ?_
          refine am_evirtualI (m := am_m127) (As := [.ref 117]) (S1 := []) rfl rfl rfl rfl rfl rfl rfl rfl rfl rfl (am_TE.int (am_ct128  (by omega) hI52) (fun b66 f66 a66 hq67 => ?_) (fun _ _ _ h => h))
          obtain ⟨hI68, hk69, hq67⟩ := hq67
          replace hq67 : (-2147483648 ≤ b66 ∧ b66 ≤ 2147483647) ∧ f66 11713 = ((f50 11713)) ∧ (am_ph f50 a50 ) + 1 ≤ am_ph f66 a66 + 1 * (f66 11701) ∧ (am_at (a50 124) 0) + 1 ≤ am_at (a66 124) 0 + 1 * (f66 11701) + 1 * ((f50 11713)) ∧ (0 ≤ b66 ∧ b66 ≤ 25) := hq67
          have mm70 : f50 11701 ≤ f66 11701 ∧ am_ph f50 a50 ≤ am_ph f66 a66 ∧ am_at (a50 124) 0 ≤ am_at (a66 124) 0 ∧ am_at (a66 125) 0 = am_at (a50 125) 0 := hk69.1
          have hm71 := am_mn.trans hm55 hk69.1
          have t72 : f66 11709 = f50 11709 := hk69.2.1 11709 rfl
          have t73 : f66 11718 = f50 11718 := hk69.2.1 11718 rfl
          have t74 : f66 11741 = f50 11741 := hk69.2.1 11741 rfl
          have t75 : f66 11750 = f50 11750 := hk69.2.1 11750 rfl
          have t76 : f66 11753 = f50 11753 := hk69.2.1 11753 rfl
          have t77 : f66 11757 = f50 11757 := hk69.2.1 11757 rfl
          have t78 : f66 11763 = f50 11763 := hk69.2.1 11763 rfl
          refine am_ristore_n (L1 := [(0, .ref 117), (1, am_iv x1), (2, am_iv b66)]) rfl rfl rfl rfl rfl ?_
          refine am_raload_n rfl rfl rfl ?_
          have q79 := am_Rg11701 hI68.1.1
          refine am_rgetf (S1 := [am_iv (f66 11701)]) rfl rfl ?_
          refine am_rif_ne rfl rfl (by unfold am_rg; omega) (fun hc80 => ?_) (fun hc80 => ?_)
          · refine am_raload_n rfl rfl rfl ?_
            refine am_riload_n rfl rfl rfl ?_
            refine am_evirtualI (m := am_m152) (As := [.ref 117, am_iv x1]) (S1 := []) rfl rfl rfl rfl rfl rfl rfl rfl rfl rfl (am_TE.int (am_ct153 (y1 := x1) (by omega) hI68 (by omega) (show 0 ≤ x1 by omega) (show x1 ≤ 8 by omega)) (fun b81 f81 a81 hq82 => ?_) (fun _ _ _ h => h))
            obtain ⟨hI83, hk84, hq82⟩ := hq82
            replace hq82 : (-2147483648 ≤ b81 ∧ b81 ≤ 2147483647) ∧ f81 11713 = ((f66 11713)) ∧ f81 11709 = ((f66 11709)) ∧ f81 11718 = ((f66 11718)) ∧ f81 11741 = ((f66 11741)) ∧ f81 11750 = ((f66 11750)) ∧ f81 11753 = ((f66 11753)) ∧ f81 11757 = ((f66 11757)) ∧ f81 11763 = ((f66 11763)) ∧ (0 ≤ b81 ∧ b81 ≤ 8) := hq82
            have mm85 : f66 11701 ≤ f81 11701 ∧ am_ph f66 a66 ≤ am_ph f81 a81 ∧ am_at (a66 124) 0 ≤ am_at (a81 124) 0 ∧ am_at (a81 125) 0 = am_at (a66 125) 0 := hk84
            have hm86 := am_mn.trans hm71 hk84
            refine am_ristore_n (L1 := [(0, .ref 117), (1, am_iv b81), (2, am_iv b66)]) rfl rfl rfl rfl rfl ?_
            refine am_rgoto rfl rfl ?_
            have q87 := am_Rg11701 hI83.1.1
            have q88 := am_Rg11713 hI83.1.1
            have q89 := am_Rg11709 hI83.1.1
            have q90 := am_Rg11718 hI83.1.1
            have q91 := am_Rg11741 hI83.1.1
            have q92 := am_Rg11750 hI83.1.1
            have q93 := am_Rg11753 hI83.1.1
            have q94 := am_Rg11757 hI83.1.1
            have q95 := am_Rg11763 hI83.1.1
            exact am_T.drop (L1 := [(0, .ref 117), (1, am_iv b81)]) (ih (by omega) hI83 hm86 (by omega) (by omega) (by omega) (by omega) (by omega) (by omega) (by omega) (by omega) (by omega) (by omega) (by omega)) (by simp)
          · refine am_raload_n rfl rfl rfl ?_
            refine am_riload_n rfl rfl rfl ?_
            refine am_evirtualV (m := am_m150) (As := [.ref 117, am_iv b66]) (S1 := []) rfl rfl rfl rfl rfl rfl rfl rfl rfl rfl (am_TE.void (am_ct151 (y1 := b66) (by omega) hI68 (by omega)) (fun f96 a96 hq97 => ?_) (fun _ _ _ h => h))
            obtain ⟨hI98, hk99, hq97⟩ := hq97
            replace hq97 : f96 11713 = ((f66 11713)) ∧ f96 11709 = ((f66 11709)) ∧ f96 11718 = ((f66 11718)) ∧ f96 11741 = ((f66 11741)) ∧ f96 11750 = ((f66 11750)) ∧ f96 11753 = ((f66 11753)) ∧ f96 11757 = ((f66 11757)) ∧ f96 11763 = ((f66 11763)) := hq97
            have mm100 : f66 11701 ≤ f96 11701 ∧ am_ph f66 a66 ≤ am_ph f96 a96 ∧ am_at (a66 124) 0 ≤ am_at (a96 124) 0 ∧ am_at (a96 125) 0 = am_at (a66 125) 0 := hk99
            have hm101 := am_mn.trans hm71 hk99
            refine am_raload_n rfl rfl rfl ?_
            refine am_riload_n rfl rfl rfl ?_
            refine am_evirtualI (m := am_m152) (As := [.ref 117, am_iv x1]) (S1 := []) rfl rfl rfl rfl rfl rfl rfl rfl rfl rfl (am_TE.int (am_ct153 (y1 := x1) (by omega) hI98 (by omega) (show 0 ≤ x1 by omega) (show x1 ≤ 8 by omega)) (fun b102 f102 a102 hq103 => ?_) (fun _ _ _ h => h))
            obtain ⟨hI104, hk105, hq103⟩ := hq103
            replace hq103 : (-2147483648 ≤ b102 ∧ b102 ≤ 2147483647) ∧ f102 11713 = ((f96 11713)) ∧ f102 11709 = ((f96 11709)) ∧ f102 11718 = ((f96 11718)) ∧ f102 11741 = ((f96 11741)) ∧ f102 11750 = ((f96 11750)) ∧ f102 11753 = ((f96 11753)) ∧ f102 11757 = ((f96 11757)) ∧ f102 11763 = ((f96 11763)) ∧ (0 ≤ b102 ∧ b102 ≤ 8) := hq103
            have mm106 : f96 11701 ≤ f102 11701 ∧ am_ph f96 a96 ≤ am_ph f102 a102 ∧ am_at (a96 124) 0 ≤ am_at (a102 124) 0 ∧ am_at (a102 125) 0 = am_at (a96 125) 0 := hk105
            have hm107 := am_mn.trans hm101 hk105
            refine am_ristore_n (L1 := [(0, .ref 117), (1, am_iv b102), (2, am_iv b66)]) rfl rfl rfl rfl rfl ?_
            refine am_rgoto rfl rfl ?_
            have q108 := am_Rg11701 hI104.1.1
            have q109 := am_Rg11713 hI104.1.1
            have q110 := am_Rg11709 hI104.1.1
            have q111 := am_Rg11718 hI104.1.1
            have q112 := am_Rg11741 hI104.1.1
            have q113 := am_Rg11750 hI104.1.1
            have q114 := am_Rg11753 hI104.1.1
            have q115 := am_Rg11757 hI104.1.1
            have q116 := am_Rg11763 hI104.1.1
            exact am_T.drop (L1 := [(0, .ref 117), (1, am_iv b102)]) (ih (by omega) hI104 hm107 (by omega) (by omega) (by omega) (by omega) (by omega) (by omega) (by omega) (by omega) (by omega) (by omega) (by omega)) (by simp)
        · refine am_raload_n rfl rfl rfl ?_
          have ok117 : f50 11701 = 0 ∧ am_at (a50 124) (f50 11713) < am_at (a50 125) (f50 11713) := am_PK.ok hq64.2.2.1 (by omega)
          have q118 := am_Rg11713 hI52.1.1
          refine am_evirtualV (m := am_m122) (As := [.ref 117]) (S1 := []) rfl rfl rfl rfl rfl rfl rfl rfl rfl rfl (am_TE.void (am_ct123  (by omega) hI52 (show am_at (a50 124) ((f50 11713)) < am_at (a50 125) ((f50 11713)) by omega)) (fun f119 a119 hq120 => ?_) (fun _ _ _ h => h))
          obtain ⟨hI121, hk122, hq120⟩ := hq120
          replace hq120 : f119 11701 = ((f50 11701)) ∧ f119 11713 = ((f50 11713)) ∧ am_ph f119 a119 = (am_ph f50 a50 ) + 1 ∧ (((f50 11713)) = 0 → am_at (a119 124) 0 = (am_at (a50 124) 0) + 1) := hq120
          have mm123 : f50 11701 ≤ f119 11701 ∧ am_ph f50 a50 ≤ am_ph f119 a119 ∧ am_at (a50 124) 0 ≤ am_at (a119 124) 0 ∧ am_at (a119 125) 0 = am_at (a50 125) 0 := hk122.1
          have hm124 := am_mn.trans hm55 hk122.1
          have t125 : f119 11709 = f50 11709 := hk122.2.1 11709 rfl
          have t126 : f119 11718 = f50 11718 := hk122.2.1 11718 rfl
          have t127 : f119 11741 = f50 11741 := hk122.2.1 11741 rfl
          have t128 : f119 11750 = f50 11750 := hk122.2.1 11750 rfl
          have t129 : f119 11753 = f50 11753 := hk122.2.1 11753 rfl
          have t130 : f119 11757 = f50 11757 := hk122.2.1 11757 rfl
          have t131 : f119 11763 = f50 11763 := hk122.2.1 11763 rfl
          refine am_riload_n rfl rfl rfl ?_
          refine am_rbipush rfl (by decide) ?_
          refine am_ric_ne rfl rfl (by unfold am_rg; omega) (by unfold am_rg; omega) (fun hc132 => ?_) (fun hc132 => ?_)
          · refine am_riinc (L1 := [(0, .ref 117), (1, am_iv (x1 + 1))]) rfl rfl rfl rfl rfl ?_
            refine am_raload_n rfl rfl rfl ?_
            have q133 := am_Rg11701 hI121.1.1
            refine am_rgetf (S1 := [am_iv (f119 11701)]) rfl rfl ?_
            refine am_rif_ne rfl rfl (by unfold am_rg; omega) (fun hc134 => ?_) (fun hc134 => ?_)
            · have q135 := am_Rg11713 hI121.1.1
              have q136 := am_Rg11709 hI121.1.1
              have q137 := am_Rg11718 hI121.1.1
              have q138 := am_Rg11741 hI121.1.1
              have q139 := am_Rg11750 hI121.1.1
              have q140 := am_Rg11753 hI121.1.1
              have q141 := am_Rg11757 hI121.1.1
              have q142 := am_Rg11763 hI121.1.1
              exact ih (by omega) hI121 hm124 (by omega) (by omega) (by omega) (by omega) (by omega) (by omega) (by omega) (by omega) (by omega) (by omega) (by omega)
            · refine am_raload_n rfl rfl rfl ?_
              refine am_riload_n rfl rfl rfl ?_
              refine am_evirtualV (m := am_m149) (As := [.ref 117, am_iv (x1 + 1)]) (S1 := []) rfl rfl rfl rfl rfl rfl rfl rfl rfl rfl (am_TE.void (am_ct150 (y1 := (x1 + 1)) (by omega) hI121 (by omega) (show 0 ≤ (x1 + 1) by omega) (show (x1 + 1) ≤ 8 by omega)) (fun f143 a143 hq144 => ?_) (fun _ _ _ h => h))
              obtain ⟨hI145, hk146, hq144⟩ := hq144
              replace hq144 : f143 11713 = ((f119 11713)) ∧ f143 11709 = ((f119 11709)) ∧ f143 11718 = ((f119 11718)) ∧ f143 11741 = ((f119 11741)) ∧ f143 11750 = ((f119 11750)) ∧ f143 11753 = ((f119 11753)) ∧ f143 11757 = ((f119 11757)) ∧ f143 11763 = ((f119 11763)) ∧ f143 11701 = ((f119 11701)) := hq144
              have mm147 : f119 11701 ≤ f143 11701 ∧ am_ph f119 a119 ≤ am_ph f143 a143 ∧ am_at (a119 124) 0 ≤ am_at (a143 124) 0 ∧ am_at (a143 125) 0 = am_at (a119 125) 0 := hk146
              have hm148 := am_mn.trans hm124 hk146
              refine am_rgoto rfl rfl ?_
              have q149 := am_Rg11701 hI145.1.1
              have q150 := am_Rg11713 hI145.1.1
              have q151 := am_Rg11709 hI145.1.1
              have q152 := am_Rg11718 hI145.1.1
              have q153 := am_Rg11741 hI145.1.1
              have q154 := am_Rg11750 hI145.1.1
              have q155 := am_Rg11753 hI145.1.1
              have q156 := am_Rg11757 hI145.1.1
              have q157 := am_Rg11763 hI145.1.1
              exact ih (by omega) hI145 hm148 (by omega) (by omega) (by omega) (by omega) (by omega) (by omega) (by omega) (by omega) (by omega) (by omega) (by omega)
          · refine am_raload_n rfl rfl rfl ?_
            refine am_riconst rfl ?_
            have q158 := am_Rg11701 hI121.1.1
            refine am_evirtualV (m := am_m116) (As := [.ref 117, am_iv 2]) (S1 := []) rfl rfl rfl rfl rfl rfl rfl rfl rfl rfl (am_TE.void (am_ct117 (y1 := 2) (by omega) (by omega) (show 1 ≤ 2 by omega) (show 2 ≤ 3 by omega) (show 0 ≤ (f119 11701) by omega) (show (f119 11701) ≤ 3 by omega)) (fun f159 a159 hq160 => ?_) (fun _ _ _ h => h))
            obtain ⟨v161, rfl, rfl, hq160⟩ := hq160
            replace hq160 : 0 < v161 ∧ v161 ≤ 3 ∧ f119 11701 ≤ v161 := hq160
            refine am_rgoto rfl rfl ?_
            refine am_raload_n rfl rfl rfl ?_
            refine am_rgetf (S1 := [am_iv v161]) rfl rfl ?_
            refine am_rif_ne rfl rfl (by unfold am_rg; omega) (fun hc162 => ?_) (fun hc162 => ?_)
            rotate_left
            · exfalso; omega
            have J163 := am_Rf11701 (v := v161) hI121 (by omega) (by omega)
            have m164 : am_mn fz az (am_ud f119 11701 v161) a119 := am_mn.halt hm124 (by omega)
            have q165 := am_Rg11713 hI121.1.1
            have q166 := am_Rg11709 hI121.1.1
            have q167 := am_Rg11718 hI121.1.1
            have q168 := am_Rg11741 hI121.1.1
            have q169 := am_Rg11750 hI121.1.1
            have q170 := am_Rg11753 hI121.1.1
            have q171 := am_Rg11757 hI121.1.1
            have q172 := am_Rg11763 hI121.1.1
            exact ih (show (8 * (3500 - am_ph f119 a119 ) + 3 - (v161)).toNat < n by omega) J163 m164 (show (-2147483648 ≤ x1 ∧ x1 ≤ 2147483647) by omega) (show 0 ≤ x1 by omega) (show x1 ≤ 8 by omega) (show (f119 11713) = z11713 by omega) (show (f119 11709) = z11709 by omega) (show (f119 11718) = z11718 by omega) (show (f119 11741) = z11741 by omega) (show (f119 11750) = z11750 by omega) (show (f119 11753) = z11753 by omega) (show (f119 11757) = z11757 by omega) (show (f119 11763) = z11763 by omega)
set_option maxRecDepth 100000 in
set_option maxHeartbeats 4000000 in
theorem am_ct152_14 {X : List Value} {w : Value} {e : Nat} {g : aF} {h : aA} {E : Nat → aF → aA → Prop} {d : Nat} {z11713 : Int} {z11709 : Int} {z11718 : Int} {z11741 : Int} {z11750 : Int} {z11753 : Int} {z11757 : Int} {z11763 : Int} {fz : aF} {az : aA} (hd : 4 ≤ d + 1) (n : Nat) :
    ∀ {f : aF} {a : aA} {x1 : Int} {x2 : Int}, (810 - x2).toNat < n → am_RV g h f a → am_mn fz az f a → (-2147483648 ≤ x1 ∧ x1 ≤ 2147483647) → (-2147483648 ≤ x2 ∧ x2 ≤ 2147483647) → 780 ≤ x2 → 0 ≤ x1 → x1 ≤ 8 → f 11713 = z11713 → f 11709 = z11709 → f 11718 = z11718 → f 11741 = z11741 → f 11750 = z11750 → f 11753 = z11753 → f 11757 = z11757 → f 11763 = z11763 → am_TE X (d + 1) am_m151 14 [(0, .ref 117), (1, am_iv x1), (2, am_iv x2)] [] f a w e (am_QV (fun f1 a1 => am_RV g h f1 a1 ∧ am_mn fz az f1 a1 ∧ f1 11713 = z11713 ∧ f1 11709 = z11709 ∧ f1 11718 = z11718 ∧ f1 11741 = z11741 ∧ f1 11750 = z11750 ∧ f1 11753 = z11753 ∧ f1 11757 = z11757 ∧ f1 11763 = z11763)) E := by
  induction n with
  | zero => intros; omega
  | succ n ih =>
    intro f a x1 x2 hn hI hp0 hp1 hp2 hp3 hp4 hp5 hp6 hp7 hp8 hp9 hp10 hp11 hp12 hp13
    have q1 := am_RV_ph hI
    have q2 := am_RV_p0 hI
    have q3 := am_Rg11713 hI.1.1
    have q4 := am_Rg11709 hI.1.1
    have q5 := am_Rg11718 hI.1.1
    have q6 := am_Rg11741 hI.1.1
    have q7 := am_Rg11750 hI.1.1
    have q8 := am_Rg11753 hI.1.1
    have q9 := am_Rg11757 hI.1.1
    have q10 := am_Rg11763 hI.1.1
    refine am_riload_n rfl rfl rfl ?_
    refine am_rsipush rfl (by decide) ?_
    refine am_ric_ge rfl rfl (by unfold am_rg; omega) (by unfold am_rg; omega) (fun hc11 => ?_) (fun hc11 => ?_)
    · refine am_raload_n rfl rfl rfl ?_
      refine am_riconst rfl ?_
      refine am_evirtualV (m := am_m149) (As := [.ref 117, am_iv 1]) (S1 := []) rfl rfl rfl rfl rfl rfl rfl rfl rfl rfl (am_TE.void (am_ct150 (y1 := 1) (by omega) hI (by omega) (show 0 ≤ 1 by omega) (show 1 ≤ 8 by omega)) (fun f12 a12 hq13 => ?_) (fun _ _ _ h => h))
      obtain ⟨hI14, hk15, hq13⟩ := hq13
      replace hq13 : f12 11713 = ((f 11713)) ∧ f12 11709 = ((f 11709)) ∧ f12 11718 = ((f 11718)) ∧ f12 11741 = ((f 11741)) ∧ f12 11750 = ((f 11750)) ∧ f12 11753 = ((f 11753)) ∧ f12 11757 = ((f 11757)) ∧ f12 11763 = ((f 11763)) ∧ f12 11701 = ((f 11701)) := hq13
      have mm16 : f 11701 ≤ f12 11701 ∧ am_ph f a ≤ am_ph f12 a12 ∧ am_at (a 124) 0 ≤ am_at (a12 124) 0 ∧ am_at (a12 125) 0 = am_at (a 125) 0 := hk15
      have hm17 := am_mn.trans hp0 hk15
      have q18 := am_Rg11701 hI14.1.1
      have q19 := am_Rg11713 hI14.1.1
      have q20 := am_Rg11709 hI14.1.1
      have q21 := am_Rg11718 hI14.1.1
      have q22 := am_Rg11741 hI14.1.1
      have q23 := am_Rg11750 hI14.1.1
      have q24 := am_Rg11753 hI14.1.1
      have q25 := am_Rg11757 hI14.1.1
      have q26 := am_Rg11763 hI14.1.1
      exact am_T.drop (L1 := [(0, .ref 117), (1, am_iv x1)]) (am_ct152_39 hd (_ + 1) (Nat.lt_succ_self _) hI14 hm17 (by omega) (by omega) (by omega) (by omega) (by omega) (by omega) (by omega) (by omega) (by omega) (by omega) (by omega)) (by simp)
    · refine am_raload_n rfl rfl rfl ?_
      refine am_rgetf (S1 := [.ref 135]) rfl rfl ?_
      refine am_riload_n rfl rfl rfl ?_
      refine am_riconst rfl ?_
      have q27 : (a 135).length = 810 := am_Rl135 (am_RL 135 rfl hI.1.1)
      have i28 : am_ib (a 135) x2 := by unfold am_ib; omega
      have hl29 : am_LR 135 ((a 135).set x2.toNat 0) := am_RS135 (am_RL 135 rfl hI.1.1) (by omega) (by omega)
      refine am_riastore (l := a 135) (h1 := am_enc f (am_ud a 135 ((a 135).set x2.toNat 0)) w e) rfl am_ge135 i28 (am_sa135 _) ?_
      refine am_riinc (L1 := [(0, .ref 117), (1, am_iv x1), (2, am_iv (x2 + 1))]) rfl rfl rfl rfl rfl ?_
      refine am_rgoto rfl rfl ?_
      have q30 := am_Rg11701 hI.1.1
      have J31 := am_Ra135 hI hl29
      have m32 : am_mn fz az f (am_ud a 135 ((a 135).set x2.toNat 0)) := am_mn_a rfl rfl hp0
      exact ih (show (810 - (x2 + 1)).toNat < n by omega) J31 m32 (show (-2147483648 ≤ x1 ∧ x1 ≤ 2147483647) by omega) (show (-2147483648 ≤ (x2 + 1) ∧ (x2 + 1) ≤ 2147483647) by omega) (show 780 ≤ (x2 + 1) by omega) (show 0 ≤ x1 by omega) (show x1 ≤ 8 by omega) (show (f 11713) = z11713 by omega) (show (f 11709) = z11709 by omega) (show (f 11718) = z11718 by omega) (show (f 11741) = z11741 by omega) (show (f 11750) = z11750 by omega) (show (f 11753) = z11753 by omega) (show (f 11757) = z11757 by omega) (show (f 11763) = z11763 by omega)
set_option maxRecDepth 100000 in
set_option maxHeartbeats 4000000 in
theorem am_ct152 {X : List Value} {w : Value} {e : Nat} {g : aF} {h : aA} {E : Nat → aF → aA → Prop} {d : Nat} {f : aF} {a : aA} (hd : 4 ≤ d) (hI : am_RV g h f a) :
    am_TE X d am_m151 0 (lv_args 0 [.ref 117]) [] f a w e (am_QV (fun f1 a1 => am_RV g h f1 a1 ∧ am_mn f a f1 a1 ∧ f1 11713 = (f 11713) ∧ f1 11709 = (f 11709) ∧ f1 11718 = (f 11718) ∧ f1 11741 = (f 11741) ∧ f1 11750 = (f 11750) ∧ f1 11753 = (f 11753) ∧ f1 11757 = (f 11757) ∧ f1 11763 = (f 11763))) E := by
  obtain ⟨d, rfl⟩ : ∃ d0, d = d0 + 1 := ⟨d - 1, by omega⟩
  have q1 := am_RV_ph hI
  have q2 := am_RV_p0 hI
  refine am_riconst rfl ?_
  refine am_ristore_n (L1 := [(0, .ref 117), (1, am_iv 1)]) rfl rfl rfl rfl rfl ?_
  refine am_raload_n rfl rfl rfl ?_
  refine am_rgetf (S1 := [.ref 136]) rfl rfl ?_
  refine am_rbipush rfl (by decide) ?_
  refine am_riconst rfl ?_
  have q3 : (a 136).length = 27 := am_Rl136 (am_RL 136 rfl hI.1.1)
  have i4 : am_ib (a 136) 26 := by unfold am_ib; omega
  have hl5 : am_LR 136 ((a 136).set (26 : Int).toNat 0) := am_RS136 (am_RL 136 rfl hI.1.1) (by omega) (by omega)
  refine am_riastore (l := a 136) (h1 := am_enc f (am_ud a 136 ((a 136).set (26 : Int).toNat 0)) w e) rfl am_ge136 i4 (am_sa136 _) ?_
  refine am_rsipush rfl (by decide) ?_
  refine am_ristore_n (L1 := [(0, .ref 117), (1, am_iv 1), (2, am_iv 780)]) rfl rfl rfl rfl rfl ?_
  have q6 := am_Rg11701 hI.1.1
  have J7 := am_Ra136 hI hl5
  have m8 : am_mn f a f (am_ud a 136 ((a 136).set (26 : Int).toNat 0)) := am_mn_a rfl rfl (am_mn.refl f a)
  have q9 := am_Rg11713 hI.1.1
  have q10 := am_Rg11709 hI.1.1
  have q11 := am_Rg11718 hI.1.1
  have q12 := am_Rg11741 hI.1.1
  have q13 := am_Rg11750 hI.1.1
  have q14 := am_Rg11753 hI.1.1
  have q15 := am_Rg11757 hI.1.1
  have q16 := am_Rg11763 hI.1.1
  exact am_ct152_14 hd (_ + 1) (Nat.lt_succ_self _) J7 m8 (show (-2147483648 ≤ 1 ∧ 1 ≤ 2147483647) by omega) (show (-2147483648 ≤ 780 ∧ 780 ≤ 2147483647) by omega) (show 780 ≤ 780 by omega) (show 0 ≤ 1 by omega) (show 1 ≤ 8 by omega) (show (f 11713) = (f 11713) by omega) (show (f 11709) = (f 11709) by omega) (show (f 11718) = (f 11718) by omega) (show (f 11741) = (f 11741) by omega) (show (f 11750) = (f 11750) by omega) (show (f 11753) = (f 11753) by omega) (show (f 11757) = (f 11757) by omega) (show (f 11763) = (f 11763) by omega)
set_option maxRecDepth 100000 in
set_option maxHeartbeats 4000000 in
theorem am_ct154_5 {X : List Value} {w : Value} {e : Nat} {g : aF} {h : aA} {E : Nat → aF → aA → Prop} {d : Nat} (hd : 1 ≤ d + 1) (n : Nat) :
    ∀ {f : aF} {a : aA} {x1 : Int} {x2 : Int} {x3 : Int} {x4 : Int}, (30 - x4).toNat < n → am_RV g h f a → (-2147483648 ≤ x1 ∧ x1 ≤ 2147483647) → (-2147483648 ≤ x2 ∧ x2 ≤ 2147483647) → (-2147483648 ≤ x3 ∧ x3 ≤ 2147483647) → (-2147483648 ≤ x4 ∧ x4 ≤ 2147483647) → 0 ≤ x4 → 0 ≤ x1 → x1 ≤ 25 → am_TE X (d + 1) am_m153 5 [(0, .ref 117), (1, am_iv x1), (2, am_iv x2), (3, am_iv x3), (4, am_iv x4)] [] f a w e (am_QI (fun b f1 a1 => f = f1 ∧ a = a1 ∧ (b = 0 ∨ b = 1))) E := by
  induction n with
  | zero => intros; omega
  | succ n ih =>
    intro f a x1 x2 x3 x4 hn hI hp0 hp1 hp2 hp3 hp4 hp5 hp6
    have q1 := am_RV_ph hI
    refine am_riload rfl rfl rfl ?_
    refine am_rbipush rfl (by decide) ?_
    refine am_ric_ge rfl rfl (by unfold am_rg; omega) (by unfold am_rg; omega) (fun hc2 => ?_) (fun hc2 => ?_)
    · refine am_riconst rfl ?_
      have q3 := am_Rg11701 hI.1.1
      exact am_ebret rfl rfl (by omega) ⟨rfl, rfl, (show ((1 : Int) = 0 ∨ (1 : Int) = 1) by omega)⟩
    · refine am_riload_n rfl rfl rfl ?_
      refine am_riload rfl rfl rfl ?_
      have q4 := am_shr_rg x2 x4
      refine am_rishr rfl ?_
      refine am_riconst rfl ?_
      have q5 := am_and_rg (am_shr x2 x4) 1
      refine am_riand rfl ?_
      refine am_riconst rfl ?_
      refine am_ric_ne rfl rfl (by unfold am_rg; omega) (by unfold am_rg; omega) (fun hc6 => ?_) (fun hc6 => ?_)
      · refine am_riconst rfl ?_
        refine am_ristore (L1 := [(0, .ref 117), (1, am_iv x1), (2, am_iv x2), (3, am_iv x3), (4, am_iv x4), (5, am_iv 0)]) rfl rfl rfl rfl rfl ?_
        refine am_riload_n rfl rfl rfl ?_
        refine am_riload rfl rfl rfl ?_
        have q7 := am_and_rg x3 0
        refine am_riand rfl ?_
        refine am_rif_eq rfl rfl (by unfold am_rg; omega) (fun hc8 => ?_) (fun hc8 => ?_)
        · refine am_riload_n rfl rfl rfl ?_
          refine am_riload rfl rfl rfl ?_
          have q9 := am_or_rg x3 0
          refine am_rior rfl ?_
          refine am_ristore_n (L1 := [(0, .ref 117), (1, am_iv x1), (2, am_iv x2), (3, am_iv (am_or x3 0)), (4, am_iv x4), (5, am_iv 0)]) rfl rfl rfl rfl rfl ?_
          refine am_riinc (L1 := [(0, .ref 117), (1, am_iv x1), (2, am_iv x2), (3, am_iv (am_or x3 0)), (4, am_iv (x4 + 1)), (5, am_iv 0)]) rfl rfl rfl rfl rfl ?_
          refine am_rgoto rfl rfl ?_
          have q10 := am_Rg11701 hI.1.1
          exact am_T.drop (L1 := [(0, .ref 117), (1, am_iv x1), (2, am_iv x2), (3, am_iv (am_or x3 0)), (4, am_iv (x4 + 1))]) (ih (by omega) hI (by omega) (by omega) (by omega) (by omega) (by omega) (by omega) (by omega)) (by simp)
        · refine am_riconst rfl ?_
          have q11 := am_Rg11701 hI.1.1
          exact am_ebret rfl rfl (by omega) ⟨rfl, rfl, (show ((0 : Int) = 0 ∨ (0 : Int) = 1) by omega)⟩
      · refine am_riconst rfl ?_
        refine am_raload_n rfl rfl rfl ?_
        refine am_rgetf (S1 := [.ref 134, am_iv 1]) rfl rfl ?_
        refine am_rbipush rfl (by decide) ?_
        refine am_riload_n rfl rfl rfl ?_
        refine am_rimul rfl ?_
        refine am_riload rfl rfl rfl ?_
        refine am_riadd rfl ?_
        have q12 : (a 134).length = 810 := am_Rl134 (am_RL 134 rfl hI.1.1)
        have i13 : am_ib (a 134) ((30 * x1) + x4) := by unfold am_ib; omega
        have q14 := am_Rb134 (am_RL 134 rfl hI.1.1) i13
        refine am_riaload (l := a 134) rfl am_ge134 i13 ?_
        have q15 := am_shl_rg 1 (am_at (a 134) ((30 * x1) + x4))
        refine am_rishl rfl ?_
        refine am_rgoto rfl rfl ?_
        refine am_ristore (L1 := [(0, .ref 117), (1, am_iv x1), (2, am_iv x2), (3, am_iv x3), (4, am_iv x4), (5, am_iv (am_shl 1 (am_at (a 134) ((30 * x1) + x4))))]) rfl rfl rfl rfl rfl ?_
        refine am_riload_n rfl rfl rfl ?_
        refine am_riload rfl rfl rfl ?_
        have q16 := am_and_rg x3 (am_shl 1 (am_at (a 134) ((30 * x1) + x4)))
        refine am_riand rfl ?_
        refine am_rif_eq rfl rfl (by unfold am_rg; omega) (fun hc17 => ?_) (fun hc17 => ?_)
        · refine am_riload_n rfl rfl rfl ?_
          refine am_riload rfl rfl rfl ?_
          have q18 := am_or_rg x3 (am_shl 1 (am_at (a 134) ((30 * x1) + x4)))
          refine am_rior rfl ?_
          refine am_ristore_n (L1 := [(0, .ref 117), (1, am_iv x1), (2, am_iv x2), (3, am_iv (am_or x3 (am_shl 1 (am_at (a 134) ((30 * x1) + x4))))), (4, am_iv x4), (5, am_iv (am_shl 1 (am_at (a 134) ((30 * x1) + x4))))]) rfl rfl rfl rfl rfl ?_
          refine am_riinc (L1 := [(0, .ref 117), (1, am_iv x1), (2, am_iv x2), (3, am_iv (am_or x3 (am_shl 1 (am_at (a 134) ((30 * x1) + x4))))), (4, am_iv (x4 + 1)), (5, am_iv (am_shl 1 (am_at (a 134) ((30 * x1) + x4))))]) rfl rfl rfl rfl rfl ?_
          refine am_rgoto rfl rfl ?_
          have q19 := am_Rg11701 hI.1.1
          exact am_T.drop (L1 := [(0, .ref 117), (1, am_iv x1), (2, am_iv x2), (3, am_iv (am_or x3 (am_shl 1 (am_at (a 134) ((30 * x1) + x4))))), (4, am_iv (x4 + 1))]) (ih (by omega) hI (by omega) (by omega) (by omega) (by omega) (by omega) (by omega) (by omega)) (by simp)
        · refine am_riconst rfl ?_
          have q20 := am_Rg11701 hI.1.1
          exact am_ebret rfl rfl (by omega) ⟨rfl, rfl, (show ((0 : Int) = 0 ∨ (0 : Int) = 1) by omega)⟩
set_option maxRecDepth 100000 in
set_option maxHeartbeats 4000000 in
theorem am_ct154 {X : List Value} {w : Value} {e : Nat} {g : aF} {h : aA} {E : Nat → aF → aA → Prop} {d : Nat} {y1 : Int} {y2 : Int} {f : aF} {a : aA} (hd : 1 ≤ d) (hI : am_RV g h f a) (hp0 : (-2147483648 ≤ y1 ∧ y1 ≤ 2147483647)) (hp1 : (-2147483648 ≤ y2 ∧ y2 ≤ 2147483647)) (hp2 : 0 ≤ y1) (hp3 : y1 ≤ 25) :
    am_TE X d am_m153 0 (lv_args 0 [.ref 117, am_iv y1, am_iv y2]) [] f a w e (am_QI (fun b f1 a1 => f = f1 ∧ a = a1 ∧ (b = 0 ∨ b = 1))) E := by
  obtain ⟨d, rfl⟩ : ∃ d0, d = d0 + 1 := ⟨d - 1, by omega⟩
  have q1 := am_RV_ph hI
  refine am_riconst rfl ?_
  refine am_ristore_n (L1 := [(0, .ref 117), (1, am_iv y1), (2, am_iv y2), (3, am_iv 0)]) rfl rfl rfl rfl rfl ?_
  refine am_riconst rfl ?_
  refine am_ristore (L1 := [(0, .ref 117), (1, am_iv y1), (2, am_iv y2), (3, am_iv 0), (4, am_iv 0)]) rfl rfl rfl rfl rfl ?_
  have q2 := am_Rg11701 hI.1.1
  exact am_ct154_5 hd (_ + 1) (Nat.lt_succ_self _) hI (by omega) (by omega) (by omega) (by omega) (by omega) (by omega) (by omega)
set_option maxRecDepth 100000 in
set_option maxHeartbeats 4000000 in
theorem am_ct155_14 {X : List Value} {w : Value} {e : Nat} {g : aF} {h : aA} {E : Nat → aF → aA → Prop} {d : Nat} (hd : 2 ≤ d + 1) (n : Nat) :
    ∀ {f : aF} {a : aA} {x1 : Int} {x2 : Int} {x3 : Int}, (30 - x3).toNat < n → am_RV g h f a → (-2147483648 ≤ x1 ∧ x1 ≤ 2147483647) → (-2147483648 ≤ x2 ∧ x2 ≤ 2147483647) → (-2147483648 ≤ x3 ∧ x3 ≤ 2147483647) → 0 ≤ x3 → (x2 = 0 ∨ x2 = 1) → 0 ≤ x1 → x1 ≤ 25 → am_TE X (d + 1) am_m154 14 [(0, .ref 117), (1, am_iv x1), (2, am_iv x2), (3, am_iv x3)] [] f a w e (am_QI (fun b f1 a1 => f = f1 ∧ a = a1 ∧ (b = 0 ∨ b = 1))) E := by
  induction n with
  | zero => intros; omega
  | succ n ih =>
    intro f a x1 x2 x3 hn hI hp0 hp1 hp2 hp3 hp4 hp5 hp6
    have q1 := am_RV_ph hI
    refine am_riload_n rfl rfl rfl ?_
    refine am_raload_n rfl rfl rfl ?_
    refine am_rgetf (S1 := [.ref 136, am_iv x3]) rfl rfl ?_
    refine am_riload_n rfl rfl rfl ?_
    have q2 : (a 136).length = 27 := am_Rl136 (am_RL 136 rfl hI.1.1)
    have i3 : am_ib (a 136) x1 := by unfold am_ib; omega
    have q4 := am_Rb136 (am_RL 136 rfl hI.1.1) i3
    refine am_riaload (l := a 136) rfl am_ge136 i3 ?_
    refine am_ric_ge rfl rfl (by unfold am_rg; omega) (by unfold am_rg; omega) (fun hc5 => ?_) (fun hc5 => ?_)
    · refine am_riload_n rfl rfl rfl ?_
      have q6 := am_Rg11701 hI.1.1
      exact am_ebret rfl rfl (by omega) ⟨rfl, rfl, (show (x2 = 0 ∨ x2 = 1) by omega)⟩
    · refine am_riload_n rfl rfl rfl ?_
      refine am_rif_eq rfl rfl (by unfold am_rg; omega) (fun hc7 => ?_) (fun hc7 => ?_)
      · refine am_riconst rfl ?_
        refine am_ristore_n (L1 := [(0, .ref 117), (1, am_iv x1), (2, am_iv 0), (3, am_iv x3)]) rfl rfl rfl rfl rfl ?_
        refine am_riinc (L1 := [(0, .ref 117), (1, am_iv x1), (2, am_iv 0), (3, am_iv (x3 + 1))]) rfl rfl rfl rfl rfl ?_
        refine am_rgoto rfl rfl ?_
        have q8 := am_Rg11701 hI.1.1
        exact ih (by omega) hI (by omega) (by omega) (by omega) (by omega) (by omega) (by omega) (by omega)
      · refine am_raload_n rfl rfl rfl ?_
        refine am_riload_n rfl rfl rfl ?_
        refine am_raload_n rfl rfl rfl ?_
        refine am_rgetf (S1 := [.ref 135, am_iv x1, .ref 117]) rfl rfl ?_
        refine am_rbipush rfl (by decide) ?_
        refine am_riload_n rfl rfl rfl ?_
        refine am_rimul rfl ?_
        refine am_riload_n rfl rfl rfl ?_
        refine am_riadd rfl ?_
        have q9 : (a 135).length = 810 := am_Rl135 (am_RL 135 rfl hI.1.1)
        have i10 : am_ib (a 135) ((30 * x1) + x3) := by unfold am_ib; omega
        have q11 := am_Rb135 (am_RL 135 rfl hI.1.1) i10
        refine am_riaload (l := a 135) rfl am_ge135 i10 ?_
        refine am_evirtualI (m := am_m153) (As := [.ref 117, am_iv x1, am_iv (am_at (a 135) ((30 * x1) + x3))]) (S1 := []) rfl rfl rfl rfl rfl rfl rfl rfl rfl rfl (am_TE.int (am_ct154 (y1 := x1) (y2 := (am_at (a 135) ((30 * x1) + x3))) (by omega) hI (by omega) (by omega) (show 0 ≤ x1 by omega) (show x1 ≤ 25 by omega)) (fun b12 f12 a12 hq13 => ?_) (fun _ _ _ h => h))
        obtain ⟨rfl, rfl, hq13⟩ := hq13
        refine am_rif_eq rfl rfl (by unfold am_rg; omega) (fun hc14 => ?_) (fun hc14 => ?_)
        · refine am_riconst rfl ?_
          refine am_ristore_n (L1 := [(0, .ref 117), (1, am_iv x1), (2, am_iv 0), (3, am_iv x3)]) rfl rfl rfl rfl rfl ?_
          refine am_riinc (L1 := [(0, .ref 117), (1, am_iv x1), (2, am_iv 0), (3, am_iv (x3 + 1))]) rfl rfl rfl rfl rfl ?_
          refine am_rgoto rfl rfl ?_
          have q15 := am_Rg11701 hI.1.1
          exact ih (by omega) hI (by omega) (by omega) (by omega) (by omega) (by omega) (by omega) (by omega)
        · refine am_riconst rfl ?_
          refine am_rgoto rfl rfl ?_
          refine am_ristore_n (L1 := [(0, .ref 117), (1, am_iv x1), (2, am_iv 1), (3, am_iv x3)]) rfl rfl rfl rfl rfl ?_
          refine am_riinc (L1 := [(0, .ref 117), (1, am_iv x1), (2, am_iv 1), (3, am_iv (x3 + 1))]) rfl rfl rfl rfl rfl ?_
          refine am_rgoto rfl rfl ?_
          have q16 := am_Rg11701 hI.1.1
          exact ih (by omega) hI (by omega) (by omega) (by omega) (by omega) (by omega) (by omega) (by omega)
set_option maxRecDepth 100000 in
set_option maxHeartbeats 4000000 in
theorem am_ct155 {X : List Value} {w : Value} {e : Nat} {g : aF} {h : aA} {E : Nat → aF → aA → Prop} {d : Nat} {y1 : Int} {f : aF} {a : aA} (hd : 2 ≤ d) (hI : am_RV g h f a) (hp0 : (-2147483648 ≤ y1 ∧ y1 ≤ 2147483647)) (hp1 : 0 ≤ y1) (hp2 : y1 ≤ 25) :
    am_TE X d am_m154 0 (lv_args 0 [.ref 117, am_iv y1]) [] f a w e (am_QI (fun b f1 a1 => f = f1 ∧ a = a1 ∧ (b = 0 ∨ b = 1))) E := by
  obtain ⟨d, rfl⟩ : ∃ d0, d = d0 + 1 := ⟨d - 1, by omega⟩
  have q1 := am_RV_ph hI
  refine am_raload_n rfl rfl rfl ?_
  refine am_riload_n rfl rfl rfl ?_
  refine am_raload_n rfl rfl rfl ?_
  refine am_rgetf (S1 := [.ref 137, am_iv y1, .ref 117]) rfl rfl ?_
  refine am_riload_n rfl rfl rfl ?_
  have q2 : (a 137).length = 27 := am_Rl137 (am_RL 137 rfl hI.1.1)
  have i3 : am_ib (a 137) y1 := by unfold am_ib; omega
  have q4 := am_Rb137 (am_RL 137 rfl hI.1.1) i3
  refine am_riaload (l := a 137) rfl am_ge137 i3 ?_
  refine am_evirtualI (m := am_m153) (As := [.ref 117, am_iv y1, am_iv (am_at (a 137) y1)]) (S1 := []) rfl rfl rfl rfl rfl rfl rfl rfl rfl rfl (am_TE.int (am_ct154 (y1 := y1) (y2 := (am_at (a 137) y1)) (by omega) hI (by omega) (by omega) (show 0 ≤ y1 by omega) (show y1 ≤ 25 by omega)) (fun b5 f5 a5 hq6 => ?_) (fun _ _ _ h => h))
  obtain ⟨rfl, rfl, hq6⟩ := hq6
  refine am_ristore_n (L1 := [(0, .ref 117), (1, am_iv y1), (2, am_iv b5)]) rfl rfl rfl rfl rfl ?_
  refine am_riconst rfl ?_
  refine am_ristore_n (L1 := [(0, .ref 117), (1, am_iv y1), (2, am_iv b5), (3, am_iv 0)]) rfl rfl rfl rfl rfl ?_
  have q7 := am_Rg11701 hI.1.1
  exact am_ct155_14 hd (_ + 1) (Nat.lt_succ_self _) hI (by omega) (by omega) (by omega) (by omega) (by omega) (by omega) (by omega)
set_option maxRecDepth 100000 in
set_option maxHeartbeats 4000000 in
theorem am_ct147_16 {X : List Value} {w : Value} {e : Nat} {g : aF} {h : aA} {E : Nat → aF → aA → Prop} {d : Nat} {z11713 : Int} {fz : aF} {az : aA} (hd : 4 ≤ d + 1) (n : Nat) :
    ∀ {f : aF} {a : aA} {x1 : Int} {x2 : Int}, (8 * (3500 - am_ph f a) + 3 - f 11701).toNat < n → am_RV g h f a → am_mo fz az f a → (-2147483648 ≤ x1 ∧ x1 ≤ 2147483647) → (-2147483648 ≤ x2 ∧ x2 ≤ 2147483647) → (x2 = 0 ∨ x2 = 1) → f 11713 = z11713 → am_TE X (d + 1) am_m146 16 [(0, .ref 117), (1, am_iv x1), (2, am_iv x2)] [] f a w e (am_QI (fun b f1 a1 => am_RV g h f1 a1 ∧ am_mo fz az f1 a1 ∧ (-2147483648 ≤ b ∧ b ≤ 2147483647) ∧ f1 11713 = z11713)) E := by
  induction n with
  | zero => intros; omega
  | succ n ih =>
    intro f a x1 x2 hn hI hp0 hp1 hp2 hp3 hp4
    have q1 := am_RV_ph hI
    have q2 := am_RV_p0 hI
    have q3 := am_Rg11713 hI.1.1
    have q4 := am_Rg11701 hI.1.1
    refine am_raload_n rfl rfl rfl ?_
    refine am_evirtualI (m := am_m121) (As := [.ref 117]) (S1 := []) rfl rfl rfl rfl rfl rfl rfl rfl rfl rfl (am_TE.int (am_ct122  (by omega) hI) (fun b5 f5 a5 hq6 => ?_) (fun _ _ _ h => h))
    obtain ⟨rfl, rfl, hq6⟩ := hq6
    refine am_rbipush rfl (by decide) ?_
    refine am_ric_ne rfl rfl (by unfold am_rg; omega) (by unfold am_rg; omega) (fun hc7 => ?_) (fun hc7 => ?_)
    · refine am_raload_n rfl rfl rfl ?_
      refine am_rbipush rfl (by decide) ?_
      refine am_evirtualV (m := am_m123) (As := [.ref 117, am_iv 41]) (S1 := []) rfl rfl rfl rfl rfl rfl rfl rfl rfl rfl (am_TE.void (am_ct124 (y1 := 41) (by omega) hI (by omega) (show 0 ≤ 41 by omega)) (fun f8 a8 hq9 => ?_) (fun _ _ _ h => h))
      obtain ⟨hI10, hk11, hq9⟩ := hq9
      replace hq9 : f8 11713 = ((f 11713)) ∧ (am_ph f a ) + 1 ≤ am_ph f8 a8 + 1 * (f8 11701) ∧ (am_at (a 124) 0) + 1 ≤ am_at (a8 124) 0 + 1 * (f8 11701) + 1 * ((f 11713)) := hq9
      have mm12 : f 11701 ≤ f8 11701 ∧ am_ph f a ≤ am_ph f8 a8 ∧ am_at (a 124) 0 ≤ am_at (a8 124) 0 ∧ am_at (a8 125) 0 = am_at (a 125) 0 := hk11.1
      have hm13 := am_mo.trans hp0 hk11
      refine am_riload_n rfl rfl rfl ?_
      refine am_rif_ne rfl rfl (by unfold am_rg; omega) (fun hc14 => ?_) (fun hc14 => ?_)
      · refine am_raload_n rfl rfl rfl ?_
        refine am_rbipush rfl (by decide) ?_
        refine am_evirtualV (m := am_m123) (As := [.ref 117, am_iv 42]) (S1 := []) rfl rfl rfl rfl rfl rfl rfl rfl rfl rfl (am_TE.void (am_ct124 (y1 := 42) (by omega) hI10 (by omega) (show 0 ≤ 42 by omega)) (fun f15 a15 hq16 => ?_) (fun _ _ _ h => h))
        obtain ⟨hI17, hk18, hq16⟩ := hq16
        replace hq16 : f15 11713 = ((f8 11713)) ∧ (am_ph f8 a8 ) + 1 ≤ am_ph f15 a15 + 1 * (f15 11701) ∧ (am_at (a8 124) 0) + 1 ≤ am_at (a15 124) 0 + 1 * (f15 11701) + 1 * ((f8 11713)) := hq16
        have mm19 : f8 11701 ≤ f15 11701 ∧ am_ph f8 a8 ≤ am_ph f15 a15 ∧ am_at (a8 124) 0 ≤ am_at (a15 124) 0 ∧ am_at (a15 125) 0 = am_at (a8 125) 0 := hk18.1
        have hm20 := am_mo.trans hm13 hk18
        refine am_riload_n rfl rfl rfl ?_
        have q21 := am_Rg11701 hI17.1.1
        have q22 := am_Rg11713 hI17.1.1
        exact am_eiret rfl rfl ⟨hI17, hm20, (show (-2147483648 ≤ x1 ∧ x1 ≤ 2147483647) by omega), (show f15 11713 = z11713 by omega)⟩
      · refine am_raload_n rfl rfl rfl ?_
        refine am_evirtualI (m := am_m121) (As := [.ref 117]) (S1 := []) rfl rfl rfl rfl rfl rfl rfl rfl rfl rfl (am_TE.int (am_ct122  (by omega) hI10) (fun b23 f23 a23 hq24 => ?_) (fun _ _ _ h => h))
        obtain ⟨rfl, rfl, hq24⟩ := hq24
        refine am_rbipush rfl (by decide) ?_
        refine am_ric_ne rfl rfl (by unfold am_rg; omega) (by unfold am_rg; omega) (fun hc25 => ?_) (fun hc25 => ?_)
        · refine am_riload_n rfl rfl rfl ?_
          have q26 := am_Rg11701 hI10.1.1
          have q27 := am_Rg11713 hI10.1.1
          exact am_eiret rfl rfl ⟨hI10, hm13, (show (-2147483648 ≤ x1 ∧ x1 ≤ 2147483647) by omega), (show f8 11713 = z11713 by omega)⟩
        · refine am_raload_n rfl rfl rfl ?_
          refine am_rbipush rfl (by decide) ?_
          refine am_evirtualV (m := am_m123) (As := [.ref 117, am_iv 42]) (S1 := []) rfl rfl rfl rfl rfl rfl rfl rfl rfl rfl (am_TE.void (am_ct124 (y1 := 42) (by omega) hI10 (by omega) (show 0 ≤ 42 by omega)) (fun f28 a28 hq29 => ?_) (fun _ _ _ h => h))
          obtain ⟨hI30, hk31, hq29⟩ := hq29
          replace hq29 : f28 11713 = ((f8 11713)) ∧ (am_ph f8 a8 ) + 1 ≤ am_ph f28 a28 + 1 * (f28 11701) ∧ (am_at (a8 124) 0) + 1 ≤ am_at (a28 124) 0 + 1 * (f28 11701) + 1 * ((f8 11713)) := hq29
          have mm32 : f8 11701 ≤ f28 11701 ∧ am_ph f8 a8 ≤ am_ph f28 a28 ∧ am_at (a8 124) 0 ≤ am_at (a28 124) 0 ∧ am_at (a28 125) 0 = am_at (a8 125) 0 := hk31.1
          have hm33 := am_mo.trans hm13 hk31
          refine am_riload_n rfl rfl rfl ?_
          have q34 := am_Rg11701 hI30.1.1
          have q35 := am_Rg11713 hI30.1.1
          exact am_eiret rfl rfl ⟨hI30, hm33, (show (-2147483648 ≤ x1 ∧ x1 ≤ 2147483647) by omega), (show f28 11713 = z11713 by omega)⟩
    · refine am_raload_n rfl rfl rfl ?_
      have ok36 : f 11701 = 0 ∧ am_at (a 124) (f 11713) < am_at (a 125) (f 11713) := am_PK.ok hq6.2.2.1 (by omega)
      refine am_evirtualV (m := am_m122) (As := [.ref 117]) (S1 := []) rfl rfl rfl rfl rfl rfl rfl rfl rfl rfl (am_TE.void (am_ct123  (by omega) hI (show am_at (a 124) ((f 11713)) < am_at (a 125) ((f 11713)) by omega)) (fun f37 a37 hq38 => ?_) (fun _ _ _ h => h))
      obtain ⟨hI39, hk40, hq38⟩ := hq38
      replace hq38 : f37 11701 = ((f 11701)) ∧ f37 11713 = ((f 11713)) ∧ am_ph f37 a37 = (am_ph f a ) + 1 ∧ (((f 11713)) = 0 → am_at (a37 124) 0 = (am_at (a 124) 0) + 1) := hq38
      have mm41 : f 11701 ≤ f37 11701 ∧ am_ph f a ≤ am_ph f37 a37 ∧ am_at (a 124) 0 ≤ am_at (a37 124) 0 ∧ am_at (a37 125) 0 = am_at (a 125) 0 := hk40.1
      have hm42 := am_mo.trans hp0 hk40
      refine am_raload_n rfl rfl rfl ?_
      refine am_evirtualI (m := am_m125) (As := [.ref 117]) (S1 := []) rfl rfl rfl rfl rfl rfl rfl rfl rfl rfl (am_TE.int (am_ct126  (by omega) hI39) (fun b43 f43 a43 hq44 => ?_) (fun _ _ _ h => h))
      obtain ⟨hI45, hk46, hq44⟩ := hq44
      replace hq44 : (b43 = 0 ∨ b43 = 1) ∧ f43 11701 = ((f37 11701)) ∧ f43 11713 = ((f37 11713)) ∧ f43 11701 ≤ 3 - 3 * b43 ∧ (am_ph f37 a37 ) + b43 ≤ am_ph f43 a43 ∧ (am_at (a37 124) 0) + b43 ≤ am_at (a43 124) 0 + ((f37 11713)) := hq44
      have mm47 : f37 11701 ≤ f43 11701 ∧ am_ph f37 a37 ≤ am_ph f43 a43 ∧ am_at (a37 124) 0 ≤ am_at (a43 124) 0 ∧ am_at (a43 125) 0 = am_at (a37 125) 0 := hk46.1
      have hm48 := am_mo.trans hm42 hk46
      refine am_rpop rfl rfl ?_
      refine am_riload_n rfl rfl rfl ?_
      refine am_riconst rfl ?_
      refine am_raload_n rfl rfl rfl ?_
      refine am_evirtualI (m := am_m127) (As := [.ref 117]) (S1 := [am_iv 1, am_iv x1]) rfl rfl rfl rfl rfl rfl rfl rfl rfl rfl (am_TE.int (am_ct128  (by omega) hI45) (fun b49 f49 a49 hq50 => ?_) (fun _ _ _ h => h))
      obtain ⟨hI51, hk52, hq50⟩ := hq50
      replace hq50 : (-2147483648 ≤ b49 ∧ b49 ≤ 2147483647) ∧ f49 11713 = ((f43 11713)) ∧ (am_ph f43 a43 ) + 1 ≤ am_ph f49 a49 + 1 * (f49 11701) ∧ (am_at (a43 124) 0) + 1 ≤ am_at (a49 124) 0 + 1 * (f49 11701) + 1 * ((f43 11713)) ∧ (0 ≤ b49 ∧ b49 ≤ 25) := hq50
      have mm53 : f43 11701 ≤ f49 11701 ∧ am_ph f43 a43 ≤ am_ph f49 a49 ∧ am_at (a43 124) 0 ≤ am_at (a49 124) 0 ∧ am_at (a49 125) 0 = am_at (a43 125) 0 := hk52.1
      have hm54 := am_mo.trans hm48 hk52
      have q55 := am_shl_rg 1 b49
      refine am_rishl rfl ?_
      have q56 := am_or_rg x1 (am_shl 1 b49)
      refine am_rior rfl ?_
      refine am_ristore_n (L1 := [(0, .ref 117), (1, am_iv (am_or x1 (am_shl 1 b49))), (2, am_iv x2)]) rfl rfl rfl rfl rfl ?_
      refine am_raload_n rfl rfl rfl ?_
      refine am_evirtualI (m := am_m125) (As := [.ref 117]) (S1 := []) rfl rfl rfl rfl rfl rfl rfl rfl rfl rfl (am_TE.int (am_ct126  (by omega) hI51) (fun b57 f57 a57 hq58 => ?_) (fun _ _ _ h => h))
      obtain ⟨hI59, hk60, hq58⟩ := hq58
      replace hq58 : (b57 = 0 ∨ b57 = 1) ∧ f57 11701 = ((f49 11701)) ∧ f57 11713 = ((f49 11713)) ∧ f57 11701 ≤ 3 - 3 * b57 ∧ (am_ph f49 a49 ) + b57 ≤ am_ph f57 a57 ∧ (am_at (a49 124) 0) + b57 ≤ am_at (a57 124) 0 + ((f49 11713)) := hq58
      have mm61 : f49 11701 ≤ f57 11701 ∧ am_ph f49 a49 ≤ am_ph f57 a57 ∧ am_at (a49 124) 0 ≤ am_at (a57 124) 0 ∧ am_at (a57 125) 0 = am_at (a49 125) 0 := hk60.1
      have hm62 := am_mo.trans hm54 hk60
      refine am_rpop rfl rfl ?_
      refine am_riconst rfl ?_
      refine am_ristore_n (L1 := [(0, .ref 117), (1, am_iv (am_or x1 (am_shl 1 b49))), (2, am_iv 1)]) rfl rfl rfl rfl rfl ?_
      refine am_rgoto rfl rfl ?_
      have q63 := am_Rg11701 hI59.1.1
      have q64 := am_Rg11713 hI59.1.1
      exact ih (by omega) hI59 hm62 (by omega) (by omega) (by omega) (by omega)
set_option maxRecDepth 100000 in
set_option maxHeartbeats 4000000 in
theorem am_ct147 {X : List Value} {w : Value} {e : Nat} {g : aF} {h : aA} {E : Nat → aF → aA → Prop} {d : Nat} {f : aF} {a : aA} (hd : 4 ≤ d) (hI : am_RV g h f a) :
    am_TE X d am_m146 0 (lv_args 0 [.ref 117]) [] f a w e (am_QI (fun b f1 a1 => am_RV g h f1 a1 ∧ am_mo f a f1 a1 ∧ (-2147483648 ≤ b ∧ b ≤ 2147483647) ∧ f1 11713 = (f 11713))) E := by
  obtain ⟨d, rfl⟩ : ∃ d0, d = d0 + 1 := ⟨d - 1, by omega⟩
  have q1 := am_RV_ph hI
  have q2 := am_RV_p0 hI
  refine am_raload_n rfl rfl rfl ?_
  refine am_rldc2 rfl rfl ?_
  refine am_evirtualV (m := am_m124) (As := [.ref 117, .long (9939874023035969)]) (S1 := []) rfl rfl rfl rfl rfl rfl rfl rfl rfl rfl (am_TE.void (am_ct125 (y1 := 9939874023035969) (by omega) hI (by decide)) (fun f3 a3 hq4 => ?_) (fun _ _ _ h => h))
  obtain ⟨hI5, hk6, hq4⟩ := hq4
  replace hq4 : f3 11713 = ((f 11713)) ∧ (am_ph f a ) + 1 ≤ am_ph f3 a3 + 1 * (f3 11701) ∧ (am_at (a 124) 0) + 1 ≤ am_at (a3 124) 0 + 1 * (f3 11701) + 1 * ((f 11713)) := hq4
  have mm7 : f 11701 ≤ f3 11701 ∧ am_ph f a ≤ am_ph f3 a3 ∧ am_at (a 124) 0 ≤ am_at (a3 124) 0 ∧ am_at (a3 125) 0 = am_at (a 125) 0 := hk6.1
  have hm8 := am_mo.trans (am_mo.refl f a) hk6
  refine am_raload_n rfl rfl rfl ?_
  refine am_evirtualI (m := am_m125) (As := [.ref 117]) (S1 := []) rfl rfl rfl rfl rfl rfl rfl rfl rfl rfl (am_TE.int (am_ct126  (by omega) hI5) (fun b9 f9 a9 hq10 => ?_) (fun _ _ _ h => h))
  obtain ⟨hI11, hk12, hq10⟩ := hq10
  replace hq10 : (b9 = 0 ∨ b9 = 1) ∧ f9 11701 = ((f3 11701)) ∧ f9 11713 = ((f3 11713)) ∧ f9 11701 ≤ 3 - 3 * b9 ∧ (am_ph f3 a3 ) + b9 ≤ am_ph f9 a9 ∧ (am_at (a3 124) 0) + b9 ≤ am_at (a9 124) 0 + ((f3 11713)) := hq10
  have mm13 : f3 11701 ≤ f9 11701 ∧ am_ph f3 a3 ≤ am_ph f9 a9 ∧ am_at (a3 124) 0 ≤ am_at (a9 124) 0 ∧ am_at (a9 125) 0 = am_at (a3 125) 0 := hk12.1
  have hm14 := am_mo.trans hm8 hk12
  refine am_rpop rfl rfl ?_
  refine am_riconst rfl ?_
  refine am_ristore_n (L1 := [(0, .ref 117), (1, am_iv 0)]) rfl rfl rfl rfl rfl ?_
  refine am_riconst rfl ?_
  refine am_ristore_n (L1 := [(0, .ref 117), (1, am_iv 0), (2, am_iv 0)]) rfl rfl rfl rfl rfl ?_
  have q15 := am_Rg11701 hI11.1.1
  have q16 := am_Rg11713 hI11.1.1
  exact am_ct147_16 hd (_ + 1) (Nat.lt_succ_self _) hI11 hm14 (by omega) (by omega) (by omega) (by omega)
set_option maxRecDepth 100000 in
set_option maxHeartbeats 4000000 in
theorem am_ct146_258 {X : List Value} {w : Value} {e : Nat} {g : aF} {h : aA} {E : Nat → aF → aA → Prop} {d : Nat} {z11713 : Int} {z11709 : Int} {z11718 : Int} {z11741 : Int} {z11750 : Int} {z11753 : Int} {z11757 : Int} {z11763 : Int} {fz : aF} {az : aA} {f : aF} {a : aA} {x1 : Int} {x2 : Int} (hd : 5 ≤ d + 1) (hI : am_RV g h f a) (hp0 : am_mn fz az f a) (hp1 : (-2147483648 ≤ x1 ∧ x1 ≤ 2147483647)) (hp2 : (-2147483648 ≤ x2 ∧ x2 ≤ 2147483647)) (hp3 : 0 ≤ x1) (hp4 : x1 ≤ 25) (hp5 : f 11713 = z11713) (hp6 : f 11709 = z11709) (hp7 : f 11718 = z11718) (hp8 : f 11741 = z11741) (hp9 : f 11750 = z11750) (hp10 : f 11753 = z11753) (hp11 : f 11757 = z11757) (hp12 : f 11763 = z11763) :
    am_TE X (d + 1) am_m145 258 [(0, .ref 117), (1, am_iv x1), (2, am_iv x2)] [] f a w e (am_QV (fun f1 a1 => am_RV g h f1 a1 ∧ am_mn fz az f1 a1 ∧ f1 11713 = z11713 ∧ f1 11709 = z11709 ∧ f1 11718 = z11718 ∧ f1 11741 = z11741 ∧ f1 11750 = z11750 ∧ f1 11753 = z11753 ∧ f1 11757 = z11757 ∧ f1 11763 = z11763)) E := by
  have q1 := am_RV_ph hI
  have q2 := am_RV_p0 hI
  have q3 := am_Rg11713 hI.1.1
  have q4 := am_Rg11709 hI.1.1
  have q5 := am_Rg11718 hI.1.1
  have q6 := am_Rg11741 hI.1.1
  have q7 := am_Rg11750 hI.1.1
  have q8 := am_Rg11753 hI.1.1
  have q9 := am_Rg11757 hI.1.1
  have q10 := am_Rg11763 hI.1.1
  refine am_riload_n rfl rfl rfl ?_
  refine am_riconst rfl ?_
  refine am_ric_ne rfl rfl (by unfold am_rg; omega) (by unfold am_rg; omega) (fun hc11 => ?_) (fun hc11 => ?_)
  · have q12 := am_Rg11701 hI.1.1
    exact am_eret rfl rfl ⟨hI, hp0, (show f 11713 = z11713 by omega), (show f 11709 = z11709 by omega), (show f 11718 = z11718 by omega), (show f 11741 = z11741 by omega), (show f 11750 = z11750 by omega), (show f 11753 = z11753 by omega), (show f 11757 = z11757 by omega), (show f 11763 = z11763 by omega)⟩
  · refine am_raload_n rfl rfl rfl ?_
    refine am_riload_n rfl rfl rfl ?_
    refine am_evirtualI (m := am_m154) (As := [.ref 117, am_iv x1]) (S1 := []) rfl rfl rfl rfl rfl rfl rfl rfl rfl rfl (am_TE.int (am_ct155 (y1 := x1) (by omega) hI (by omega) (show 0 ≤ x1 by omega) (show x1 ≤ 25 by omega)) (fun b13 f13 a13 hq14 => ?_) (fun _ _ _ h => h))
    obtain ⟨rfl, rfl, hq14⟩ := hq14
    refine am_rif_ne rfl rfl (by unfold am_rg; omega) (fun hc15 => ?_) (fun hc15 => ?_)
    · have q16 := am_Rg11701 hI.1.1
      exact am_eret rfl rfl ⟨hI, hp0, (show f 11713 = z11713 by omega), (show f 11709 = z11709 by omega), (show f 11718 = z11718 by omega), (show f 11741 = z11741 by omega), (show f 11750 = z11750 by omega), (show f 11753 = z11753 by omega), (show f 11757 = z11757 by omega), (show f 11763 = z11763 by omega)⟩
    · refine am_raload_n rfl rfl rfl ?_
      refine am_rdup rfl rfl ?_
      have q17 := am_Rg11704 hI.1.1
      refine am_rgetf (S1 := [am_iv (f 11704), .ref 117]) rfl rfl ?_
      refine am_rsipush rfl (by decide) ?_
      have q18 := am_or_rg (f 11704) 512
      refine am_rior rfl ?_
      refine am_rputf (S1 := []) (h1 := am_enc (am_ud f 11704 (am_or (f 11704) 512)) a w e) rfl (am_pfB rfl am_ge117 rfl (am_sf11704 _)) (by rw [am_enc_len, am_enc_len]) ?_
      have q19 := am_Rg11701 hI.1.1
      have J20 := am_Rf11704 (v := am_or (f 11704) 512) hI (by omega) (by omega)
      have m21 : am_mn fz az (am_ud f 11704 (am_or (f 11704) 512)) a := am_mn_f rfl rfl rfl hp0
      exact am_eret rfl rfl ⟨J20, m21, (show f 11713 = z11713 by omega), (show f 11709 = z11709 by omega), (show f 11718 = z11718 by omega), (show f 11741 = z11741 by omega), (show f 11750 = z11750 by omega), (show f 11753 = z11753 by omega), (show f 11757 = z11757 by omega), (show f 11763 = z11763 by omega)⟩
set_option maxRecDepth 100000 in
set_option maxHeartbeats 4000000 in
theorem am_ct146_194 {X : List Value} {w : Value} {e : Nat} {g : aF} {h : aA} {E : Nat → aF → aA → Prop} {d : Nat} {z11713 : Int} {z11709 : Int} {z11718 : Int} {z11741 : Int} {z11750 : Int} {z11753 : Int} {z11757 : Int} {z11763 : Int} {fz : aF} {az : aA} (hd : 5 ≤ d + 1) (n : Nat) :
    ∀ {f : aF} {a : aA} {x1 : Int} {x2 : Int} {x4 : Int}, (30 - x4).toNat < n → am_RV g h f a → am_mn fz az f a → (-2147483648 ≤ x1 ∧ x1 ≤ 2147483647) → (-2147483648 ≤ x2 ∧ x2 ≤ 2147483647) → (-2147483648 ≤ x4 ∧ x4 ≤ 2147483647) → 0 ≤ x4 → 0 ≤ x1 → x1 ≤ 25 → f 11713 = z11713 → f 11709 = z11709 → f 11718 = z11718 → f 11741 = z11741 → f 11750 = z11750 → f 11753 = z11753 → f 11757 = z11757 → f 11763 = z11763 → am_TE X (d + 1) am_m145 194 [(0, .ref 117), (1, am_iv x1), (2, am_iv x2), (4, am_iv x4)] [] f a w e (am_QV (fun f1 a1 => am_RV g h f1 a1 ∧ am_mn fz az f1 a1 ∧ f1 11713 = z11713 ∧ f1 11709 = z11709 ∧ f1 11718 = z11718 ∧ f1 11741 = z11741 ∧ f1 11750 = z11750 ∧ f1 11753 = z11753 ∧ f1 11757 = z11757 ∧ f1 11763 = z11763)) E := by
  induction n with
  | zero => intros; omega
  | succ n ih =>
    intro f a x1 x2 x4 hn hI hp0 hp1 hp2 hp3 hp4 hp5 hp6 hp7 hp8 hp9 hp10 hp11 hp12 hp13 hp14
    have q1 := am_RV_ph hI
    have q2 := am_RV_p0 hI
    have q3 := am_Rg11713 hI.1.1
    have q4 := am_Rg11709 hI.1.1
    have q5 := am_Rg11718 hI.1.1
    have q6 := am_Rg11741 hI.1.1
    have q7 := am_Rg11750 hI.1.1
    have q8 := am_Rg11753 hI.1.1
    have q9 := am_Rg11757 hI.1.1
    have q10 := am_Rg11763 hI.1.1
    refine am_riload rfl rfl rfl ?_
    refine am_rbipush rfl (by decide) ?_
    refine am_ric_ge rfl rfl (by unfold am_rg; omega) (by unfold am_rg; omega) (fun hc11 => ?_) (fun hc11 => ?_)
    · have q12 := am_Rg11701 hI.1.1
      exact am_T.drop (L1 := [(0, .ref 117), (1, am_iv x1), (2, am_iv x2)]) (am_ct146_258 hd hI hp0 (by omega) (by omega) (by omega) (by omega) (by omega) (by omega) (by omega) (by omega) (by omega) (by omega) (by omega) (by omega)) (by simp)
    · refine am_riload_n rfl rfl rfl ?_
      refine am_riconst rfl ?_
      refine am_ric_ne rfl rfl (by unfold am_rg; omega) (by unfold am_rg; omega) (fun hc13 => ?_) (fun hc13 => ?_)
      · have q14 := am_Rg11701 hI.1.1
        exact am_T.drop (L1 := [(0, .ref 117), (1, am_iv x1), (2, am_iv x2)]) (am_ct146_258 hd hI hp0 (by omega) (by omega) (by omega) (by omega) (by omega) (by omega) (by omega) (by omega) (by omega) (by omega) (by omega) (by omega)) (by simp)
      · refine am_raload_n rfl rfl rfl ?_
        refine am_rgetf (S1 := [.ref 134]) rfl rfl ?_
        refine am_rbipush rfl (by decide) ?_
        refine am_riload_n rfl rfl rfl ?_
        refine am_rimul rfl ?_
        refine am_riload rfl rfl rfl ?_
        refine am_riadd rfl ?_
        refine am_raload_n rfl rfl rfl ?_
        refine am_rgetf (S1 := [.ref 134, am_iv ((30 * x1) + x4), .ref 134]) rfl rfl ?_
        refine am_rsipush rfl (by decide) ?_
        refine am_riload rfl rfl rfl ?_
        refine am_riadd rfl ?_
        have q15 : (a 134).length = 810 := am_Rl134 (am_RL 134 rfl hI.1.1)
        have i16 : am_ib (a 134) (780 + x4) := by unfold am_ib; omega
        have q17 := am_Rb134 (am_RL 134 rfl hI.1.1) i16
        refine am_riaload (l := a 134) rfl am_ge134 i16 ?_
        have i18 : am_ib (a 134) ((30 * x1) + x4) := by unfold am_ib; omega
        have hl19 : am_LR 134 ((a 134).set ((30 * x1) + x4).toNat (am_at (a 134) (780 + x4))) := am_RS134 (am_RL 134 rfl hI.1.1) (by omega) (by omega)
        refine am_riastore (l := a 134) (h1 := am_enc f (am_ud a 134 ((a 134).set ((30 * x1) + x4).toNat (am_at (a 134) (780 + x4)))) w e) rfl am_ge134 i18 (am_sa134 _) ?_
        refine am_raload_n rfl rfl rfl ?_
        refine am_rgetf (S1 := [.ref 135]) rfl rfl ?_
        refine am_rbipush rfl (by decide) ?_
        refine am_riload_n rfl rfl rfl ?_
        refine am_rimul rfl ?_
        refine am_riload rfl rfl rfl ?_
        refine am_riadd rfl ?_
        refine am_raload_n rfl rfl rfl ?_
        refine am_rgetf (S1 := [.ref 135, am_iv ((30 * x1) + x4), .ref 135]) rfl rfl ?_
        refine am_rsipush rfl (by decide) ?_
        refine am_riload rfl rfl rfl ?_
        refine am_riadd rfl ?_
        have q20 : (a 135).length = 810 := am_Rl135 (am_RL 135 rfl hI.1.1)
        have i21 : am_ib (a 135) (780 + x4) := by unfold am_ib; omega
        have q22 := am_Rb135 (am_RL 135 rfl hI.1.1) i21
        refine am_riaload (l := a 135) rfl am_ge135 i21 ?_
        have i23 : am_ib (a 135) ((30 * x1) + x4) := by unfold am_ib; omega
        have hl24 : am_LR 135 ((a 135).set ((30 * x1) + x4).toNat (am_at (a 135) (780 + x4))) := am_RS135 (am_RL 135 rfl hI.1.1) (by omega) (by omega)
        refine am_riastore (l := a 135) (h1 := am_enc f (am_ud (am_ud a 134 ((a 134).set ((30 * x1) + x4).toNat (am_at (a 134) (780 + x4)))) 135 ((a 135).set ((30 * x1) + x4).toNat (am_at (a 135) (780 + x4)))) w e) rfl am_ge135 i23 (am_sa135 _) ?_
        refine am_riinc (L1 := [(0, .ref 117), (1, am_iv x1), (2, am_iv x2), (4, am_iv (x4 + 1))]) rfl rfl rfl rfl rfl ?_
        refine am_rgoto rfl rfl ?_
        have q25 := am_Rg11701 hI.1.1
        have J26 := am_Ra134 hI hl19
        have J27 := am_Ra135 J26 hl24
        have m28 : am_mn fz az f (am_ud a 134 ((a 134).set ((30 * x1) + x4).toNat (am_at (a 134) (780 + x4)))) := am_mn_a rfl rfl hp0
        have m29 : am_mn fz az f (am_ud (am_ud a 134 ((a 134).set ((30 * x1) + x4).toNat (am_at (a 134) (780 + x4)))) 135 ((a 135).set ((30 * x1) + x4).toNat (am_at (a 135) (780 + x4)))) := am_mn_a rfl rfl m28
        exact ih (show (30 - (x4 + 1)).toNat < n by omega) J27 m29 (show (-2147483648 ≤ x1 ∧ x1 ≤ 2147483647) by omega) (show (-2147483648 ≤ x2 ∧ x2 ≤ 2147483647) by omega) (show (-2147483648 ≤ (x4 + 1) ∧ (x4 + 1) ≤ 2147483647) by omega) (show 0 ≤ (x4 + 1) by omega) (show 0 ≤ x1 by omega) (show x1 ≤ 25 by omega) (show (f 11713) = z11713 by omega) (show (f 11709) = z11709 by omega) (show (f 11718) = z11718 by omega) (show (f 11741) = z11741 by omega) (show (f 11750) = z11750 by omega) (show (f 11753) = z11753 by omega) (show (f 11757) = z11757 by omega) (show (f 11763) = z11763 by omega)
set_option maxRecDepth 100000 in
set_option maxHeartbeats 4000000 in
theorem am_ct146_98 {X : List Value} {w : Value} {e : Nat} {g : aF} {h : aA} {E : Nat → aF → aA → Prop} {d : Nat} {z11713 : Int} {z11709 : Int} {z11718 : Int} {z11741 : Int} {z11750 : Int} {z11753 : Int} {z11757 : Int} {z11763 : Int} {fz : aF} {az : aA} {f : aF} {a : aA} {x1 : Int} {x2 : Int} {x3 : Int} (hd : 5 ≤ d + 1) (hI : am_RV g h f a) (hp0 : am_mn fz az f a) (hp1 : (-2147483648 ≤ x1 ∧ x1 ≤ 2147483647)) (hp2 : (-2147483648 ≤ x2 ∧ x2 ≤ 2147483647)) (hp3 : (-2147483648 ≤ x3 ∧ x3 ≤ 2147483647)) (hp4 : 0 ≤ x1) (hp5 : x1 ≤ 25) (hp6 : f 11713 = z11713) (hp7 : f 11709 = z11709) (hp8 : f 11718 = z11718) (hp9 : f 11741 = z11741) (hp10 : f 11750 = z11750) (hp11 : f 11753 = z11753) (hp12 : f 11757 = z11757) (hp13 : f 11763 = z11763) :
    am_TE X (d + 1) am_m145 98 [(0, .ref 117), (1, am_iv x1), (2, am_iv x2), (3, am_iv x3)] [] f a w e (am_QV (fun f1 a1 => am_RV g h f1 a1 ∧ am_mn fz az f1 a1 ∧ f1 11713 = z11713 ∧ f1 11709 = z11709 ∧ f1 11718 = z11718 ∧ f1 11741 = z11741 ∧ f1 11750 = z11750 ∧ f1 11753 = z11753 ∧ f1 11757 = z11757 ∧ f1 11763 = z11763)) E := by
  have q1 := am_RV_ph hI
  have q2 := am_RV_p0 hI
  have q3 := am_Rg11713 hI.1.1
  have q4 := am_Rg11709 hI.1.1
  have q5 := am_Rg11718 hI.1.1
  have q6 := am_Rg11741 hI.1.1
  have q7 := am_Rg11750 hI.1.1
  have q8 := am_Rg11753 hI.1.1
  have q9 := am_Rg11757 hI.1.1
  have q10 := am_Rg11763 hI.1.1
  refine am_raload_n rfl rfl rfl ?_
  have q11 := am_Rg11701 hI.1.1
  refine am_rgetf (S1 := [am_iv (f 11701)]) rfl rfl ?_
  refine am_rif_eq rfl rfl (by unfold am_rg; omega) (fun hc12 => ?_) (fun hc12 => ?_)
  · refine am_raload_n rfl rfl rfl ?_
    refine am_rgetf (S1 := [.ref 132]) rfl rfl ?_
    refine am_riload_n rfl rfl rfl ?_
    have q13 : (a 132).length = 26 := am_Rl132 (am_RL 132 rfl hI.1.1)
    have i14 : am_ib (a 132) x1 := by unfold am_ib; omega
    have q15 := am_Rb132 (am_RL 132 rfl hI.1.1) i14
    refine am_riaload (l := a 132) rfl am_ge132 i14 ?_
    refine am_rif_eq rfl rfl (by unfold am_rg; omega) (fun hc16 => ?_) (fun hc16 => ?_)
    · refine am_raload_n rfl rfl rfl ?_
      refine am_rgetf (S1 := [.ref 132]) rfl rfl ?_
      refine am_riload_n rfl rfl rfl ?_
      refine am_riload_n rfl rfl rfl ?_
      have i17 : am_ib (a 132) x1 := by unfold am_ib; omega
      have hl18 : am_LR 132 ((a 132).set x1.toNat x2) := am_RS132 (am_RL 132 rfl hI.1.1) (by omega) (by omega)
      refine am_riastore (l := a 132) (h1 := am_enc f (am_ud a 132 ((a 132).set x1.toNat x2)) w e) rfl am_ge132 i17 (am_sa132 _) ?_
      refine am_raload_n rfl rfl rfl ?_
      refine am_rgetf (S1 := [.ref 133]) rfl rfl ?_
      refine am_riload_n rfl rfl rfl ?_
      refine am_riload_n rfl rfl rfl ?_
      have q19 : (a 133).length = 26 := am_Rl133 (am_RL 133 rfl hI.1.1)
      have i20 : am_ib (a 133) x1 := by unfold am_ib; omega
      have hl21 : am_LR 133 ((a 133).set x1.toNat x3) := am_RS133 (am_RL 133 rfl hI.1.1) (by omega) (by omega)
      refine am_riastore (l := a 133) (h1 := am_enc f (am_ud (am_ud a 132 ((a 132).set x1.toNat x2)) 133 ((a 133).set x1.toNat x3)) w e) rfl am_ge133 i20 (am_sa133 _) ?_
      refine am_raload_n rfl rfl rfl ?_
      refine am_rgetf (S1 := [.ref 136]) rfl rfl ?_
      refine am_riload_n rfl rfl rfl ?_
      refine am_raload_n rfl rfl rfl ?_
      refine am_rgetf (S1 := [.ref 136, am_iv x1, .ref 136]) rfl rfl ?_
      refine am_rbipush rfl (by decide) ?_
      have q22 : (a 136).length = 27 := am_Rl136 (am_RL 136 rfl hI.1.1)
      have i23 : am_ib (a 136) 26 := by unfold am_ib; omega
      have q24 := am_Rb136 (am_RL 136 rfl hI.1.1) i23
      refine am_riaload (l := a 136) rfl am_ge136 i23 ?_
      have i25 : am_ib (a 136) x1 := by unfold am_ib; omega
      have hl26 : am_LR 136 ((a 136).set x1.toNat (am_at (a 136) 26)) := am_RS136 (am_RL 136 rfl hI.1.1) (by omega) (by omega)
      refine am_riastore (l := a 136) (h1 := am_enc f (am_ud (am_ud (am_ud a 132 ((a 132).set x1.toNat x2)) 133 ((a 133).set x1.toNat x3)) 136 ((a 136).set x1.toNat (am_at (a 136) 26))) w e) rfl am_ge136 i25 (am_sa136 _) ?_
      refine am_raload_n rfl rfl rfl ?_
      refine am_rgetf (S1 := [.ref 137]) rfl rfl ?_
      refine am_riload_n rfl rfl rfl ?_
      refine am_raload_n rfl rfl rfl ?_
      refine am_rgetf (S1 := [.ref 141, am_iv x1, .ref 137]) rfl rfl ?_
      refine am_riconst rfl ?_
      have q27 : (a 141).length = 9 := am_Rl141 (am_RL 141 rfl hI.1.1)
      have i28 : am_ib (a 141) 0 := by unfold am_ib; omega
      have q29 := am_Rb141 (am_RL 141 rfl hI.1.1) i28
      refine am_riaload (l := a 141) rfl am_ge141 i28 ?_
      have q30 : (a 137).length = 27 := am_Rl137 (am_RL 137 rfl hI.1.1)
      have i31 : am_ib (a 137) x1 := by unfold am_ib; omega
      have hl32 : am_LR 137 ((a 137).set x1.toNat (am_at (a 141) 0)) := am_RS137 (am_RL 137 rfl hI.1.1) (by omega) (by omega)
      refine am_riastore (l := a 137) (h1 := am_enc f (am_ud (am_ud (am_ud (am_ud a 132 ((a 132).set x1.toNat x2)) 133 ((a 133).set x1.toNat x3)) 136 ((a 136).set x1.toNat (am_at (a 136) 26))) 137 ((a 137).set x1.toNat (am_at (a 141) 0))) w e) rfl am_ge137 i31 (am_sa137 _) ?_
      refine am_raload_n rfl rfl rfl ?_
      refine am_rgetf (S1 := [.ref 138]) rfl rfl ?_
      refine am_riload_n rfl rfl rfl ?_
      refine am_raload_n rfl rfl rfl ?_
      refine am_rgetf (S1 := [.ref 142, am_iv x1, .ref 138]) rfl rfl ?_
      refine am_riconst rfl ?_
      have q33 : (a 142).length = 9 := am_Rl142 (am_RL 142 rfl hI.1.1)
      have i34 : am_ib (a 142) 0 := by unfold am_ib; omega
      have q35 := am_Rb142 (am_RL 142 rfl hI.1.1) i34
      refine am_riaload (l := a 142) rfl am_ge142 i34 ?_
      have q36 : (a 138).length = 27 := am_Rl138 (am_RL 138 rfl hI.1.1)
      have i37 : am_ib (a 138) x1 := by unfold am_ib; omega
      have hl38 : am_LR 138 ((a 138).set x1.toNat (am_at (a 142) 0)) := am_RS138 (am_RL 138 rfl hI.1.1) (by omega) (by omega)
      refine am_riastore (l := a 138) (h1 := am_enc f (am_ud (am_ud (am_ud (am_ud (am_ud a 132 ((a 132).set x1.toNat x2)) 133 ((a 133).set x1.toNat x3)) 136 ((a 136).set x1.toNat (am_at (a 136) 26))) 137 ((a 137).set x1.toNat (am_at (a 141) 0))) 138 ((a 138).set x1.toNat (am_at (a 142) 0))) w e) rfl am_ge138 i37 (am_sa138 _) ?_
      refine am_raload_n rfl rfl rfl ?_
      refine am_rgetf (S1 := [.ref 139]) rfl rfl ?_
      refine am_riload_n rfl rfl rfl ?_
      refine am_raload_n rfl rfl rfl ?_
      refine am_rgetf (S1 := [.ref 143, am_iv x1, .ref 139]) rfl rfl ?_
      refine am_riconst rfl ?_
      have q39 : (a 143).length = 9 := am_Rl143 (am_RL 143 rfl hI.1.1)
      have i40 : am_ib (a 143) 0 := by unfold am_ib; omega
      have q41 := am_Rb143 (am_RL 143 rfl hI.1.1) i40
      refine am_rbaload (l := a 143) rfl am_ge143 i40 ?_
      have q42 : (a 139).length = 27 := am_Rl139 (am_RL 139 rfl hI.1.1)
      have i43 : am_ib (a 139) x1 := by unfold am_ib; omega
      have hl44 : am_LR 139 ((a 139).set x1.toNat (am_at (a 143) 0)) := am_RS139 (am_RL 139 rfl hI.1.1) (by omega) (by omega)
      refine am_rbastore (l := a 139) (h1 := am_enc f (am_ud (am_ud (am_ud (am_ud (am_ud (am_ud a 132 ((a 132).set x1.toNat x2)) 133 ((a 133).set x1.toNat x3)) 136 ((a 136).set x1.toNat (am_at (a 136) 26))) 137 ((a 137).set x1.toNat (am_at (a 141) 0))) 138 ((a 138).set x1.toNat (am_at (a 142) 0))) 139 ((a 139).set x1.toNat (am_at (a 143) 0))) w e) rfl am_ge139 i43 (by omega) (am_sa139 _) ?_
      refine am_riconst rfl ?_
      refine am_ristore (L1 := [(0, .ref 117), (1, am_iv x1), (2, am_iv x2), (3, am_iv x3), (4, am_iv 0)]) rfl rfl rfl rfl rfl ?_
      have J45 := am_Ra132 hI hl18
      have J46 := am_Ra133 J45 hl21
      have J47 := am_Ra136 J46 hl26
      have J48 := am_Ra137 J47 hl32
      have J49 := am_Ra138 J48 hl38
      have J50 := am_Ra139 J49 hl44
      have m51 : am_mn fz az f (am_ud a 132 ((a 132).set x1.toNat x2)) := am_mn_a rfl rfl hp0
      have m52 : am_mn fz az f (am_ud (am_ud a 132 ((a 132).set x1.toNat x2)) 133 ((a 133).set x1.toNat x3)) := am_mn_a rfl rfl m51
      have m53 : am_mn fz az f (am_ud (am_ud (am_ud a 132 ((a 132).set x1.toNat x2)) 133 ((a 133).set x1.toNat x3)) 136 ((a 136).set x1.toNat (am_at (a 136) 26))) := am_mn_a rfl rfl m52
      have m54 : am_mn fz az f (am_ud (am_ud (am_ud (am_ud a 132 ((a 132).set x1.toNat x2)) 133 ((a 133).set x1.toNat x3)) 136 ((a 136).set x1.toNat (am_at (a 136) 26))) 137 ((a 137).set x1.toNat (am_at (a 141) 0))) := am_mn_a rfl rfl m53
      have m55 : am_mn fz az f (am_ud (am_ud (am_ud (am_ud (am_ud a 132 ((a 132).set x1.toNat x2)) 133 ((a 133).set x1.toNat x3)) 136 ((a 136).set x1.toNat (am_at (a 136) 26))) 137 ((a 137).set x1.toNat (am_at (a 141) 0))) 138 ((a 138).set x1.toNat (am_at (a 142) 0))) := am_mn_a rfl rfl m54
      have m56 : am_mn fz az f (am_ud (am_ud (am_ud (am_ud (am_ud (am_ud a 132 ((a 132).set x1.toNat x2)) 133 ((a 133).set x1.toNat x3)) 136 ((a 136).set x1.toNat (am_at (a 136) 26))) 137 ((a 137).set x1.toNat (am_at (a 141) 0))) 138 ((a 138).set x1.toNat (am_at (a 142) 0))) 139 ((a 139).set x1.toNat (am_at (a 143) 0))) := am_mn_a rfl rfl m55
      exact am_T.drop (L1 := [(0, .ref 117), (1, am_iv x1), (2, am_iv x2), (4, am_iv 0)]) (am_ct146_194 hd (_ + 1) (Nat.lt_succ_self _) J50 m56 (show (-2147483648 ≤ x1 ∧ x1 ≤ 2147483647) by omega) (show (-2147483648 ≤ x2 ∧ x2 ≤ 2147483647) by omega) (show (-2147483648 ≤ 0 ∧ 0 ≤ 2147483647) by omega) (show 0 ≤ 0 by omega) (show 0 ≤ x1 by omega) (show x1 ≤ 25 by omega) (show (f 11713) = z11713 by omega) (show (f 11709) = z11709 by omega) (show (f 11718) = z11718 by omega) (show (f 11741) = z11741 by omega) (show (f 11750) = z11750 by omega) (show (f 11753) = z11753 by omega) (show (f 11757) = z11757 by omega) (show (f 11763) = z11763 by omega)) (by simp)
    · refine am_raload_n rfl rfl rfl ?_
      refine am_rdup rfl rfl ?_
      have q57 := am_Rg11704 hI.1.1
      refine am_rgetf (S1 := [am_iv (f 11704), .ref 117]) rfl rfl ?_
      refine am_rsipush rfl (by decide) ?_
      have q58 := am_or_rg (f 11704) 1024
      refine am_rior rfl ?_
      refine am_rputf (S1 := []) (h1 := am_enc (am_ud f 11704 (am_or (f 11704) 1024)) a w e) rfl (am_pfB rfl am_ge117 rfl (am_sf11704 _)) (by rw [am_enc_len, am_enc_len]) ?_
      have J59 := am_Rf11704 (v := am_or (f 11704) 1024) hI (by omega) (by omega)
      have m60 : am_mn fz az (am_ud f 11704 (am_or (f 11704) 1024)) a := am_mn_f rfl rfl rfl hp0
      exact am_eret rfl rfl ⟨J59, m60, (show f 11713 = z11713 by omega), (show f 11709 = z11709 by omega), (show f 11718 = z11718 by omega), (show f 11741 = z11741 by omega), (show f 11750 = z11750 by omega), (show f 11753 = z11753 by omega), (show f 11757 = z11757 by omega), (show f 11763 = z11763 by omega)⟩
  · exact am_eret rfl rfl ⟨hI, hp0, (show f 11713 = z11713 by omega), (show f 11709 = z11709 by omega), (show f 11718 = z11718 by omega), (show f 11741 = z11741 by omega), (show f 11750 = z11750 by omega), (show f 11753 = z11753 by omega), (show f 11757 = z11757 by omega), (show f 11763 = z11763 by omega)⟩
set_option maxRecDepth 100000 in
set_option maxHeartbeats 4000000 in
theorem am_ct146 {X : List Value} {w : Value} {e : Nat} {g : aF} {h : aA} {E : Nat → aF → aA → Prop} {d : Nat} {f : aF} {a : aA} (hd : 5 ≤ d) (hI : am_RV g h f a) :
    am_TE X d am_m145 0 (lv_args 0 [.ref 117]) [] f a w e (am_QV (fun f1 a1 => am_RV g h f1 a1 ∧ am_mn f a f1 a1 ∧ f1 11713 = (f 11713) ∧ f1 11709 = (f 11709) ∧ f1 11718 = (f 11718) ∧ f1 11741 = (f 11741) ∧ f1 11750 = (f 11750) ∧ f1 11753 = (f 11753) ∧ f1 11757 = (f 11757) ∧ f1 11763 = (f 11763))) E := by
  obtain ⟨d, rfl⟩ : ∃ d0, d = d0 + 1 := ⟨d - 1, by omega⟩
  have q1 := am_RV_ph hI
  have q2 := am_RV_p0 hI
  refine am_raload_n rfl rfl rfl ?_
  refine am_evirtualI (m := am_m127) (As := [.ref 117]) (S1 := []) rfl rfl rfl rfl rfl rfl rfl rfl rfl rfl (am_TE.int (am_ct128  (by omega) hI) (fun b3 f3 a3 hq4 => ?_) (fun _ _ _ h => h))
  obtain ⟨hI5, hk6, hq4⟩ := hq4
  replace hq4 : (-2147483648 ≤ b3 ∧ b3 ≤ 2147483647) ∧ f3 11713 = ((f 11713)) ∧ (am_ph f a ) + 1 ≤ am_ph f3 a3 + 1 * (f3 11701) ∧ (am_at (a 124) 0) + 1 ≤ am_at (a3 124) 0 + 1 * (f3 11701) + 1 * ((f 11713)) ∧ (0 ≤ b3 ∧ b3 ≤ 25) := hq4
  have mm7 : f 11701 ≤ f3 11701 ∧ am_ph f a ≤ am_ph f3 a3 ∧ am_at (a 124) 0 ≤ am_at (a3 124) 0 ∧ am_at (a3 125) 0 = am_at (a 125) 0 := hk6.1
  have hm8 := am_mn.trans (am_mn.refl f a) hk6.1
  have t9 : f3 11709 = f 11709 := hk6.2.1 11709 rfl
  have t10 : f3 11718 = f 11718 := hk6.2.1 11718 rfl
  have t11 : f3 11741 = f 11741 := hk6.2.1 11741 rfl
  have t12 : f3 11750 = f 11750 := hk6.2.1 11750 rfl
  have t13 : f3 11753 = f 11753 := hk6.2.1 11753 rfl
  have t14 : f3 11757 = f 11757 := hk6.2.1 11757 rfl
  have t15 : f3 11763 = f 11763 := hk6.2.1 11763 rfl
  refine am_ristore_n (L1 := [(0, .ref 117), (1, am_iv b3)]) rfl rfl rfl rfl rfl ?_
  refine am_raload_n rfl rfl rfl ?_
  refine am_evirtualV (m := am_m126) (As := [.ref 117]) (S1 := []) rfl rfl rfl rfl rfl rfl rfl rfl rfl rfl (am_TE.void (am_ct127  (by omega) hI5) (fun f16 a16 hq17 => ?_) (fun _ _ _ h => h))
  obtain ⟨hI18, hk19, hq17⟩ := hq17
  replace hq17 : f16 11713 = ((f3 11713)) ∧ (am_ph f3 a3 ) + 1 ≤ am_ph f16 a16 + 1 * (f16 11701) ∧ (am_at (a3 124) 0) + 1 ≤ am_at (a16 124) 0 + 1 * (f16 11701) + 1 * ((f3 11713)) := hq17
  have mm20 : f3 11701 ≤ f16 11701 ∧ am_ph f3 a3 ≤ am_ph f16 a16 ∧ am_at (a3 124) 0 ≤ am_at (a16 124) 0 ∧ am_at (a16 125) 0 = am_at (a3 125) 0 := hk19.1
  have hm21 := am_mn.trans hm8 hk19.1
  have t22 : f16 11709 = f3 11709 := hk19.2.1 11709 rfl
  have t23 : f16 11718 = f3 11718 := hk19.2.1 11718 rfl
  have t24 : f16 11741 = f3 11741 := hk19.2.1 11741 rfl
  have t25 : f16 11750 = f3 11750 := hk19.2.1 11750 rfl
  have t26 : f16 11753 = f3 11753 := hk19.2.1 11753 rfl
  have t27 : f16 11757 = f3 11757 := hk19.2.1 11757 rfl
  have t28 : f16 11763 = f3 11763 := hk19.2.1 11763 rfl
  refine am_riconst rfl ?_
  refine am_ristore_n (L1 := [(0, .ref 117), (1, am_iv b3), (2, am_iv ((-1)))]) rfl rfl rfl rfl rfl ?_
  refine am_riconst rfl ?_
  refine am_ristore_n (L1 := [(0, .ref 117), (1, am_iv b3), (2, am_iv ((-1))), (3, am_iv 0)]) rfl rfl rfl rfl rfl ?_
  refine am_raload_n rfl rfl rfl ?_
  refine am_evirtualI (m := am_m121) (As := [.ref 117]) (S1 := []) rfl rfl rfl rfl rfl rfl rfl rfl rfl rfl (am_TE.int (am_ct122  (by omega) hI18) (fun b29 f29 a29 hq30 => ?_) (fun _ _ _ h => h))
  obtain ⟨rfl, rfl, hq30⟩ := hq30
  refine am_rbipush rfl (by decide) ?_
  refine am_ric_ne rfl rfl (by unfold am_rg; omega) (by unfold am_rg; omega) (fun hc31 => ?_) (fun hc31 => ?_)
  · refine am_raload_n rfl rfl rfl ?_
    refine am_evirtualI (m := am_m121) (As := [.ref 117]) (S1 := []) rfl rfl rfl rfl rfl rfl rfl rfl rfl rfl (am_TE.int (am_ct122  (by omega) hI18) (fun b32 f32 a32 hq33 => ?_) (fun _ _ _ h => h))
    obtain ⟨rfl, rfl, hq33⟩ := hq33
    refine am_rbipush rfl (by decide) ?_
    refine am_ric_ne rfl rfl (by unfold am_rg; omega) (by unfold am_rg; omega) (fun hc34 => ?_) (fun hc34 => ?_)
    · refine am_raload_n rfl rfl rfl ?_
      refine am_rbipush rfl (by decide) ?_
      refine am_evirtualV (m := am_m123) (As := [.ref 117, am_iv 40]) (S1 := []) rfl rfl rfl rfl rfl rfl rfl rfl rfl rfl (am_TE.void (am_ct124 (y1 := 40) (by omega) hI18 (by omega) (show 0 ≤ 40 by omega)) (fun f35 a35 hq36 => ?_) (fun _ _ _ h => h))
      obtain ⟨hI37, hk38, hq36⟩ := hq36
      replace hq36 : f35 11713 = ((f16 11713)) ∧ (am_ph f16 a16 ) + 1 ≤ am_ph f35 a35 + 1 * (f35 11701) ∧ (am_at (a16 124) 0) + 1 ≤ am_at (a35 124) 0 + 1 * (f35 11701) + 1 * ((f16 11713)) := hq36
      have mm39 : f16 11701 ≤ f35 11701 ∧ am_ph f16 a16 ≤ am_ph f35 a35 ∧ am_at (a16 124) 0 ≤ am_at (a35 124) 0 ∧ am_at (a35 125) 0 = am_at (a16 125) 0 := hk38.1
      have hm40 := am_mn.trans hm21 hk38.1
      have t41 : f35 11709 = f16 11709 := hk38.2.1 11709 rfl
      have t42 : f35 11718 = f16 11718 := hk38.2.1 11718 rfl
      have t43 : f35 11741 = f16 11741 := hk38.2.1 11741 rfl
      have t44 : f35 11750 = f16 11750 := hk38.2.1 11750 rfl
      have t45 : f35 11753 = f16 11753 := hk38.2.1 11753 rfl
      have t46 : f35 11757 = f16 11757 := hk38.2.1 11757 rfl
      have t47 : f35 11763 = f16 11763 := hk38.2.1 11763 rfl
      refine am_raload_n rfl rfl rfl ?_
      refine am_evirtualI (m := am_m125) (As := [.ref 117]) (S1 := []) rfl rfl rfl rfl rfl rfl rfl rfl rfl rfl (am_TE.int (am_ct126  (by omega) hI37) (fun b48 f48 a48 hq49 => ?_) (fun _ _ _ h => h))
      obtain ⟨hI50, hk51, hq49⟩ := hq49
      replace hq49 : (b48 = 0 ∨ b48 = 1) ∧ f48 11701 = ((f35 11701)) ∧ f48 11713 = ((f35 11713)) ∧ f48 11701 ≤ 3 - 3 * b48 ∧ (am_ph f35 a35 ) + b48 ≤ am_ph f48 a48 ∧ (am_at (a35 124) 0) + b48 ≤ am_at (a48 124) 0 + ((f35 11713)) := hq49
      have mm52 : f35 11701 ≤ f48 11701 ∧ am_ph f35 a35 ≤ am_ph f48 a48 ∧ am_at (a35 124) 0 ≤ am_at (a48 124) 0 ∧ am_at (a48 125) 0 = am_at (a35 125) 0 := hk51.1
      have hm53 := am_mn.trans hm40 hk51.1
      have t54 : f48 11709 = f35 11709 := hk51.2.1 11709 rfl
      have t55 : f48 11718 = f35 11718 := hk51.2.1 11718 rfl
      have t56 : f48 11741 = f35 11741 := hk51.2.1 11741 rfl
      have t57 : f48 11750 = f35 11750 := hk51.2.1 11750 rfl
      have t58 : f48 11753 = f35 11753 := hk51.2.1 11753 rfl
      have t59 : f48 11757 = f35 11757 := hk51.2.1 11757 rfl
      have t60 : f48 11763 = f35 11763 := hk51.2.1 11763 rfl
      refine am_rpop rfl rfl ?_
      refine am_raload_n rfl rfl rfl ?_
      refine am_evirtualI (m := am_m121) (As := [.ref 117]) (S1 := []) rfl rfl rfl rfl rfl rfl rfl rfl rfl rfl (am_TE.int (am_ct122  (by omega) hI50) (fun b61 f61 a61 hq62 => ?_) (fun _ _ _ h => h))
      obtain ⟨rfl, rfl, hq62⟩ := hq62
      refine am_rbipush rfl (by decide) ?_
      refine am_ric_ne rfl rfl (by unfold am_rg; omega) (by unfold am_rg; omega) (fun hc63 => ?_) (fun hc63 => ?_)
      · refine am_riconst rfl ?_
        refine am_ristore_n (L1 := [(0, .ref 117), (1, am_iv b3), (2, am_iv 4), (3, am_iv 0)]) rfl rfl rfl rfl rfl ?_
        refine am_riload_n rfl rfl rfl ?_
        refine am_riconst rfl ?_
        refine am_ric_ne rfl rfl (by unfold am_rg; omega) (by unfold am_rg; omega) (fun hc64 => ?_) (fun hc64 => ?_)
        · refine am_raload_n rfl rfl rfl ?_
          refine am_evirtualV (m := am_m151) (As := [.ref 117]) (S1 := []) rfl rfl rfl rfl rfl rfl rfl rfl rfl rfl (am_TE.void (am_ct152  (by omega) hI50) (fun f65 a65 hq66 => ?_) (fun _ _ _ h => h))
          obtain ⟨hI67, hk68, hq66⟩ := hq66
          replace hq66 : f65 11713 = ((f48 11713)) ∧ f65 11709 = ((f48 11709)) ∧ f65 11718 = ((f48 11718)) ∧ f65 11741 = ((f48 11741)) ∧ f65 11750 = ((f48 11750)) ∧ f65 11753 = ((f48 11753)) ∧ f65 11757 = ((f48 11757)) ∧ f65 11763 = ((f48 11763)) := hq66
          have mm69 : f48 11701 ≤ f65 11701 ∧ am_ph f48 a48 ≤ am_ph f65 a65 ∧ am_at (a48 124) 0 ≤ am_at (a65 124) 0 ∧ am_at (a65 125) 0 = am_at (a48 125) 0 := hk68
          have hm70 := am_mn.trans hm53 hk68
          have q71 := am_Rg11701 hI67.1.1
          have q72 := am_Rg11713 hI67.1.1
          have q73 := am_Rg11709 hI67.1.1
          have q74 := am_Rg11718 hI67.1.1
          have q75 := am_Rg11741 hI67.1.1
          have q76 := am_Rg11750 hI67.1.1
          have q77 := am_Rg11753 hI67.1.1
          have q78 := am_Rg11757 hI67.1.1
          have q79 := am_Rg11763 hI67.1.1
          exact am_ct146_98 hd hI67 hm70 (by omega) (by omega) (by omega) (by omega) (by omega) (by omega) (by omega) (by omega) (by omega) (by omega) (by omega) (by omega) (by omega)
        · refine am_raload_n rfl rfl rfl ?_
          refine am_evirtualI (m := am_m146) (As := [.ref 117]) (S1 := []) rfl rfl rfl rfl rfl rfl rfl rfl rfl rfl (am_TE.int (am_ct147  (by omega) hI50) (fun b80 f80 a80 hq81 => ?_) (fun _ _ _ h => h))
          obtain ⟨hI82, hk83, hq81⟩ := hq81
          replace hq81 : (-2147483648 ≤ b80 ∧ b80 ≤ 2147483647) ∧ f80 11713 = ((f48 11713)) := hq81
          have mm84 : f48 11701 ≤ f80 11701 ∧ am_ph f48 a48 ≤ am_ph f80 a80 ∧ am_at (a48 124) 0 ≤ am_at (a80 124) 0 ∧ am_at (a80 125) 0 = am_at (a48 125) 0 := hk83.1
          have hm85 := am_mn.trans hm53 hk83.1
          have t86 : f80 11709 = f48 11709 := hk83.2.1 11709 rfl
          have t87 : f80 11718 = f48 11718 := hk83.2.1 11718 rfl
          have t88 : f80 11741 = f48 11741 := hk83.2.1 11741 rfl
          have t89 : f80 11750 = f48 11750 := hk83.2.1 11750 rfl
          have t90 : f80 11753 = f48 11753 := hk83.2.1 11753 rfl
          have t91 : f80 11757 = f48 11757 := hk83.2.1 11757 rfl
          have t92 : f80 11763 = f48 11763 := hk83.2.1 11763 rfl
          refine am_ristore_n (L1 := [(0, .ref 117), (1, am_iv b3), (2, am_iv 4), (3, am_iv b80)]) rfl rfl rfl rfl rfl ?_
          refine am_rgoto rfl rfl ?_
          have q93 := am_Rg11701 hI82.1.1
          have q94 := am_Rg11713 hI82.1.1
          have q95 := am_Rg11709 hI82.1.1
          have q96 := am_Rg11718 hI82.1.1
          have q97 := am_Rg11741 hI82.1.1
          have q98 := am_Rg11750 hI82.1.1
          have q99 := am_Rg11753 hI82.1.1
          have q100 := am_Rg11757 hI82.1.1
          have q101 := am_Rg11763 hI82.1.1
          exact am_ct146_98 hd hI82 hm85 (by omega) (by omega) (by omega) (by omega) (by omega) (by omega) (by omega) (by omega) (by omega) (by omega) (by omega) (by omega) (by omega)
      · refine am_riconst rfl ?_
        refine am_rgoto rfl rfl ?_
        refine am_ristore_n (L1 := [(0, .ref 117), (1, am_iv b3), (2, am_iv 3), (3, am_iv 0)]) rfl rfl rfl rfl rfl ?_
        refine am_riload_n rfl rfl rfl ?_
        refine am_riconst rfl ?_
        refine am_ric_ne rfl rfl (by unfold am_rg; omega) (by unfold am_rg; omega) (fun hc102 => ?_) (fun hc102 => ?_)
        · refine am_raload_n rfl rfl rfl ?_
          refine am_evirtualV (m := am_m151) (As := [.ref 117]) (S1 := []) rfl rfl rfl rfl rfl rfl rfl rfl rfl rfl (am_TE.void (am_ct152  (by omega) hI50) (fun f103 a103 hq104 => ?_) (fun _ _ _ h => h))
          obtain ⟨hI105, hk106, hq104⟩ := hq104
          replace hq104 : f103 11713 = ((f48 11713)) ∧ f103 11709 = ((f48 11709)) ∧ f103 11718 = ((f48 11718)) ∧ f103 11741 = ((f48 11741)) ∧ f103 11750 = ((f48 11750)) ∧ f103 11753 = ((f48 11753)) ∧ f103 11757 = ((f48 11757)) ∧ f103 11763 = ((f48 11763)) := hq104
          have mm107 : f48 11701 ≤ f103 11701 ∧ am_ph f48 a48 ≤ am_ph f103 a103 ∧ am_at (a48 124) 0 ≤ am_at (a103 124) 0 ∧ am_at (a103 125) 0 = am_at (a48 125) 0 := hk106
          have hm108 := am_mn.trans hm53 hk106
          have q109 := am_Rg11701 hI105.1.1
          have q110 := am_Rg11713 hI105.1.1
          have q111 := am_Rg11709 hI105.1.1
          have q112 := am_Rg11718 hI105.1.1
          have q113 := am_Rg11741 hI105.1.1
          have q114 := am_Rg11750 hI105.1.1
          have q115 := am_Rg11753 hI105.1.1
          have q116 := am_Rg11757 hI105.1.1
          have q117 := am_Rg11763 hI105.1.1
          exact am_ct146_98 hd hI105 hm108 (by omega) (by omega) (by omega) (by omega) (by omega) (by omega) (by omega) (by omega) (by omega) (by omega) (by omega) (by omega) (by omega)
        · refine am_raload_n rfl rfl rfl ?_
          refine am_evirtualI (m := am_m146) (As := [.ref 117]) (S1 := []) rfl rfl rfl rfl rfl rfl rfl rfl rfl rfl (am_TE.int (am_ct147  (by omega) hI50) (fun b118 f118 a118 hq119 => ?_) (fun _ _ _ h => h))
          obtain ⟨hI120, hk121, hq119⟩ := hq119
          replace hq119 : (-2147483648 ≤ b118 ∧ b118 ≤ 2147483647) ∧ f118 11713 = ((f48 11713)) := hq119
          have mm122 : f48 11701 ≤ f118 11701 ∧ am_ph f48 a48 ≤ am_ph f118 a118 ∧ am_at (a48 124) 0 ≤ am_at (a118 124) 0 ∧ am_at (a118 125) 0 = am_at (a48 125) 0 := hk121.1
          have hm123 := am_mn.trans hm53 hk121.1
          have t124 : f118 11709 = f48 11709 := hk121.2.1 11709 rfl
          have t125 : f118 11718 = f48 11718 := hk121.2.1 11718 rfl
          have t126 : f118 11741 = f48 11741 := hk121.2.1 11741 rfl
          have t127 : f118 11750 = f48 11750 := hk121.2.1 11750 rfl
          have t128 : f118 11753 = f48 11753 := hk121.2.1 11753 rfl
          have t129 : f118 11757 = f48 11757 := hk121.2.1 11757 rfl
          have t130 : f118 11763 = f48 11763 := hk121.2.1 11763 rfl
          refine am_ristore_n (L1 := [(0, .ref 117), (1, am_iv b3), (2, am_iv 3), (3, am_iv b118)]) rfl rfl rfl rfl rfl ?_
          refine am_rgoto rfl rfl ?_
          have q131 := am_Rg11701 hI120.1.1
          have q132 := am_Rg11713 hI120.1.1
          have q133 := am_Rg11709 hI120.1.1
          have q134 := am_Rg11718 hI120.1.1
          have q135 := am_Rg11741 hI120.1.1
          have q136 := am_Rg11750 hI120.1.1
          have q137 := am_Rg11753 hI120.1.1
          have q138 := am_Rg11757 hI120.1.1
          have q139 := am_Rg11763 hI120.1.1
          exact am_ct146_98 hd hI120 hm123 (by omega) (by omega) (by omega) (by omega) (by omega) (by omega) (by omega) (by omega) (by omega) (by omega) (by omega) (by omega) (by omega)
    · refine am_raload_n rfl rfl rfl ?_
      refine am_rldc2 rfl rfl ?_
      refine am_evirtualV (m := am_m124) (As := [.ref 117, .long (4279897)]) (S1 := []) rfl rfl rfl rfl rfl rfl rfl rfl rfl rfl (am_TE.void (am_ct125 (y1 := 4279897) (by omega) hI18 (by decide)) (fun f140 a140 hq141 => ?_) (fun _ _ _ h => h))
      obtain ⟨hI142, hk143, hq141⟩ := hq141
      replace hq141 : f140 11713 = ((f16 11713)) ∧ (am_ph f16 a16 ) + 1 ≤ am_ph f140 a140 + 1 * (f140 11701) ∧ (am_at (a16 124) 0) + 1 ≤ am_at (a140 124) 0 + 1 * (f140 11701) + 1 * ((f16 11713)) := hq141
      have mm144 : f16 11701 ≤ f140 11701 ∧ am_ph f16 a16 ≤ am_ph f140 a140 ∧ am_at (a16 124) 0 ≤ am_at (a140 124) 0 ∧ am_at (a140 125) 0 = am_at (a16 125) 0 := hk143.1
      have hm145 := am_mn.trans hm21 hk143.1
      have t146 : f140 11709 = f16 11709 := hk143.2.1 11709 rfl
      have t147 : f140 11718 = f16 11718 := hk143.2.1 11718 rfl
      have t148 : f140 11741 = f16 11741 := hk143.2.1 11741 rfl
      have t149 : f140 11750 = f16 11750 := hk143.2.1 11750 rfl
      have t150 : f140 11753 = f16 11753 := hk143.2.1 11753 rfl
      have t151 : f140 11757 = f16 11757 := hk143.2.1 11757 rfl
      have t152 : f140 11763 = f16 11763 := hk143.2.1 11763 rfl
      refine am_riconst rfl ?_
      refine am_ristore_n (L1 := [(0, .ref 117), (1, am_iv b3), (2, am_iv 2), (3, am_iv 0)]) rfl rfl rfl rfl rfl ?_
      refine am_rgoto rfl rfl ?_
      have q153 := am_Rg11701 hI142.1.1
      have q154 := am_Rg11713 hI142.1.1
      have q155 := am_Rg11709 hI142.1.1
      have q156 := am_Rg11718 hI142.1.1
      have q157 := am_Rg11741 hI142.1.1
      have q158 := am_Rg11750 hI142.1.1
      have q159 := am_Rg11753 hI142.1.1
      have q160 := am_Rg11757 hI142.1.1
      have q161 := am_Rg11763 hI142.1.1
      exact am_ct146_98 hd hI142 hm145 (by omega) (by omega) (by omega) (by omega) (by omega) (by omega) (by omega) (by omega) (by omega) (by omega) (by omega) (by omega) (by omega)
  · refine am_raload_n rfl rfl rfl ?_
    refine am_rldc2 rfl rfl ?_
    refine am_evirtualV (m := am_m124) (As := [.ref 117, .long (297649853529)]) (S1 := []) rfl rfl rfl rfl rfl rfl rfl rfl rfl rfl (am_TE.void (am_ct125 (y1 := 297649853529) (by omega) hI18 (by decide)) (fun f162 a162 hq163 => ?_) (fun _ _ _ h => h))
    obtain ⟨hI164, hk165, hq163⟩ := hq163
    replace hq163 : f162 11713 = ((f16 11713)) ∧ (am_ph f16 a16 ) + 1 ≤ am_ph f162 a162 + 1 * (f162 11701) ∧ (am_at (a16 124) 0) + 1 ≤ am_at (a162 124) 0 + 1 * (f162 11701) + 1 * ((f16 11713)) := hq163
    have mm166 : f16 11701 ≤ f162 11701 ∧ am_ph f16 a16 ≤ am_ph f162 a162 ∧ am_at (a16 124) 0 ≤ am_at (a162 124) 0 ∧ am_at (a162 125) 0 = am_at (a16 125) 0 := hk165.1
    have hm167 := am_mn.trans hm21 hk165.1
    have t168 : f162 11709 = f16 11709 := hk165.2.1 11709 rfl
    have t169 : f162 11718 = f16 11718 := hk165.2.1 11718 rfl
    have t170 : f162 11741 = f16 11741 := hk165.2.1 11741 rfl
    have t171 : f162 11750 = f16 11750 := hk165.2.1 11750 rfl
    have t172 : f162 11753 = f16 11753 := hk165.2.1 11753 rfl
    have t173 : f162 11757 = f16 11757 := hk165.2.1 11757 rfl
    have t174 : f162 11763 = f16 11763 := hk165.2.1 11763 rfl
    refine am_riconst rfl ?_
    refine am_ristore_n (L1 := [(0, .ref 117), (1, am_iv b3), (2, am_iv 1), (3, am_iv 0)]) rfl rfl rfl rfl rfl ?_
    refine am_rgoto rfl rfl ?_
    have q175 := am_Rg11701 hI164.1.1
    have q176 := am_Rg11713 hI164.1.1
    have q177 := am_Rg11709 hI164.1.1
    have q178 := am_Rg11718 hI164.1.1
    have q179 := am_Rg11741 hI164.1.1
    have q180 := am_Rg11750 hI164.1.1
    have q181 := am_Rg11753 hI164.1.1
    have q182 := am_Rg11757 hI164.1.1
    have q183 := am_Rg11763 hI164.1.1
    exact am_ct146_98 hd hI164 hm167 (by omega) (by omega) (by omega) (by omega) (by omega) (by omega) (by omega) (by omega) (by omega) (by omega) (by omega) (by omega) (by omega)
