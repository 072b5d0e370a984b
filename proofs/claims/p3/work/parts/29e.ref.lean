set_option maxRecDepth 100000 in
set_option maxHeartbeats 4000000 in
theorem am_ct156 {X : List Value} {w : Value} {e : Nat} {g : aF} {h : aA} {E : Nat → aF → aA → Prop} {d : Nat} {y1 : Int} {y2 : Int} {f : aF} {a : aA} (hd : 2 ≤ d) (hI : am_RV g h f a) (hp0 : (-2147483648 ≤ y1 ∧ y1 ≤ 2147483647)) (hp1 : (-2147483648 ≤ y2 ∧ y2 ≤ 2147483647)) :
    am_TE X d am_m155 0 (lv_args 0 [.ref 117, am_iv y1, am_iv y2]) [] f a w e (am_QV (fun f1 a1 => am_RV g h f1 a1 ∧ am_mn f a f1 a1 ∧ f1 11713 = (f 11713) ∧ f1 11718 = (f 11718) ∧ f1 11709 = (f 11709) ∧ f1 11741 = (f 11741) ∧ f1 11750 = (f 11750) ∧ f1 11753 = (f 11753) ∧ f1 11755 = (f 11755) ∧ 1 ≤ f1 11757 + f1 11701)) E := by
  obtain ⟨d, rfl⟩ : ∃ d0, d = d0 + 1 := ⟨d - 1, by omega⟩
  have q1 := am_RV_ph hI
  have q2 := am_RV_p0 hI
  refine am_raload_n rfl rfl rfl ?_
  have q3 := am_Rg11701 hI.1.1
  refine am_rgetf (S1 := [am_iv (f 11701)]) rfl rfl ?_
  refine am_rif_ne rfl rfl (by unfold am_rg; omega) (fun hc4 => ?_) (fun hc4 => ?_)
  · refine am_raload_n rfl rfl rfl ?_
    refine am_rgetf (S1 := [am_iv (f 11701)]) rfl rfl ?_
    refine am_rif_eq rfl rfl (by unfold am_rg; omega) (fun hc5 => ?_) (fun hc5 => ?_)
    · refine am_raload_n rfl rfl rfl ?_
      refine am_rgetf (S1 := [.ref 157]) rfl rfl ?_
      refine am_raload_n rfl rfl rfl ?_
      have q6 := am_Rg11757 hI.1.1
      refine am_rgetf (S1 := [am_iv (f 11757), .ref 157]) rfl rfl ?_
      refine am_riload_n rfl rfl rfl ?_
      have q7 : (a 157).length = 200 := am_Rl157 (am_RL 157 rfl hI.1.1)
      have i8 : am_ib (a 157) (f 11757) := by unfold am_ib; omega
      have hl9 : am_LR 157 ((a 157).set (f 11757).toNat y1) := am_RS157 (am_RL 157 rfl hI.1.1) (by omega) (by omega)
      refine am_riastore (l := a 157) (h1 := am_enc f (am_ud a 157 ((a 157).set (f 11757).toNat y1)) w e) rfl am_ge157 i8 (am_sa157 _) ?_
      refine am_raload_n rfl rfl rfl ?_
      refine am_rgetf (S1 := [.ref 158]) rfl rfl ?_
      refine am_raload_n rfl rfl rfl ?_
      refine am_rgetf (S1 := [am_iv (f 11757), .ref 158]) rfl rfl ?_
      refine am_riload_n rfl rfl rfl ?_
      have q10 : (a 158).length = 200 := am_Rl158 (am_RL 158 rfl hI.1.1)
      have i11 : am_ib (a 158) (f 11757) := by unfold am_ib; omega
      have hl12 : am_LR 158 ((a 158).set (f 11757).toNat y2) := am_RS158 (am_RL 158 rfl hI.1.1) (by omega) (by omega)
      refine am_riastore (l := a 158) (h1 := am_enc f (am_ud (am_ud a 157 ((a 157).set (f 11757).toNat y1)) 158 ((a 158).set (f 11757).toNat y2)) w e) rfl am_ge158 i11 (am_sa158 _) ?_
      refine am_raload_n rfl rfl rfl ?_
      refine am_rgetf (S1 := [.ref 159]) rfl rfl ?_
      refine am_raload_n rfl rfl rfl ?_
      refine am_rgetf (S1 := [am_iv (f 11757), .ref 159]) rfl rfl ?_
      refine am_raload_n rfl rfl rfl ?_
      have q13 := am_Rg11763 hI.1.1
      refine am_rgetf (S1 := [am_iv (f 11763), am_iv (f 11757), .ref 159]) rfl rfl ?_
      have q14 : (a 159).length = 200 := am_Rl159 (am_RL 159 rfl hI.1.1)
      have i15 : am_ib (a 159) (f 11757) := by unfold am_ib; omega
      have hl16 : am_LR 159 ((a 159).set (f 11757).toNat (f 11763)) := am_RS159 (am_RL 159 rfl hI.1.1) (by omega) (by omega)
      refine am_riastore (l := a 159) (h1 := am_enc f (am_ud (am_ud (am_ud a 157 ((a 157).set (f 11757).toNat y1)) 158 ((a 158).set (f 11757).toNat y2)) 159 ((a 159).set (f 11757).toNat (f 11763))) w e) rfl am_ge159 i15 (am_sa159 _) ?_
      refine am_raload_n rfl rfl rfl ?_
      refine am_rgetf (S1 := [.ref 160]) rfl rfl ?_
      refine am_raload_n rfl rfl rfl ?_
      refine am_rgetf (S1 := [am_iv (f 11757), .ref 160]) rfl rfl ?_
      refine am_riconst rfl ?_
      have q17 : (a 160).length = 200 := am_Rl160 (am_RL 160 rfl hI.1.1)
      have i18 : am_ib (a 160) (f 11757) := by unfold am_ib; omega
      have hl19 : am_LR 160 ((a 160).set (f 11757).toNat 0) := am_RS160 (am_RL 160 rfl hI.1.1) (by omega) (by omega)
      refine am_riastore (l := a 160) (h1 := am_enc f (am_ud (am_ud (am_ud (am_ud a 157 ((a 157).set (f 11757).toNat y1)) 158 ((a 158).set (f 11757).toNat y2)) 159 ((a 159).set (f 11757).toNat (f 11763))) 160 ((a 160).set (f 11757).toNat 0)) w e) rfl am_ge160 i18 (am_sa160 _) ?_
      refine am_raload_n rfl rfl rfl ?_
      refine am_rgetf (S1 := [.ref 161]) rfl rfl ?_
      refine am_raload_n rfl rfl rfl ?_
      refine am_rgetf (S1 := [am_iv (f 11757), .ref 161]) rfl rfl ?_
      refine am_riconst rfl ?_
      have q20 : (a 161).length = 200 := am_Rl161 (am_RL 161 rfl hI.1.1)
      have i21 : am_ib (a 161) (f 11757) := by unfold am_ib; omega
      have hl22 : am_LR 161 ((a 161).set (f 11757).toNat 0) := am_RS161 (am_RL 161 rfl hI.1.1) (by omega) (by omega)
      refine am_riastore (l := a 161) (h1 := am_enc f (am_ud (am_ud (am_ud (am_ud (am_ud a 157 ((a 157).set (f 11757).toNat y1)) 158 ((a 158).set (f 11757).toNat y2)) 159 ((a 159).set (f 11757).toNat (f 11763))) 160 ((a 160).set (f 11757).toNat 0)) 161 ((a 161).set (f 11757).toNat 0)) w e) rfl am_ge161 i21 (am_sa161 _) ?_
      refine am_raload_n rfl rfl rfl ?_
      refine am_rdup rfl rfl ?_
      refine am_rgetf (S1 := [am_iv (f 11757), .ref 117]) rfl rfl ?_
      refine am_riconst rfl ?_
      refine am_riadd rfl ?_
      refine am_rputf (S1 := []) (h1 := am_enc (am_ud f 11757 ((f 11757) + 1)) (am_ud (am_ud (am_ud (am_ud (am_ud a 157 ((a 157).set (f 11757).toNat y1)) 158 ((a 158).set (f 11757).toNat y2)) 159 ((a 159).set (f 11757).toNat (f 11763))) 160 ((a 160).set (f 11757).toNat 0)) 161 ((a 161).set (f 11757).toNat 0)) w e) rfl (am_pfB rfl am_ge117 rfl (am_sf11757 _)) (by rw [am_enc_len, am_enc_len]) ?_
      have J23 : am_RV g h (am_ud f 11757 ((f 11757) + 1)) (am_ud (am_ud (am_ud (am_ud (am_ud a 157 ((a 157).set (f 11757).toNat y1)) 158 ((a 158).set (f 11757).toNat y2)) 159 ((a 159).set (f 11757).toNat (f 11763))) 160 ((a 160).set (f 11757).toNat 0)) 161 ((a 161).set (f 11757).toNat 0)) := by
        have w0 := am_Kf11757 (v := (f 11757) + 1) hI.1.1 (by omega) (by omega)
        have u0 := am_Ka157 w0 hl9
        have u1 := am_Ka158 u0 hl12
        have u2 := am_Ka159 u1 hl16
        have u3 := am_Ka160 u2 hl19
        have u4 := am_Ka161 u3 hl22
        exact ⟨⟨u4, hI.1.2.1, am_R3_push hI.1.2.2 (by omega) (by assumption) (by assumption)⟩, hI.2⟩
      have m24 : am_mn f a (am_ud f 11757 ((f 11757) + 1)) a := am_mn_f rfl rfl rfl (am_mn.refl f a)
      have m25 : am_mn f a (am_ud f 11757 ((f 11757) + 1)) (am_ud a 157 ((a 157).set (f 11757).toNat y1)) := am_mn_a rfl rfl m24
      have m26 : am_mn f a (am_ud f 11757 ((f 11757) + 1)) (am_ud (am_ud a 157 ((a 157).set (f 11757).toNat y1)) 158 ((a 158).set (f 11757).toNat y2)) := am_mn_a rfl rfl m25
      have m27 : am_mn f a (am_ud f 11757 ((f 11757) + 1)) (am_ud (am_ud (am_ud a 157 ((a 157).set (f 11757).toNat y1)) 158 ((a 158).set (f 11757).toNat y2)) 159 ((a 159).set (f 11757).toNat (f 11763))) := am_mn_a rfl rfl m26
      have m28 : am_mn f a (am_ud f 11757 ((f 11757) + 1)) (am_ud (am_ud (am_ud (am_ud a 157 ((a 157).set (f 11757).toNat y1)) 158 ((a 158).set (f 11757).toNat y2)) 159 ((a 159).set (f 11757).toNat (f 11763))) 160 ((a 160).set (f 11757).toNat 0)) := am_mn_a rfl rfl m27
      have m29 : am_mn f a (am_ud f 11757 ((f 11757) + 1)) (am_ud (am_ud (am_ud (am_ud (am_ud a 157 ((a 157).set (f 11757).toNat y1)) 158 ((a 158).set (f 11757).toNat y2)) 159 ((a 159).set (f 11757).toNat (f 11763))) 160 ((a 160).set (f 11757).toNat 0)) 161 ((a 161).set (f 11757).toNat 0)) := am_mn_a rfl rfl m28
      have q30 := am_Rg11713 hI.1.1
      have q31 := am_Rg11718 hI.1.1
      have q32 := am_Rg11709 hI.1.1
      have q33 := am_Rg11741 hI.1.1
      have q34 := am_Rg11750 hI.1.1
      have q35 := am_Rg11753 hI.1.1
      have q36 := am_Rg11755 hI.1.1
      exact am_eret rfl rfl ⟨J23, m29, (show f 11713 = (f 11713) by omega), (show f 11718 = (f 11718) by omega), (show f 11709 = (f 11709) by omega), (show f 11741 = (f 11741) by omega), (show f 11750 = (f 11750) by omega), (show f 11753 = (f 11753) by omega), (show f 11755 = (f 11755) by omega), (show 1 ≤ (f 11757) + 1 + f 11701 by omega)⟩
    · have q37 := am_Rg11713 hI.1.1
      have q38 := am_Rg11718 hI.1.1
      have q39 := am_Rg11709 hI.1.1
      have q40 := am_Rg11741 hI.1.1
      have q41 := am_Rg11750 hI.1.1
      have q42 := am_Rg11753 hI.1.1
      have q43 := am_Rg11755 hI.1.1
      have q44 := am_Rg11757 hI.1.1
      exact am_eret rfl rfl ⟨hI, (am_mn.refl f a), (show f 11713 = (f 11713) by omega), (show f 11718 = (f 11718) by omega), (show f 11709 = (f 11709) by omega), (show f 11741 = (f 11741) by omega), (show f 11750 = (f 11750) by omega), (show f 11753 = (f 11753) by omega), (show f 11755 = (f 11755) by omega), (show 1 ≤ f 11757 + f 11701 by omega)⟩
  · refine am_raload_n rfl rfl rfl ?_
    have q45 := am_Rg11757 hI.1.1
    refine am_rgetf (S1 := [am_iv (f 11757)]) rfl rfl ?_
    refine am_rsipush rfl (by decide) ?_
    refine am_ric_ne rfl rfl (by unfold am_rg; omega) (by unfold am_rg; omega) (fun hc46 => ?_) (fun hc46 => ?_)
    · refine am_raload_n rfl rfl rfl ?_
      refine am_rgetf (S1 := [am_iv (f 11701)]) rfl rfl ?_
      refine am_rif_eq rfl rfl (by unfold am_rg; omega) (fun hc47 => ?_) (fun hc47 => ?_)
      · refine am_raload_n rfl rfl rfl ?_
        refine am_rgetf (S1 := [.ref 157]) rfl rfl ?_
        refine am_raload_n rfl rfl rfl ?_
        refine am_rgetf (S1 := [am_iv (f 11757), .ref 157]) rfl rfl ?_
        refine am_riload_n rfl rfl rfl ?_
        have q48 : (a 157).length = 200 := am_Rl157 (am_RL 157 rfl hI.1.1)
        have i49 : am_ib (a 157) (f 11757) := by unfold am_ib; omega
        have hl50 : am_LR 157 ((a 157).set (f 11757).toNat y1) := am_RS157 (am_RL 157 rfl hI.1.1) (by omega) (by omega)
        refine am_riastore (l := a 157) (h1 := am_enc f (am_ud a 157 ((a 157).set (f 11757).toNat y1)) w e) rfl am_ge157 i49 (am_sa157 _) ?_
        refine am_raload_n rfl rfl rfl ?_
        refine am_rgetf (S1 := [.ref 158]) rfl rfl ?_
        refine am_raload_n rfl rfl rfl ?_
        refine am_rgetf (S1 := [am_iv (f 11757), .ref 158]) rfl rfl ?_
        refine am_riload_n rfl rfl rfl ?_
        have q51 : (a 158).length = 200 := am_Rl158 (am_RL 158 rfl hI.1.1)
        have i52 : am_ib (a 158) (f 11757) := by unfold am_ib; omega
        have hl53 : am_LR 158 ((a 158).set (f 11757).toNat y2) := am_RS158 (am_RL 158 rfl hI.1.1) (by omega) (by omega)
        refine am_riastore (l := a 158) (h1 := am_enc f (am_ud (am_ud a 157 ((a 157).set (f 11757).toNat y1)) 158 ((a 158).set (f 11757).toNat y2)) w e) rfl am_ge158 i52 (am_sa158 _) ?_
        refine am_raload_n rfl rfl rfl ?_
        refine am_rgetf (S1 := [.ref 159]) rfl rfl ?_
        refine am_raload_n rfl rfl rfl ?_
        refine am_rgetf (S1 := [am_iv (f 11757), .ref 159]) rfl rfl ?_
        refine am_raload_n rfl rfl rfl ?_
        have q54 := am_Rg11763 hI.1.1
        refine am_rgetf (S1 := [am_iv (f 11763), am_iv (f 11757), .ref 159]) rfl rfl ?_
        have q55 : (a 159).length = 200 := am_Rl159 (am_RL 159 rfl hI.1.1)
        have i56 : am_ib (a 159) (f 11757) := by unfold am_ib; omega
        have hl57 : am_LR 159 ((a 159).set (f 11757).toNat (f 11763)) := am_RS159 (am_RL 159 rfl hI.1.1) (by omega) (by omega)
        refine am_riastore (l := a 159) (h1 := am_enc f (am_ud (am_ud (am_ud a 157 ((a 157).set (f 11757).toNat y1)) 158 ((a 158).set (f 11757).toNat y2)) 159 ((a 159).set (f 11757).toNat (f 11763))) w e) rfl am_ge159 i56 (am_sa159 _) ?_
        refine am_raload_n rfl rfl rfl ?_
        refine am_rgetf (S1 := [.ref 160]) rfl rfl ?_
        refine am_raload_n rfl rfl rfl ?_
        refine am_rgetf (S1 := [am_iv (f 11757), .ref 160]) rfl rfl ?_
        refine am_riconst rfl ?_
        have q58 : (a 160).length = 200 := am_Rl160 (am_RL 160 rfl hI.1.1)
        have i59 : am_ib (a 160) (f 11757) := by unfold am_ib; omega
        have hl60 : am_LR 160 ((a 160).set (f 11757).toNat 0) := am_RS160 (am_RL 160 rfl hI.1.1) (by omega) (by omega)
        refine am_riastore (l := a 160) (h1 := am_enc f (am_ud (am_ud (am_ud (am_ud a 157 ((a 157).set (f 11757).toNat y1)) 158 ((a 158).set (f 11757).toNat y2)) 159 ((a 159).set (f 11757).toNat (f 11763))) 160 ((a 160).set (f 11757).toNat 0)) w e) rfl am_ge160 i59 (am_sa160 _) ?_
        refine am_raload_n rfl rfl rfl ?_
        refine am_rgetf (S1 := [.ref 161]) rfl rfl ?_
        refine am_raload_n rfl rfl rfl ?_
        refine am_rgetf (S1 := [am_iv (f 11757), .ref 161]) rfl rfl ?_
        refine am_riconst rfl ?_
        have q61 : (a 161).length = 200 := am_Rl161 (am_RL 161 rfl hI.1.1)
        have i62 : am_ib (a 161) (f 11757) := by unfold am_ib; omega
        have hl63 : am_LR 161 ((a 161).set (f 11757).toNat 0) := am_RS161 (am_RL 161 rfl hI.1.1) (by omega) (by omega)
        refine am_riastore (l := a 161) (h1 := am_enc f (am_ud (am_ud (am_ud (am_ud (am_ud a 157 ((a 157).set (f 11757).toNat y1)) 158 ((a 158).set (f 11757).toNat y2)) 159 ((a 159).set (f 11757).toNat (f 11763))) 160 ((a 160).set (f 11757).toNat 0)) 161 ((a 161).set (f 11757).toNat 0)) w e) rfl am_ge161 i62 (am_sa161 _) ?_
        refine am_raload_n rfl rfl rfl ?_
        refine am_rdup rfl rfl ?_
        refine am_rgetf (S1 := [am_iv (f 11757), .ref 117]) rfl rfl ?_
        refine am_riconst rfl ?_
        refine am_riadd rfl ?_
        refine am_rputf (S1 := []) (h1 := am_enc (am_ud f 11757 ((f 11757) + 1)) (am_ud (am_ud (am_ud (am_ud (am_ud a 157 ((a 157).set (f 11757).toNat y1)) 158 ((a 158).set (f 11757).toNat y2)) 159 ((a 159).set (f 11757).toNat (f 11763))) 160 ((a 160).set (f 11757).toNat 0)) 161 ((a 161).set (f 11757).toNat 0)) w e) rfl (am_pfB rfl am_ge117 rfl (am_sf11757 _)) (by rw [am_enc_len, am_enc_len]) ?_
        have J64 : am_RV g h (am_ud f 11757 ((f 11757) + 1)) (am_ud (am_ud (am_ud (am_ud (am_ud a 157 ((a 157).set (f 11757).toNat y1)) 158 ((a 158).set (f 11757).toNat y2)) 159 ((a 159).set (f 11757).toNat (f 11763))) 160 ((a 160).set (f 11757).toNat 0)) 161 ((a 161).set (f 11757).toNat 0)) := by
          have w0 := am_Kf11757 (v := (f 11757) + 1) hI.1.1 (by omega) (by omega)
          have u0 := am_Ka157 w0 hl50
          have u1 := am_Ka158 u0 hl53
          have u2 := am_Ka159 u1 hl57
          have u3 := am_Ka160 u2 hl60
          have u4 := am_Ka161 u3 hl63
          exact ⟨⟨u4, hI.1.2.1, am_R3_push hI.1.2.2 (by omega) (by assumption) (by assumption)⟩, hI.2⟩
        have m65 : am_mn f a (am_ud f 11757 ((f 11757) + 1)) a := am_mn_f rfl rfl rfl (am_mn.refl f a)
        have m66 : am_mn f a (am_ud f 11757 ((f 11757) + 1)) (am_ud a 157 ((a 157).set (f 11757).toNat y1)) := am_mn_a rfl rfl m65
        have m67 : am_mn f a (am_ud f 11757 ((f 11757) + 1)) (am_ud (am_ud a 157 ((a 157).set (f 11757).toNat y1)) 158 ((a 158).set (f 11757).toNat y2)) := am_mn_a rfl rfl m66
        have m68 : am_mn f a (am_ud f 11757 ((f 11757) + 1)) (am_ud (am_ud (am_ud a 157 ((a 157).set (f 11757).toNat y1)) 158 ((a 158).set (f 11757).toNat y2)) 159 ((a 159).set (f 11757).toNat (f 11763))) := am_mn_a rfl rfl m67
        have m69 : am_mn f a (am_ud f 11757 ((f 11757) + 1)) (am_ud (am_ud (am_ud (am_ud a 157 ((a 157).set (f 11757).toNat y1)) 158 ((a 158).set (f 11757).toNat y2)) 159 ((a 159).set (f 11757).toNat (f 11763))) 160 ((a 160).set (f 11757).toNat 0)) := am_mn_a rfl rfl m68
        have m70 : am_mn f a (am_ud f 11757 ((f 11757) + 1)) (am_ud (am_ud (am_ud (am_ud (am_ud a 157 ((a 157).set (f 11757).toNat y1)) 158 ((a 158).set (f 11757).toNat y2)) 159 ((a 159).set (f 11757).toNat (f 11763))) 160 ((a 160).set (f 11757).toNat 0)) 161 ((a 161).set (f 11757).toNat 0)) := am_mn_a rfl rfl m69
        have q71 := am_Rg11713 hI.1.1
        have q72 := am_Rg11718 hI.1.1
        have q73 := am_Rg11709 hI.1.1
        have q74 := am_Rg11741 hI.1.1
        have q75 := am_Rg11750 hI.1.1
        have q76 := am_Rg11753 hI.1.1
        have q77 := am_Rg11755 hI.1.1
        exact am_eret rfl rfl ⟨J64, m70, (show f 11713 = (f 11713) by omega), (show f 11718 = (f 11718) by omega), (show f 11709 = (f 11709) by omega), (show f 11741 = (f 11741) by omega), (show f 11750 = (f 11750) by omega), (show f 11753 = (f 11753) by omega), (show f 11755 = (f 11755) by omega), (show 1 ≤ (f 11757) + 1 + f 11701 by omega)⟩
      · have q78 := am_Rg11713 hI.1.1
        have q79 := am_Rg11718 hI.1.1
        have q80 := am_Rg11709 hI.1.1
        have q81 := am_Rg11741 hI.1.1
        have q82 := am_Rg11750 hI.1.1
        have q83 := am_Rg11753 hI.1.1
        have q84 := am_Rg11755 hI.1.1
        exact am_eret rfl rfl ⟨hI, (am_mn.refl f a), (show f 11713 = (f 11713) by omega), (show f 11718 = (f 11718) by omega), (show f 11709 = (f 11709) by omega), (show f 11741 = (f 11741) by omega), (show f 11750 = (f 11750) by omega), (show f 11753 = (f 11753) by omega), (show f 11755 = (f 11755) by omega), (show 1 ≤ f 11757 + f 11701 by omega)⟩
    · refine am_raload_n rfl rfl rfl ?_
      refine am_riconst rfl ?_
      refine am_evirtualV (m := am_m116) (As := [.ref 117, am_iv 2]) (S1 := []) rfl rfl rfl rfl rfl rfl rfl rfl rfl rfl (am_TE.void (am_ct117 (y1 := 2) (by omega) (by omega) (show 1 ≤ 2 by omega) (show 2 ≤ 3 by omega) (show 0 ≤ (f 11701) by omega) (show (f 11701) ≤ 3 by omega)) (fun f85 a85 hq86 => ?_) (fun _ _ _ h => h))
      obtain ⟨v87, rfl, rfl, hq86⟩ := hq86
      replace hq86 : 0 < v87 ∧ v87 ≤ 3 ∧ f 11701 ≤ v87 := hq86
      refine am_raload_n rfl rfl rfl ?_
      refine am_rgetf (S1 := [am_iv v87]) rfl rfl ?_
      refine am_rif_eq rfl rfl (by unfold am_rg; omega) (fun hc88 => ?_) (fun hc88 => ?_)
      · exfalso; omega
      have J89 := am_Rf11701 (v := v87) hI (by omega) (by omega)
      have m90 : am_mn f a (am_ud f 11701 v87) a := am_mn.halt (am_mn.refl f a) (by omega)
      have q91 := am_Rg11713 hI.1.1
      have q92 := am_Rg11718 hI.1.1
      have q93 := am_Rg11709 hI.1.1
      have q94 := am_Rg11741 hI.1.1
      have q95 := am_Rg11750 hI.1.1
      have q96 := am_Rg11753 hI.1.1
      have q97 := am_Rg11755 hI.1.1
      exact am_eret rfl rfl ⟨J89, m90, (show f 11713 = (f 11713) by omega), (show f 11718 = (f 11718) by omega), (show f 11709 = (f 11709) by omega), (show f 11741 = (f 11741) by omega), (show f 11750 = (f 11750) by omega), (show f 11753 = (f 11753) by omega), (show f 11755 = (f 11755) by omega), (show 1 ≤ f 11757 + v87 by omega)⟩
set_option maxRecDepth 100000 in
set_option maxHeartbeats 4000000 in
theorem am_ct157 {X : List Value} {w : Value} {e : Nat} {g : aF} {h : aA} {E : Nat → aF → aA → Prop} {d : Nat} {y1 : Int} {f : aF} {a : aA} (hd : 2 ≤ d) (hI : am_RV g h f a) (hp0 : (-2147483648 ≤ y1 ∧ y1 ≤ 2147483647)) (hp1 : 1 ≤ f 11757 + f 11701) :
    am_TE X d am_m156 0 (lv_args 0 [.ref 117, am_iv y1]) [] f a w e (am_QV (fun f1 a1 => am_RV g h f1 a1 ∧ am_mn f a f1 a1 ∧ f1 11713 = (f 11713) ∧ f1 11718 = (f 11718) ∧ f1 11709 = (f 11709) ∧ f1 11741 = (f 11741) ∧ f1 11750 = (f 11750) ∧ f1 11753 = (f 11753) ∧ f1 11755 = (f 11755) ∧ f1 11757 = (f 11757))) E := by
  obtain ⟨d, rfl⟩ : ∃ d0, d = d0 + 1 := ⟨d - 1, by omega⟩
  have q1 := am_RV_ph hI
  have q2 := am_RV_p0 hI
  have q3 := am_Rg11701 hI.1.1
  have q4 := am_Rg11757 hI.1.1
  refine am_raload_n rfl rfl rfl ?_
  refine am_rgetf (S1 := [am_iv (f 11701)]) rfl rfl ?_
  refine am_rif_ne rfl rfl (by unfold am_rg; omega) (fun hc5 => ?_) (fun hc5 => ?_)
  · refine am_raload_n rfl rfl rfl ?_
    refine am_rgetf (S1 := [am_iv (f 11701)]) rfl rfl ?_
    refine am_rif_eq rfl rfl (by unfold am_rg; omega) (fun hc6 => ?_) (fun hc6 => ?_)
    · refine am_raload_n rfl rfl rfl ?_
      refine am_rgetf (S1 := [.ref 162]) rfl rfl ?_
      refine am_raload_n rfl rfl rfl ?_
      have q7 := am_Rg11763 hI.1.1
      refine am_rgetf (S1 := [am_iv (f 11763), .ref 162]) rfl rfl ?_
      refine am_riload_n rfl rfl rfl ?_
      have q8 : (a 162).length = 2000 := am_Rl162 (am_RL 162 rfl hI.1.1)
      have i9 : am_ib (a 162) (f 11763) := by unfold am_ib; omega
      have hl10 : am_LR 162 ((a 162).set (f 11763).toNat y1) := am_RS162 (am_RL 162 rfl hI.1.1) (by omega) (by omega)
      refine am_riastore (l := a 162) (h1 := am_enc f (am_ud a 162 ((a 162).set (f 11763).toNat y1)) w e) rfl am_ge162 i9 (am_sa162 _) ?_
      refine am_raload_n rfl rfl rfl ?_
      refine am_rdup rfl rfl ?_
      refine am_rgetf (S1 := [am_iv (f 11763), .ref 117]) rfl rfl ?_
      refine am_riconst rfl ?_
      refine am_riadd rfl ?_
      refine am_rputf (S1 := []) (h1 := am_enc (am_ud f 11763 ((f 11763) + 1)) (am_ud a 162 ((a 162).set (f 11763).toNat y1)) w e) rfl (am_pfB rfl am_ge117 rfl (am_sf11763 _)) (by rw [am_enc_len, am_enc_len]) ?_
      refine am_raload_n rfl rfl rfl ?_
      refine am_rgetf (S1 := [.ref 160]) rfl rfl ?_
      refine am_raload_n rfl rfl rfl ?_
      refine am_rgetf (S1 := [am_iv (f 11757), .ref 160]) rfl rfl ?_
      refine am_riconst rfl ?_
      refine am_risub rfl ?_
      refine am_rdup2 rfl rfl rfl ?_
      have q11 : (a 160).length = 200 := am_Rl160 (am_RL 160 rfl hI.1.1)
      have i12 : am_ib (a 160) ((f 11757) - 1) := by unfold am_ib; omega
      have q13 := am_Rb160 (am_RL 160 rfl hI.1.1) i12
      have r6 := hI.1.2.2 ((f 11757) - 1) (by omega) (by omega)
      have r9 := (am_Rb159 (am_RL 159 rfl hI.1.1) (x := ((f 11757) - 1)) (by have := am_Rl159 (am_RL 159 rfl hI.1.1); unfold am_ib; omega)).1
      refine am_riaload (l := a 160) rfl am_ge160 i12 ?_
      refine am_riconst rfl ?_
      refine am_riadd rfl ?_
      have i14 : am_ib (a 160) ((f 11757) - 1) := by unfold am_ib; omega
      have hl15 : am_LR 160 ((a 160).set ((f 11757) - 1).toNat ((am_at (a 160) ((f 11757) - 1)) + 1)) := am_RS160 (am_RL 160 rfl hI.1.1) (by omega) (by omega)
      refine am_riastore (l := a 160) (h1 := am_enc (am_ud f 11763 ((f 11763) + 1)) (am_ud (am_ud a 162 ((a 162).set (f 11763).toNat y1)) 160 ((a 160).set ((f 11757) - 1).toNat ((am_at (a 160) ((f 11757) - 1)) + 1))) w e) rfl am_ge160 i14 (am_sa160 _) ?_
      have J16 : am_RV g h (am_ud f 11763 ((f 11763) + 1)) (am_ud (am_ud a 162 ((a 162).set (f 11763).toNat y1)) 160 ((a 160).set ((f 11757) - 1).toNat ((am_at (a 160) ((f 11757) - 1)) + 1))) := by
        have w0 := am_Kf11763 (v := (f 11763) + 1) hI.1.1 (by omega) (by omega)
        have u0 := am_Ka162 w0 hl10
        have u1 := am_Ka160 u0 hl15
        exact ⟨⟨u1, hI.1.2.1, am_R3_inc hI.1.2.2 (by assumption)⟩, hI.2⟩
      have m17 : am_mn f a (am_ud f 11763 ((f 11763) + 1)) a := am_mn_f rfl rfl rfl (am_mn.refl f a)
      have m18 : am_mn f a (am_ud f 11763 ((f 11763) + 1)) (am_ud a 162 ((a 162).set (f 11763).toNat y1)) := am_mn_a rfl rfl m17
      have m19 : am_mn f a (am_ud f 11763 ((f 11763) + 1)) (am_ud (am_ud a 162 ((a 162).set (f 11763).toNat y1)) 160 ((a 160).set ((f 11757) - 1).toNat ((am_at (a 160) ((f 11757) - 1)) + 1))) := am_mn_a rfl rfl m18
      have q20 := am_Rg11713 hI.1.1
      have q21 := am_Rg11718 hI.1.1
      have q22 := am_Rg11709 hI.1.1
      have q23 := am_Rg11741 hI.1.1
      have q24 := am_Rg11750 hI.1.1
      have q25 := am_Rg11753 hI.1.1
      have q26 := am_Rg11755 hI.1.1
      exact am_eret rfl rfl ⟨J16, m19, (show f 11713 = (f 11713) by omega), (show f 11718 = (f 11718) by omega), (show f 11709 = (f 11709) by omega), (show f 11741 = (f 11741) by omega), (show f 11750 = (f 11750) by omega), (show f 11753 = (f 11753) by omega), (show f 11755 = (f 11755) by omega), (show f 11757 = (f 11757) by omega)⟩
    · have q27 := am_Rg11713 hI.1.1
      have q28 := am_Rg11718 hI.1.1
      have q29 := am_Rg11709 hI.1.1
      have q30 := am_Rg11741 hI.1.1
      have q31 := am_Rg11750 hI.1.1
      have q32 := am_Rg11753 hI.1.1
      have q33 := am_Rg11755 hI.1.1
      exact am_eret rfl rfl ⟨hI, (am_mn.refl f a), (show f 11713 = (f 11713) by omega), (show f 11718 = (f 11718) by omega), (show f 11709 = (f 11709) by omega), (show f 11741 = (f 11741) by omega), (show f 11750 = (f 11750) by omega), (show f 11753 = (f 11753) by omega), (show f 11755 = (f 11755) by omega), (show f 11757 = (f 11757) by omega)⟩
  · refine am_raload_n rfl rfl rfl ?_
    have q34 := am_Rg11763 hI.1.1
    refine am_rgetf (S1 := [am_iv (f 11763)]) rfl rfl ?_
    refine am_rsipush rfl (by decide) ?_
    refine am_ric_ne rfl rfl (by unfold am_rg; omega) (by unfold am_rg; omega) (fun hc35 => ?_) (fun hc35 => ?_)
    · refine am_raload_n rfl rfl rfl ?_
      refine am_rgetf (S1 := [am_iv (f 11701)]) rfl rfl ?_
      refine am_rif_eq rfl rfl (by unfold am_rg; omega) (fun hc36 => ?_) (fun hc36 => ?_)
      · refine am_raload_n rfl rfl rfl ?_
        refine am_rgetf (S1 := [.ref 162]) rfl rfl ?_
        refine am_raload_n rfl rfl rfl ?_
        refine am_rgetf (S1 := [am_iv (f 11763), .ref 162]) rfl rfl ?_
        refine am_riload_n rfl rfl rfl ?_
        have q37 : (a 162).length = 2000 := am_Rl162 (am_RL 162 rfl hI.1.1)
        have i38 : am_ib (a 162) (f 11763) := by unfold am_ib; omega
        have hl39 : am_LR 162 ((a 162).set (f 11763).toNat y1) := am_RS162 (am_RL 162 rfl hI.1.1) (by omega) (by omega)
        refine am_riastore (l := a 162) (h1 := am_enc f (am_ud a 162 ((a 162).set (f 11763).toNat y1)) w e) rfl am_ge162 i38 (am_sa162 _) ?_
        refine am_raload_n rfl rfl rfl ?_
        refine am_rdup rfl rfl ?_
        refine am_rgetf (S1 := [am_iv (f 11763), .ref 117]) rfl rfl ?_
        refine am_riconst rfl ?_
        refine am_riadd rfl ?_
        refine am_rputf (S1 := []) (h1 := am_enc (am_ud f 11763 ((f 11763) + 1)) (am_ud a 162 ((a 162).set (f 11763).toNat y1)) w e) rfl (am_pfB rfl am_ge117 rfl (am_sf11763 _)) (by rw [am_enc_len, am_enc_len]) ?_
        refine am_raload_n rfl rfl rfl ?_
        refine am_rgetf (S1 := [.ref 160]) rfl rfl ?_
        refine am_raload_n rfl rfl rfl ?_
        refine am_rgetf (S1 := [am_iv (f 11757), .ref 160]) rfl rfl ?_
        refine am_riconst rfl ?_
        refine am_risub rfl ?_
        refine am_rdup2 rfl rfl rfl ?_
        have q40 : (a 160).length = 200 := am_Rl160 (am_RL 160 rfl hI.1.1)
        have i41 : am_ib (a 160) ((f 11757) - 1) := by unfold am_ib; omega
        have q42 := am_Rb160 (am_RL 160 rfl hI.1.1) i41
        have r6 := hI.1.2.2 ((f 11757) - 1) (by omega) (by omega)
        have r9 := (am_Rb159 (am_RL 159 rfl hI.1.1) (x := ((f 11757) - 1)) (by have := am_Rl159 (am_RL 159 rfl hI.1.1); unfold am_ib; omega)).1
        refine am_riaload (l := a 160) rfl am_ge160 i41 ?_
        refine am_riconst rfl ?_
        refine am_riadd rfl ?_
        have i43 : am_ib (a 160) ((f 11757) - 1) := by unfold am_ib; omega
        have hl44 : am_LR 160 ((a 160).set ((f 11757) - 1).toNat ((am_at (a 160) ((f 11757) - 1)) + 1)) := am_RS160 (am_RL 160 rfl hI.1.1) (by omega) (by omega)
        refine am_riastore (l := a 160) (h1 := am_enc (am_ud f 11763 ((f 11763) + 1)) (am_ud (am_ud a 162 ((a 162).set (f 11763).toNat y1)) 160 ((a 160).set ((f 11757) - 1).toNat ((am_at (a 160) ((f 11757) - 1)) + 1))) w e) rfl am_ge160 i43 (am_sa160 _) ?_
        have J45 : am_RV g h (am_ud f 11763 ((f 11763) + 1)) (am_ud (am_ud a 162 ((a 162).set (f 11763).toNat y1)) 160 ((a 160).set ((f 11757) - 1).toNat ((am_at (a 160) ((f 11757) - 1)) + 1))) := by
          have w0 := am_Kf11763 (v := (f 11763) + 1) hI.1.1 (by omega) (by omega)
          have u0 := am_Ka162 w0 hl39
          have u1 := am_Ka160 u0 hl44
          exact ⟨⟨u1, hI.1.2.1, am_R3_inc hI.1.2.2 (by assumption)⟩, hI.2⟩
        have m46 : am_mn f a (am_ud f 11763 ((f 11763) + 1)) a := am_mn_f rfl rfl rfl (am_mn.refl f a)
        have m47 : am_mn f a (am_ud f 11763 ((f 11763) + 1)) (am_ud a 162 ((a 162).set (f 11763).toNat y1)) := am_mn_a rfl rfl m46
        have m48 : am_mn f a (am_ud f 11763 ((f 11763) + 1)) (am_ud (am_ud a 162 ((a 162).set (f 11763).toNat y1)) 160 ((a 160).set ((f 11757) - 1).toNat ((am_at (a 160) ((f 11757) - 1)) + 1))) := am_mn_a rfl rfl m47
        have q49 := am_Rg11713 hI.1.1
        have q50 := am_Rg11718 hI.1.1
        have q51 := am_Rg11709 hI.1.1
        have q52 := am_Rg11741 hI.1.1
        have q53 := am_Rg11750 hI.1.1
        have q54 := am_Rg11753 hI.1.1
        have q55 := am_Rg11755 hI.1.1
        exact am_eret rfl rfl ⟨J45, m48, (show f 11713 = (f 11713) by omega), (show f 11718 = (f 11718) by omega), (show f 11709 = (f 11709) by omega), (show f 11741 = (f 11741) by omega), (show f 11750 = (f 11750) by omega), (show f 11753 = (f 11753) by omega), (show f 11755 = (f 11755) by omega), (show f 11757 = (f 11757) by omega)⟩
      · have q56 := am_Rg11713 hI.1.1
        have q57 := am_Rg11718 hI.1.1
        have q58 := am_Rg11709 hI.1.1
        have q59 := am_Rg11741 hI.1.1
        have q60 := am_Rg11750 hI.1.1
        have q61 := am_Rg11753 hI.1.1
        have q62 := am_Rg11755 hI.1.1
        exact am_eret rfl rfl ⟨hI, (am_mn.refl f a), (show f 11713 = (f 11713) by omega), (show f 11718 = (f 11718) by omega), (show f 11709 = (f 11709) by omega), (show f 11741 = (f 11741) by omega), (show f 11750 = (f 11750) by omega), (show f 11753 = (f 11753) by omega), (show f 11755 = (f 11755) by omega), (show f 11757 = (f 11757) by omega)⟩
    · refine am_raload_n rfl rfl rfl ?_
      refine am_riconst rfl ?_
      refine am_evirtualV (m := am_m116) (As := [.ref 117, am_iv 2]) (S1 := []) rfl rfl rfl rfl rfl rfl rfl rfl rfl rfl (am_TE.void (am_ct117 (y1 := 2) (by omega) (by omega) (show 1 ≤ 2 by omega) (show 2 ≤ 3 by omega) (show 0 ≤ (f 11701) by omega) (show (f 11701) ≤ 3 by omega)) (fun f63 a63 hq64 => ?_) (fun _ _ _ h => h))
      obtain ⟨v65, rfl, rfl, hq64⟩ := hq64
      replace hq64 : 0 < v65 ∧ v65 ≤ 3 ∧ f 11701 ≤ v65 := hq64
      refine am_raload_n rfl rfl rfl ?_
      refine am_rgetf (S1 := [am_iv v65]) rfl rfl ?_
      refine am_rif_eq rfl rfl (by unfold am_rg; omega) (fun hc66 => ?_) (fun hc66 => ?_)
      · exfalso; omega
      have J67 := am_Rf11701 (v := v65) hI (by omega) (by omega)
      have m68 : am_mn f a (am_ud f 11701 v65) a := am_mn.halt (am_mn.refl f a) (by omega)
      have q69 := am_Rg11713 hI.1.1
      have q70 := am_Rg11718 hI.1.1
      have q71 := am_Rg11709 hI.1.1
      have q72 := am_Rg11741 hI.1.1
      have q73 := am_Rg11750 hI.1.1
      have q74 := am_Rg11753 hI.1.1
      have q75 := am_Rg11755 hI.1.1
      exact am_eret rfl rfl ⟨J67, m68, (show f 11713 = (f 11713) by omega), (show f 11718 = (f 11718) by omega), (show f 11709 = (f 11709) by omega), (show f 11741 = (f 11741) by omega), (show f 11750 = (f 11750) by omega), (show f 11753 = (f 11753) by omega), (show f 11755 = (f 11755) by omega), (show f 11757 = (f 11757) by omega)⟩
set_option maxRecDepth 100000 in
set_option maxHeartbeats 4000000 in
theorem am_ct158 {X : List Value} {w : Value} {e : Nat} {g : aF} {h : aA} {E : Nat → aF → aA → Prop} {d : Nat} {y1 : Int} {f : aF} {a : aA} (hd : 3 ≤ d) (hI : am_RV g h f a) (hp0 : (-2147483648 ≤ y1 ∧ y1 ≤ 2147483647)) (hp1 : 1 ≤ f 11718) :
    am_TE X d am_m157 0 (lv_args 0 [.ref 117, am_iv y1]) [] f a w e (am_QV (fun f1 a1 => am_RV g h f1 a1 ∧ am_mn f a f1 a1 ∧ f1 11713 = (f 11713) ∧ f1 11718 = (f 11718) ∧ f1 11709 = (f 11709) ∧ f1 11741 = (f 11741) ∧ f1 11750 = (f 11750) ∧ f1 11753 = (f 11753) ∧ f1 11755 = (f 11755))) E := by
  obtain ⟨d, rfl⟩ : ∃ d0, d = d0 + 1 := ⟨d - 1, by omega⟩
  have q1 := am_RV_ph hI
  have q2 := am_RV_p0 hI
  have q3 := am_Rg11718 hI.1.1
  refine am_raload_n rfl rfl rfl ?_
  have q4 := am_Rg11757 hI.1.1
  refine am_rgetf (S1 := [am_iv (f 11757)]) rfl rfl ?_
  refine am_rif_eq rfl rfl (by unfold am_rg; omega) (fun hc5 => ?_) (fun hc5 => ?_)
  · refine am_raload_n rfl rfl rfl ?_
    refine am_riconst rfl ?_
    refine am_riconst rfl ?_
    refine am_evirtualV (m := am_m155) (As := [.ref 117, am_iv 3, am_iv 0]) (S1 := []) rfl rfl rfl rfl rfl rfl rfl rfl rfl rfl (am_TE.void (am_ct156 (y1 := 3) (y2 := 0) (by omega) hI (by omega) (by omega)) (fun f6 a6 hq7 => ?_) (fun _ _ _ h => h))
    obtain ⟨hI8, hk9, hq7⟩ := hq7
    replace hq7 : f6 11713 = ((f 11713)) ∧ f6 11718 = ((f 11718)) ∧ f6 11709 = ((f 11709)) ∧ f6 11741 = ((f 11741)) ∧ f6 11750 = ((f 11750)) ∧ f6 11753 = ((f 11753)) ∧ f6 11755 = ((f 11755)) ∧ 1 ≤ f6 11757 + f6 11701 := hq7
    have mm10 : f 11701 ≤ f6 11701 ∧ am_ph f a ≤ am_ph f6 a6 ∧ am_at (a 124) 0 ≤ am_at (a6 124) 0 ∧ am_at (a6 125) 0 = am_at (a 125) 0 := hk9
    have hm11 := am_mn.trans (am_mn.refl f a) hk9
    refine am_raload_n rfl rfl rfl ?_
    refine am_riload_n rfl rfl rfl ?_
    have q12 := am_Rg11701 hI8.1.1
    have q13 := am_Rg11757 hI8.1.1
    refine am_evirtualV (m := am_m156) (As := [.ref 117, am_iv y1]) (S1 := []) rfl rfl rfl rfl rfl rfl rfl rfl rfl rfl (am_TE.void (am_ct157 (y1 := y1) (by omega) hI8 (by omega) (show 1 ≤ (f6 11757) + (f6 11701) by omega)) (fun f14 a14 hq15 => ?_) (fun _ _ _ h => h))
    obtain ⟨hI16, hk17, hq15⟩ := hq15
    replace hq15 : f14 11713 = ((f6 11713)) ∧ f14 11718 = ((f6 11718)) ∧ f14 11709 = ((f6 11709)) ∧ f14 11741 = ((f6 11741)) ∧ f14 11750 = ((f6 11750)) ∧ f14 11753 = ((f6 11753)) ∧ f14 11755 = ((f6 11755)) ∧ f14 11757 = ((f6 11757)) := hq15
    have mm18 : f6 11701 ≤ f14 11701 ∧ am_ph f6 a6 ≤ am_ph f14 a14 ∧ am_at (a6 124) 0 ≤ am_at (a14 124) 0 ∧ am_at (a14 125) 0 = am_at (a6 125) 0 := hk17
    have hm19 := am_mn.trans hm11 hk17
    refine am_raload_n rfl rfl rfl ?_
    refine am_rgetf (S1 := [.ref 128]) rfl rfl ?_
    refine am_raload_n rfl rfl rfl ?_
    have q20 := am_Rg11718 hI16.1.1
    refine am_rgetf (S1 := [am_iv (f14 11718), .ref 128]) rfl rfl ?_
    refine am_riconst rfl ?_
    refine am_risub rfl ?_
    have q21 : (a14 128).length = 20 := am_Rl128 (am_RL 128 rfl hI16.1.1)
    have i22 : am_ib (a14 128) ((f14 11718) - 1) := by unfold am_ib; omega
    have q23 := am_Rb128 (am_RL 128 rfl hI16.1.1) i22
    refine am_riaload (l := a14 128) rfl am_ge128 i22 ?_
    refine am_ristore_n (L1 := [(0, .ref 117), (1, am_iv y1), (2, am_iv (am_at (a14 128) ((f14 11718) - 1)))]) rfl rfl rfl rfl rfl ?_
    refine am_raload_n rfl rfl rfl ?_
    refine am_rgetf (S1 := [.ref 132]) rfl rfl ?_
    refine am_riload_n rfl rfl rfl ?_
    have q24 : (a14 132).length = 26 := am_Rl132 (am_RL 132 rfl hI16.1.1)
    have i25 : am_ib (a14 132) (am_at (a14 128) ((f14 11718) - 1)) := by unfold am_ib; omega
    have q26 := am_Rb132 (am_RL 132 rfl hI16.1.1) i25
    refine am_riaload (l := a14 132) rfl am_ge132 i25 ?_
    refine am_riconst rfl ?_
    refine am_ric_eq rfl rfl (by unfold am_rg; omega) (by unfold am_rg; omega) (fun hc27 => ?_) (fun hc27 => ?_)
    · refine am_raload_n rfl rfl rfl ?_
      refine am_rdup rfl rfl ?_
      have q28 := am_Rg11704 hI16.1.1
      refine am_rgetf (S1 := [am_iv (f14 11704), .ref 117]) rfl rfl ?_
      refine am_riconst rfl ?_
      have q29 := am_or_rg (f14 11704) 4
      refine am_rior rfl ?_
      refine am_rputf (S1 := []) (h1 := am_enc (am_ud f14 11704 (am_or (f14 11704) 4)) a14 w e) rfl (am_pfB rfl am_ge117 rfl (am_sf11704 _)) (by rw [am_enc_len, am_enc_len]) ?_
      have q30 := am_Rg11701 hI16.1.1
      have J31 := am_Rf11704 (v := am_or (f14 11704) 4) hI16 (by omega) (by omega)
      have m32 : am_mn f a (am_ud f14 11704 (am_or (f14 11704) 4)) a14 := am_mn_f rfl rfl rfl hm19
      have q33 := am_Rg11713 hI16.1.1
      have q34 := am_Rg11709 hI16.1.1
      have q35 := am_Rg11741 hI16.1.1
      have q36 := am_Rg11750 hI16.1.1
      have q37 := am_Rg11753 hI16.1.1
      have q38 := am_Rg11755 hI16.1.1
      exact am_eret rfl rfl ⟨J31, m32, (show f14 11713 = (f 11713) by omega), (show f14 11718 = (f 11718) by omega), (show f14 11709 = (f 11709) by omega), (show f14 11741 = (f 11741) by omega), (show f14 11750 = (f 11750) by omega), (show f14 11753 = (f 11753) by omega), (show f14 11755 = (f 11755) by omega)⟩
    · refine am_raload_n rfl rfl rfl ?_
      refine am_rgetf (S1 := [.ref 132]) rfl rfl ?_
      refine am_riload_n rfl rfl rfl ?_
      have i39 : am_ib (a14 132) (am_at (a14 128) ((f14 11718) - 1)) := by unfold am_ib; omega
      refine am_riaload (l := a14 132) rfl am_ge132 i39 ?_
      refine am_riconst rfl ?_
      refine am_ric_ne rfl rfl (by unfold am_rg; omega) (by unfold am_rg; omega) (fun hc40 => ?_) (fun hc40 => ?_)
      · have q41 := am_Rg11701 hI16.1.1
        have q42 := am_Rg11713 hI16.1.1
        have q43 := am_Rg11709 hI16.1.1
        have q44 := am_Rg11741 hI16.1.1
        have q45 := am_Rg11750 hI16.1.1
        have q46 := am_Rg11753 hI16.1.1
        have q47 := am_Rg11755 hI16.1.1
        exact am_eret rfl rfl ⟨hI16, hm19, (show f14 11713 = (f 11713) by omega), (show f14 11718 = (f 11718) by omega), (show f14 11709 = (f 11709) by omega), (show f14 11741 = (f 11741) by omega), (show f14 11750 = (f 11750) by omega), (show f14 11753 = (f 11753) by omega), (show f14 11755 = (f 11755) by omega)⟩
      · refine am_riload_n rfl rfl rfl ?_
        refine am_estaticI (m := am_m118) (As := [am_iv y1]) (S1 := []) rfl rfl rfl rfl rfl rfl rfl rfl (am_TE.int (am_ct119 (y1 := y1) (by omega) (by omega)) (fun b48 f48 a48 hq49 => ?_) (fun _ _ _ h => h))
        obtain ⟨rfl, rfl, hq49⟩ := hq49
        refine am_rif_ne rfl rfl (by unfold am_rg; omega) (fun hc50 => ?_) (fun hc50 => ?_)
        · have q51 := am_Rg11701 hI16.1.1
          have q52 := am_Rg11713 hI16.1.1
          have q53 := am_Rg11709 hI16.1.1
          have q54 := am_Rg11741 hI16.1.1
          have q55 := am_Rg11750 hI16.1.1
          have q56 := am_Rg11753 hI16.1.1
          have q57 := am_Rg11755 hI16.1.1
          exact am_eret rfl rfl ⟨hI16, hm19, (show f14 11713 = (f 11713) by omega), (show f14 11718 = (f 11718) by omega), (show f14 11709 = (f 11709) by omega), (show f14 11741 = (f 11741) by omega), (show f14 11750 = (f 11750) by omega), (show f14 11753 = (f 11753) by omega), (show f14 11755 = (f 11755) by omega)⟩
        · refine am_raload_n rfl rfl rfl ?_
          refine am_rdup rfl rfl ?_
          have q58 := am_Rg11704 hI16.1.1
          refine am_rgetf (S1 := [am_iv (f14 11704), .ref 117]) rfl rfl ?_
          refine am_riconst rfl ?_
          have q59 := am_or_rg (f14 11704) 4
          refine am_rior rfl ?_
          refine am_rputf (S1 := []) (h1 := am_enc (am_ud f14 11704 (am_or (f14 11704) 4)) a14 w e) rfl (am_pfB rfl am_ge117 rfl (am_sf11704 _)) (by rw [am_enc_len, am_enc_len]) ?_
          have q60 := am_Rg11701 hI16.1.1
          have J61 := am_Rf11704 (v := am_or (f14 11704) 4) hI16 (by omega) (by omega)
          have m62 : am_mn f a (am_ud f14 11704 (am_or (f14 11704) 4)) a14 := am_mn_f rfl rfl rfl hm19
          have q63 := am_Rg11713 hI16.1.1
          have q64 := am_Rg11709 hI16.1.1
          have q65 := am_Rg11741 hI16.1.1
          have q66 := am_Rg11750 hI16.1.1
          have q67 := am_Rg11753 hI16.1.1
          have q68 := am_Rg11755 hI16.1.1
          exact am_eret rfl rfl ⟨J61, m62, (show f14 11713 = (f 11713) by omega), (show f14 11718 = (f 11718) by omega), (show f14 11709 = (f 11709) by omega), (show f14 11741 = (f 11741) by omega), (show f14 11750 = (f 11750) by omega), (show f14 11753 = (f 11753) by omega), (show f14 11755 = (f 11755) by omega)⟩
  · refine am_raload_n rfl rfl rfl ?_
    refine am_rgetf (S1 := [.ref 157]) rfl rfl ?_
    refine am_raload_n rfl rfl rfl ?_
    refine am_rgetf (S1 := [am_iv (f 11757), .ref 157]) rfl rfl ?_
    refine am_riconst rfl ?_
    refine am_risub rfl ?_
    have q69 : (a 157).length = 200 := am_Rl157 (am_RL 157 rfl hI.1.1)
    have i70 : am_ib (a 157) ((f 11757) - 1) := by unfold am_ib; omega
    have q71 := am_Rb157 (am_RL 157 rfl hI.1.1) i70
    refine am_riaload (l := a 157) rfl am_ge157 i70 ?_
    refine am_riconst rfl ?_
    refine am_ric_eq rfl rfl (by unfold am_rg; omega) (by unfold am_rg; omega) (fun hc72 => ?_) (fun hc72 => ?_)
    · refine am_raload_n rfl rfl rfl ?_
      refine am_riload_n rfl rfl rfl ?_
      have q73 := am_Rg11701 hI.1.1
      refine am_evirtualV (m := am_m156) (As := [.ref 117, am_iv y1]) (S1 := []) rfl rfl rfl rfl rfl rfl rfl rfl rfl rfl (am_TE.void (am_ct157 (y1 := y1) (by omega) hI (by omega) (show 1 ≤ (f 11757) + (f 11701) by omega)) (fun f74 a74 hq75 => ?_) (fun _ _ _ h => h))
      obtain ⟨hI76, hk77, hq75⟩ := hq75
      replace hq75 : f74 11713 = ((f 11713)) ∧ f74 11718 = ((f 11718)) ∧ f74 11709 = ((f 11709)) ∧ f74 11741 = ((f 11741)) ∧ f74 11750 = ((f 11750)) ∧ f74 11753 = ((f 11753)) ∧ f74 11755 = ((f 11755)) ∧ f74 11757 = ((f 11757)) := hq75
      have mm78 : f 11701 ≤ f74 11701 ∧ am_ph f a ≤ am_ph f74 a74 ∧ am_at (a 124) 0 ≤ am_at (a74 124) 0 ∧ am_at (a74 125) 0 = am_at (a 125) 0 := hk77
      have hm79 := am_mn.trans (am_mn.refl f a) hk77
      refine am_raload_n rfl rfl rfl ?_
      refine am_rgetf (S1 := [.ref 128]) rfl rfl ?_
      refine am_raload_n rfl rfl rfl ?_
      have q80 := am_Rg11718 hI76.1.1
      refine am_rgetf (S1 := [am_iv (f74 11718), .ref 128]) rfl rfl ?_
      refine am_riconst rfl ?_
      refine am_risub rfl ?_
      have q81 : (a74 128).length = 20 := am_Rl128 (am_RL 128 rfl hI76.1.1)
      have i82 : am_ib (a74 128) ((f74 11718) - 1) := by unfold am_ib; omega
      have q83 := am_Rb128 (am_RL 128 rfl hI76.1.1) i82
      refine am_riaload (l := a74 128) rfl am_ge128 i82 ?_
      refine am_ristore_n (L1 := [(0, .ref 117), (1, am_iv y1), (2, am_iv (am_at (a74 128) ((f74 11718) - 1)))]) rfl rfl rfl rfl rfl ?_
      refine am_raload_n rfl rfl rfl ?_
      refine am_rgetf (S1 := [.ref 132]) rfl rfl ?_
      refine am_riload_n rfl rfl rfl ?_
      have q84 : (a74 132).length = 26 := am_Rl132 (am_RL 132 rfl hI76.1.1)
      have i85 : am_ib (a74 132) (am_at (a74 128) ((f74 11718) - 1)) := by unfold am_ib; omega
      have q86 := am_Rb132 (am_RL 132 rfl hI76.1.1) i85
      refine am_riaload (l := a74 132) rfl am_ge132 i85 ?_
      refine am_riconst rfl ?_
      refine am_ric_eq rfl rfl (by unfold am_rg; omega) (by unfold am_rg; omega) (fun hc87 => ?_) (fun hc87 => ?_)
      · refine am_raload_n rfl rfl rfl ?_
        refine am_rdup rfl rfl ?_
        have q88 := am_Rg11704 hI76.1.1
        refine am_rgetf (S1 := [am_iv (f74 11704), .ref 117]) rfl rfl ?_
        refine am_riconst rfl ?_
        have q89 := am_or_rg (f74 11704) 4
        refine am_rior rfl ?_
        refine am_rputf (S1 := []) (h1 := am_enc (am_ud f74 11704 (am_or (f74 11704) 4)) a74 w e) rfl (am_pfB rfl am_ge117 rfl (am_sf11704 _)) (by rw [am_enc_len, am_enc_len]) ?_
        have q90 := am_Rg11701 hI76.1.1
        have J91 := am_Rf11704 (v := am_or (f74 11704) 4) hI76 (by omega) (by omega)
        have m92 : am_mn f a (am_ud f74 11704 (am_or (f74 11704) 4)) a74 := am_mn_f rfl rfl rfl hm79
        have q93 := am_Rg11713 hI76.1.1
        have q94 := am_Rg11709 hI76.1.1
        have q95 := am_Rg11741 hI76.1.1
        have q96 := am_Rg11750 hI76.1.1
        have q97 := am_Rg11753 hI76.1.1
        have q98 := am_Rg11755 hI76.1.1
        exact am_eret rfl rfl ⟨J91, m92, (show f74 11713 = (f 11713) by omega), (show f74 11718 = (f 11718) by omega), (show f74 11709 = (f 11709) by omega), (show f74 11741 = (f 11741) by omega), (show f74 11750 = (f 11750) by omega), (show f74 11753 = (f 11753) by omega), (show f74 11755 = (f 11755) by omega)⟩
      · refine am_raload_n rfl rfl rfl ?_
        refine am_rgetf (S1 := [.ref 132]) rfl rfl ?_
        refine am_riload_n rfl rfl rfl ?_
        have i99 : am_ib (a74 132) (am_at (a74 128) ((f74 11718) - 1)) := by unfold am_ib; omega
        refine am_riaload (l := a74 132) rfl am_ge132 i99 ?_
        refine am_riconst rfl ?_
        refine am_ric_ne rfl rfl (by unfold am_rg; omega) (by unfold am_rg; omega) (fun hc100 => ?_) (fun hc100 => ?_)
        · have q101 := am_Rg11701 hI76.1.1
          have q102 := am_Rg11713 hI76.1.1
          have q103 := am_Rg11709 hI76.1.1
          have q104 := am_Rg11741 hI76.1.1
          have q105 := am_Rg11750 hI76.1.1
          have q106 := am_Rg11753 hI76.1.1
          have q107 := am_Rg11755 hI76.1.1
          exact am_eret rfl rfl ⟨hI76, hm79, (show f74 11713 = (f 11713) by omega), (show f74 11718 = (f 11718) by omega), (show f74 11709 = (f 11709) by omega), (show f74 11741 = (f 11741) by omega), (show f74 11750 = (f 11750) by omega), (show f74 11753 = (f 11753) by omega), (show f74 11755 = (f 11755) by omega)⟩
        · refine am_riload_n rfl rfl rfl ?_
          refine am_estaticI (m := am_m118) (As := [am_iv y1]) (S1 := []) rfl rfl rfl rfl rfl rfl rfl rfl (am_TE.int (am_ct119 (y1 := y1) (by omega) (by omega)) (fun b108 f108 a108 hq109 => ?_) (fun _ _ _ h => h))
          obtain ⟨rfl, rfl, hq109⟩ := hq109
          refine am_rif_ne rfl rfl (by unfold am_rg; omega) (fun hc110 => ?_) (fun hc110 => ?_)
          · have q111 := am_Rg11701 hI76.1.1
            have q112 := am_Rg11713 hI76.1.1
            have q113 := am_Rg11709 hI76.1.1
            have q114 := am_Rg11741 hI76.1.1
            have q115 := am_Rg11750 hI76.1.1
            have q116 := am_Rg11753 hI76.1.1
            have q117 := am_Rg11755 hI76.1.1
            exact am_eret rfl rfl ⟨hI76, hm79, (show f74 11713 = (f 11713) by omega), (show f74 11718 = (f 11718) by omega), (show f74 11709 = (f 11709) by omega), (show f74 11741 = (f 11741) by omega), (show f74 11750 = (f 11750) by omega), (show f74 11753 = (f 11753) by omega), (show f74 11755 = (f 11755) by omega)⟩
          · refine am_raload_n rfl rfl rfl ?_
            refine am_rdup rfl rfl ?_
            have q118 := am_Rg11704 hI76.1.1
            refine am_rgetf (S1 := [am_iv (f74 11704), .ref 117]) rfl rfl ?_
            refine am_riconst rfl ?_
            have q119 := am_or_rg (f74 11704) 4
            refine am_rior rfl ?_
            refine am_rputf (S1 := []) (h1 := am_enc (am_ud f74 11704 (am_or (f74 11704) 4)) a74 w e) rfl (am_pfB rfl am_ge117 rfl (am_sf11704 _)) (by rw [am_enc_len, am_enc_len]) ?_
            have q120 := am_Rg11701 hI76.1.1
            have J121 := am_Rf11704 (v := am_or (f74 11704) 4) hI76 (by omega) (by omega)
            have m122 : am_mn f a (am_ud f74 11704 (am_or (f74 11704) 4)) a74 := am_mn_f rfl rfl rfl hm79
            have q123 := am_Rg11713 hI76.1.1
            have q124 := am_Rg11709 hI76.1.1
            have q125 := am_Rg11741 hI76.1.1
            have q126 := am_Rg11750 hI76.1.1
            have q127 := am_Rg11753 hI76.1.1
            have q128 := am_Rg11755 hI76.1.1
            exact am_eret rfl rfl ⟨J121, m122, (show f74 11713 = (f 11713) by omega), (show f74 11718 = (f 11718) by omega), (show f74 11709 = (f 11709) by omega), (show f74 11741 = (f 11741) by omega), (show f74 11750 = (f 11750) by omega), (show f74 11753 = (f 11753) by omega), (show f74 11755 = (f 11755) by omega)⟩
    · refine am_raload_n rfl rfl rfl ?_
      refine am_riconst rfl ?_
      refine am_riconst rfl ?_
      refine am_evirtualV (m := am_m155) (As := [.ref 117, am_iv 3, am_iv 0]) (S1 := []) rfl rfl rfl rfl rfl rfl rfl rfl rfl rfl (am_TE.void (am_ct156 (y1 := 3) (y2 := 0) (by omega) hI (by omega) (by omega)) (fun f129 a129 hq130 => ?_) (fun _ _ _ h => h))
      obtain ⟨hI131, hk132, hq130⟩ := hq130
      replace hq130 : f129 11713 = ((f 11713)) ∧ f129 11718 = ((f 11718)) ∧ f129 11709 = ((f 11709)) ∧ f129 11741 = ((f 11741)) ∧ f129 11750 = ((f 11750)) ∧ f129 11753 = ((f 11753)) ∧ f129 11755 = ((f 11755)) ∧ 1 ≤ f129 11757 + f129 11701 := hq130
      have mm133 : f 11701 ≤ f129 11701 ∧ am_ph f a ≤ am_ph f129 a129 ∧ am_at (a 124) 0 ≤ am_at (a129 124) 0 ∧ am_at (a129 125) 0 = am_at (a 125) 0 := hk132
      have hm134 := am_mn.trans (am_mn.refl f a) hk132
      refine am_raload_n rfl rfl rfl ?_
      refine am_riload_n rfl rfl rfl ?_
      have q135 := am_Rg11701 hI131.1.1
      have q136 := am_Rg11757 hI131.1.1
      refine am_evirtualV (m := am_m156) (As := [.ref 117, am_iv y1]) (S1 := []) rfl rfl rfl rfl rfl rfl rfl rfl rfl rfl (am_TE.void (am_ct157 (y1 := y1) (by omega) hI131 (by omega) (show 1 ≤ (f129 11757) + (f129 11701) by omega)) (fun f137 a137 hq138 => ?_) (fun _ _ _ h => h))
      obtain ⟨hI139, hk140, hq138⟩ := hq138
      replace hq138 : f137 11713 = ((f129 11713)) ∧ f137 11718 = ((f129 11718)) ∧ f137 11709 = ((f129 11709)) ∧ f137 11741 = ((f129 11741)) ∧ f137 11750 = ((f129 11750)) ∧ f137 11753 = ((f129 11753)) ∧ f137 11755 = ((f129 11755)) ∧ f137 11757 = ((f129 11757)) := hq138
      have mm141 : f129 11701 ≤ f137 11701 ∧ am_ph f129 a129 ≤ am_ph f137 a137 ∧ am_at (a129 124) 0 ≤ am_at (a137 124) 0 ∧ am_at (a137 125) 0 = am_at (a129 125) 0 := hk140
      have hm142 := am_mn.trans hm134 hk140
      refine am_raload_n rfl rfl rfl ?_
      refine am_rgetf (S1 := [.ref 128]) rfl rfl ?_
      refine am_raload_n rfl rfl rfl ?_
      have q143 := am_Rg11718 hI139.1.1
      refine am_rgetf (S1 := [am_iv (f137 11718), .ref 128]) rfl rfl ?_
      refine am_riconst rfl ?_
      refine am_risub rfl ?_
      have q144 : (a137 128).length = 20 := am_Rl128 (am_RL 128 rfl hI139.1.1)
      have i145 : am_ib (a137 128) ((f137 11718) - 1) := by unfold am_ib; omega
      have q146 := am_Rb128 (am_RL 128 rfl hI139.1.1) i145
      refine am_riaload (l := a137 128) rfl am_ge128 i145 ?_
      refine am_ristore_n (L1 := [(0, .ref 117), (1, am_iv y1), (2, am_iv (am_at (a137 128) ((f137 11718) - 1)))]) rfl rfl rfl rfl rfl ?_
      refine am_raload_n rfl rfl rfl ?_
      refine am_rgetf (S1 := [.ref 132]) rfl rfl ?_
      refine am_riload_n rfl rfl rfl ?_
      have q147 : (a137 132).length = 26 := am_Rl132 (am_RL 132 rfl hI139.1.1)
      have i148 : am_ib (a137 132) (am_at (a137 128) ((f137 11718) - 1)) := by unfold am_ib; omega
      have q149 := am_Rb132 (am_RL 132 rfl hI139.1.1) i148
      refine am_riaload (l := a137 132) rfl am_ge132 i148 ?_
      refine am_riconst rfl ?_
      refine am_ric_eq rfl rfl (by unfold am_rg; omega) (by unfold am_rg; omega) (fun hc150 => ?_) (fun hc150 => ?_)
      · refine am_raload_n rfl rfl rfl ?_
        refine am_rdup rfl rfl ?_
        have q151 := am_Rg11704 hI139.1.1
        refine am_rgetf (S1 := [am_iv (f137 11704), .ref 117]) rfl rfl ?_
        refine am_riconst rfl ?_
        have q152 := am_or_rg (f137 11704) 4
        refine am_rior rfl ?_
        refine am_rputf (S1 := []) (h1 := am_enc (am_ud f137 11704 (am_or (f137 11704) 4)) a137 w e) rfl (am_pfB rfl am_ge117 rfl (am_sf11704 _)) (by rw [am_enc_len, am_enc_len]) ?_
        have q153 := am_Rg11701 hI139.1.1
        have J154 := am_Rf11704 (v := am_or (f137 11704) 4) hI139 (by omega) (by omega)
        have m155 : am_mn f a (am_ud f137 11704 (am_or (f137 11704) 4)) a137 := am_mn_f rfl rfl rfl hm142
        have q156 := am_Rg11713 hI139.1.1
        have q157 := am_Rg11709 hI139.1.1
        have q158 := am_Rg11741 hI139.1.1
        have q159 := am_Rg11750 hI139.1.1
        have q160 := am_Rg11753 hI139.1.1
        have q161 := am_Rg11755 hI139.1.1
        exact am_eret rfl rfl ⟨J154, m155, (show f137 11713 = (f 11713) by omega), (show f137 11718 = (f 11718) by omega), (show f137 11709 = (f 11709) by omega), (show f137 11741 = (f 11741) by omega), (show f137 11750 = (f 11750) by omega), (show f137 11753 = (f 11753) by omega), (show f137 11755 = (f 11755) by omega)⟩
      · refine am_raload_n rfl rfl rfl ?_
        refine am_rgetf (S1 := [.ref 132]) rfl rfl ?_
        refine am_riload_n rfl rfl rfl ?_
        have i162 : am_ib (a137 132) (am_at (a137 128) ((f137 11718) - 1)) := by unfold am_ib; omega
        refine am_riaload (l := a137 132) rfl am_ge132 i162 ?_
        refine am_riconst rfl ?_
        refine am_ric_ne rfl rfl (by unfold am_rg; omega) (by unfold am_rg; omega) (fun hc163 => ?_) (fun hc163 => ?_)
        · have q164 := am_Rg11701 hI139.1.1
          have q165 := am_Rg11713 hI139.1.1
          have q166 := am_Rg11709 hI139.1.1
          have q167 := am_Rg11741 hI139.1.1
          have q168 := am_Rg11750 hI139.1.1
          have q169 := am_Rg11753 hI139.1.1
          have q170 := am_Rg11755 hI139.1.1
          exact am_eret rfl rfl ⟨hI139, hm142, (show f137 11713 = (f 11713) by omega), (show f137 11718 = (f 11718) by omega), (show f137 11709 = (f 11709) by omega), (show f137 11741 = (f 11741) by omega), (show f137 11750 = (f 11750) by omega), (show f137 11753 = (f 11753) by omega), (show f137 11755 = (f 11755) by omega)⟩
        · refine am_riload_n rfl rfl rfl ?_
          refine am_estaticI (m := am_m118) (As := [am_iv y1]) (S1 := []) rfl rfl rfl rfl rfl rfl rfl rfl (am_TE.int (am_ct119 (y1 := y1) (by omega) (by omega)) (fun b171 f171 a171 hq172 => ?_) (fun _ _ _ h => h))
          obtain ⟨rfl, rfl, hq172⟩ := hq172
          refine am_rif_ne rfl rfl (by unfold am_rg; omega) (fun hc173 => ?_) (fun hc173 => ?_)
          · have q174 := am_Rg11701 hI139.1.1
            have q175 := am_Rg11713 hI139.1.1
            have q176 := am_Rg11709 hI139.1.1
            have q177 := am_Rg11741 hI139.1.1
            have q178 := am_Rg11750 hI139.1.1
            have q179 := am_Rg11753 hI139.1.1
            have q180 := am_Rg11755 hI139.1.1
            exact am_eret rfl rfl ⟨hI139, hm142, (show f137 11713 = (f 11713) by omega), (show f137 11718 = (f 11718) by omega), (show f137 11709 = (f 11709) by omega), (show f137 11741 = (f 11741) by omega), (show f137 11750 = (f 11750) by omega), (show f137 11753 = (f 11753) by omega), (show f137 11755 = (f 11755) by omega)⟩
          · refine am_raload_n rfl rfl rfl ?_
            refine am_rdup rfl rfl ?_
            have q181 := am_Rg11704 hI139.1.1
            refine am_rgetf (S1 := [am_iv (f137 11704), .ref 117]) rfl rfl ?_
            refine am_riconst rfl ?_
            have q182 := am_or_rg (f137 11704) 4
            refine am_rior rfl ?_
            refine am_rputf (S1 := []) (h1 := am_enc (am_ud f137 11704 (am_or (f137 11704) 4)) a137 w e) rfl (am_pfB rfl am_ge117 rfl (am_sf11704 _)) (by rw [am_enc_len, am_enc_len]) ?_
            have q183 := am_Rg11701 hI139.1.1
            have J184 := am_Rf11704 (v := am_or (f137 11704) 4) hI139 (by omega) (by omega)
            have m185 : am_mn f a (am_ud f137 11704 (am_or (f137 11704) 4)) a137 := am_mn_f rfl rfl rfl hm142
            have q186 := am_Rg11713 hI139.1.1
            have q187 := am_Rg11709 hI139.1.1
            have q188 := am_Rg11741 hI139.1.1
            have q189 := am_Rg11750 hI139.1.1
            have q190 := am_Rg11753 hI139.1.1
            have q191 := am_Rg11755 hI139.1.1
            exact am_eret rfl rfl ⟨J184, m185, (show f137 11713 = (f 11713) by omega), (show f137 11718 = (f 11718) by omega), (show f137 11709 = (f 11709) by omega), (show f137 11741 = (f 11741) by omega), (show f137 11750 = (f 11750) by omega), (show f137 11753 = (f 11753) by omega), (show f137 11755 = (f 11755) by omega)⟩
set_option maxRecDepth 100000 in
set_option maxHeartbeats 4000000 in
theorem am_ct159_15 {X : List Value} {w : Value} {e : Nat} {g : aF} {h : aA} {E : Nat → aF → aA → Prop} {d : Nat} (hd : 2 ≤ d + 1) (n : Nat) :
    ∀ {f : aF} {a : aA} {x1 : Int} {x2 : Int}, (f 11755 - x2).toNat < n → am_RV g h f a → (-2147483648 ≤ x1 ∧ x1 ≤ 2147483647) → (-2147483648 ≤ x2 ∧ x2 ≤ 2147483647) → 0 ≤ x2 → (x1 = 0 ∨ x1 = 1) → am_TE X (d + 1) am_m158 15 [(0, .ref 117), (1, am_iv x1), (2, am_iv x2)] [] f a w e (am_QI (fun b f1 a1 => f = f1 ∧ a = a1 ∧ (b = 0 ∨ b = 1))) E := by
  induction n with
  | zero => intros; omega
  | succ n ih =>
    intro f a x1 x2 hn hI hp0 hp1 hp2 hp3
    have q1 := am_RV_ph hI
    have q2 := am_Rg11755 hI.1.1
    refine am_riload_n rfl rfl rfl ?_
    refine am_raload_n rfl rfl rfl ?_
    refine am_rgetf (S1 := [am_iv (f 11755), am_iv x2]) rfl rfl ?_
    refine am_ric_ge rfl rfl (by unfold am_rg; omega) (by unfold am_rg; omega) (fun hc3 => ?_) (fun hc3 => ?_)
    · refine am_riload_n rfl rfl rfl ?_
      have q4 := am_Rg11701 hI.1.1
      exact am_ebret rfl rfl (by omega) ⟨rfl, rfl, (show (x1 = 0 ∨ x1 = 1) by omega)⟩
    · refine am_riload_n rfl rfl rfl ?_
      refine am_rif_eq rfl rfl (by unfold am_rg; omega) (fun hc5 => ?_) (fun hc5 => ?_)
      · refine am_riconst rfl ?_
        refine am_ristore_n (L1 := [(0, .ref 117), (1, am_iv 0), (2, am_iv x2)]) rfl rfl rfl rfl rfl ?_
        refine am_riinc (L1 := [(0, .ref 117), (1, am_iv 0), (2, am_iv (x2 + 1))]) rfl rfl rfl rfl rfl ?_
        refine am_rgoto rfl rfl ?_
        have q6 := am_Rg11701 hI.1.1
        exact ih (by omega) hI (by omega) (by omega) (by omega) (by omega)
      · refine am_raload_n rfl rfl rfl ?_
        refine am_rgetf (S1 := [.ref 156]) rfl rfl ?_
        refine am_riload_n rfl rfl rfl ?_
        have q7 : (a 156).length = 2600 := am_Rl156 (am_RL 156 rfl hI.1.1)
        have i8 : am_ib (a 156) x2 := by unfold am_ib; omega
        have q9 := am_Rb156 (am_RL 156 rfl hI.1.1) i8
        refine am_riaload (l := a 156) rfl am_ge156 i8 ?_
        refine am_estaticI (m := am_m129) (As := [am_iv (am_at (a 156) x2)]) (S1 := []) rfl rfl rfl rfl rfl rfl rfl rfl (am_TE.int (am_ct130 (y1 := (am_at (a 156) x2)) (by omega) (by omega)) (fun b10 f10 a10 hq11 => ?_) (fun _ _ _ h => h))
        obtain ⟨rfl, rfl, hq11⟩ := hq11
        refine am_rif_eq rfl rfl (by unfold am_rg; omega) (fun hc12 => ?_) (fun hc12 => ?_)
        · refine am_riconst rfl ?_
          refine am_ristore_n (L1 := [(0, .ref 117), (1, am_iv 0), (2, am_iv x2)]) rfl rfl rfl rfl rfl ?_
          refine am_riinc (L1 := [(0, .ref 117), (1, am_iv 0), (2, am_iv (x2 + 1))]) rfl rfl rfl rfl rfl ?_
          refine am_rgoto rfl rfl ?_
          have q13 := am_Rg11701 hI.1.1
          exact ih (by omega) hI (by omega) (by omega) (by omega) (by omega)
        · refine am_riconst rfl ?_
          refine am_rgoto rfl rfl ?_
          refine am_ristore_n (L1 := [(0, .ref 117), (1, am_iv 1), (2, am_iv x2)]) rfl rfl rfl rfl rfl ?_
          refine am_riinc (L1 := [(0, .ref 117), (1, am_iv 1), (2, am_iv (x2 + 1))]) rfl rfl rfl rfl rfl ?_
          refine am_rgoto rfl rfl ?_
          have q14 := am_Rg11701 hI.1.1
          exact ih (by omega) hI (by omega) (by omega) (by omega) (by omega)
set_option maxRecDepth 100000 in
set_option maxHeartbeats 4000000 in
theorem am_ct159 {X : List Value} {w : Value} {e : Nat} {g : aF} {h : aA} {E : Nat → aF → aA → Prop} {d : Nat} {f : aF} {a : aA} (hd : 2 ≤ d) (hI : am_RV g h f a) :
    am_TE X d am_m158 0 (lv_args 0 [.ref 117]) [] f a w e (am_QI (fun b f1 a1 => f = f1 ∧ a = a1 ∧ (b = 0 ∨ b = 1))) E := by
  obtain ⟨d, rfl⟩ : ∃ d0, d = d0 + 1 := ⟨d - 1, by omega⟩
  have q1 := am_RV_ph hI
  refine am_raload_n rfl rfl rfl ?_
  have q2 := am_Rg11755 hI.1.1
  refine am_rgetf (S1 := [am_iv (f 11755)]) rfl rfl ?_
  refine am_rif_le rfl rfl (by unfold am_rg; omega) (fun hc3 => ?_) (fun hc3 => ?_)
  · refine am_riconst rfl ?_
    refine am_ristore_n (L1 := [(0, .ref 117), (1, am_iv 0)]) rfl rfl rfl rfl rfl ?_
    refine am_riconst rfl ?_
    refine am_ristore_n (L1 := [(0, .ref 117), (1, am_iv 0), (2, am_iv 0)]) rfl rfl rfl rfl rfl ?_
    have q4 := am_Rg11701 hI.1.1
    exact am_ct159_15 hd (_ + 1) (Nat.lt_succ_self _) hI (by omega) (by omega) (by omega) (by omega)
  · refine am_riconst rfl ?_
    refine am_rgoto rfl rfl ?_
    refine am_ristore_n (L1 := [(0, .ref 117), (1, am_iv 1)]) rfl rfl rfl rfl rfl ?_
    refine am_riconst rfl ?_
    refine am_ristore_n (L1 := [(0, .ref 117), (1, am_iv 1), (2, am_iv 0)]) rfl rfl rfl rfl rfl ?_
    have q5 := am_Rg11701 hI.1.1
    exact am_ct159_15 hd (_ + 1) (Nat.lt_succ_self _) hI (by omega) (by omega) (by omega) (by omega)
set_option maxRecDepth 100000 in
set_option maxHeartbeats 4000000 in
theorem am_ct160_17 {X : List Value} {w : Value} {e : Nat} {g : aF} {h : aA} {E : Nat → aF → aA → Prop} {d : Nat} (hd : 1 ≤ d + 1) (n : Nat) :
    ∀ {f : aF} {a : aA} {x1 : Int} {x2 : Int} {x3 : Int} {x4 : Int}, (x2 - x4).toNat < n → am_RV g h f a → (-2147483648 ≤ x1 ∧ x1 ≤ 2147483647) → (-2147483648 ≤ x2 ∧ x2 ≤ 2147483647) → (-2147483648 ≤ x3 ∧ x3 ≤ 2147483647) → (-2147483648 ≤ x4 ∧ x4 ≤ 2147483647) → 0 ≤ x4 → 0 ≤ x1 → x1 + x2 ≤ 3200 → (x3 = 0 ∨ x3 = 1) → (x3 = 1 → x2 ≤ f 11755) → am_TE X (d + 1) am_m159 17 [(0, .ref 117), (1, am_iv x1), (2, am_iv x2), (3, am_iv x3), (4, am_iv x4)] [] f a w e (am_QI (fun b f1 a1 => f = f1 ∧ a = a1 ∧ (b = 0 ∨ b = 1))) E := by
  induction n with
  | zero => intros; omega
  | succ n ih =>
    intro f a x1 x2 x3 x4 hn hI hp0 hp1 hp2 hp3 hp4 hp5 hp6 hp7 hp8
    have q1 := am_RV_ph hI
    have q2 := am_Rg11755 hI.1.1
    refine am_riload rfl rfl rfl ?_
    refine am_riload_n rfl rfl rfl ?_
    refine am_ric_ge rfl rfl (by unfold am_rg; omega) (by unfold am_rg; omega) (fun hc3 => ?_) (fun hc3 => ?_)
    · refine am_riload_n rfl rfl rfl ?_
      have q4 := am_Rg11701 hI.1.1
      exact am_ebret rfl rfl (by omega) ⟨rfl, rfl, (show (x3 = 0 ∨ x3 = 1) by omega)⟩
    · refine am_riload_n rfl rfl rfl ?_
      refine am_rif_eq rfl rfl (by unfold am_rg; omega) (fun hc5 => ?_) (fun hc5 => ?_)
      · refine am_riload_n rfl rfl rfl ?_
        have q6 := am_Rg11701 hI.1.1
        exact am_ebret rfl rfl (by omega) ⟨rfl, rfl, (show (x3 = 0 ∨ x3 = 1) by omega)⟩
      · refine am_raload_n rfl rfl rfl ?_
        refine am_rgetf (S1 := [.ref 155]) rfl rfl ?_
        refine am_riload_n rfl rfl rfl ?_
        refine am_riload rfl rfl rfl ?_
        refine am_riadd rfl ?_
        have q7 : (a 155).length = 3200 := am_Rl155 (am_RL 155 rfl hI.1.1)
        have i8 : am_ib (a 155) (x1 + x4) := by unfold am_ib; omega
        have q9 := am_Rb155 (am_RL 155 rfl hI.1.1) i8
        refine am_riaload (l := a 155) rfl am_ge155 i8 ?_
        refine am_raload_n rfl rfl rfl ?_
        refine am_rgetf (S1 := [.ref 156, am_iv (am_at (a 155) (x1 + x4))]) rfl rfl ?_
        refine am_riload rfl rfl rfl ?_
        have q10 : (a 156).length = 2600 := am_Rl156 (am_RL 156 rfl hI.1.1)
        have i11 : am_ib (a 156) x4 := by unfold am_ib; omega
        have q12 := am_Rb156 (am_RL 156 rfl hI.1.1) i11
        refine am_riaload (l := a 156) rfl am_ge156 i11 ?_
        refine am_ric_ne rfl rfl (by unfold am_rg; omega) (by unfold am_rg; omega) (fun hc13 => ?_) (fun hc13 => ?_)
        · refine am_riconst rfl ?_
          refine am_ristore_n (L1 := [(0, .ref 117), (1, am_iv x1), (2, am_iv x2), (3, am_iv 0), (4, am_iv x4)]) rfl rfl rfl rfl rfl ?_
          refine am_riinc (L1 := [(0, .ref 117), (1, am_iv x1), (2, am_iv x2), (3, am_iv 0), (4, am_iv (x4 + 1))]) rfl rfl rfl rfl rfl ?_
          refine am_rgoto rfl rfl ?_
          have q14 := am_Rg11701 hI.1.1
          exact ih (by omega) hI (by omega) (by omega) (by omega) (by omega) (by omega) (by omega) (by omega) (by omega) (by omega)
        · refine am_riconst rfl ?_
          refine am_rgoto rfl rfl ?_
          refine am_ristore_n (L1 := [(0, .ref 117), (1, am_iv x1), (2, am_iv x2), (3, am_iv 1), (4, am_iv x4)]) rfl rfl rfl rfl rfl ?_
          refine am_riinc (L1 := [(0, .ref 117), (1, am_iv x1), (2, am_iv x2), (3, am_iv 1), (4, am_iv (x4 + 1))]) rfl rfl rfl rfl rfl ?_
          refine am_rgoto rfl rfl ?_
          have q15 := am_Rg11701 hI.1.1
          exact ih (by omega) hI (by omega) (by omega) (by omega) (by omega) (by omega) (by omega) (by omega) (by omega) (by omega)
set_option maxRecDepth 100000 in
set_option maxHeartbeats 4000000 in
theorem am_ct160 {X : List Value} {w : Value} {e : Nat} {g : aF} {h : aA} {E : Nat → aF → aA → Prop} {d : Nat} {y1 : Int} {y2 : Int} {f : aF} {a : aA} (hd : 1 ≤ d) (hI : am_RV g h f a) (hp0 : (-2147483648 ≤ y1 ∧ y1 ≤ 2147483647)) (hp1 : (-2147483648 ≤ y2 ∧ y2 ≤ 2147483647)) (hp2 : 0 ≤ y1) (hp3 : 0 ≤ y2) (hp4 : y1 + y2 ≤ 3200) :
    am_TE X d am_m159 0 (lv_args 0 [.ref 117, am_iv y1, am_iv y2]) [] f a w e (am_QI (fun b f1 a1 => f = f1 ∧ a = a1 ∧ (b = 0 ∨ b = 1))) E := by
  obtain ⟨d, rfl⟩ : ∃ d0, d = d0 + 1 := ⟨d - 1, by omega⟩
  have q1 := am_RV_ph hI
  refine am_riload_n rfl rfl rfl ?_
  refine am_raload_n rfl rfl rfl ?_
  have q2 := am_Rg11755 hI.1.1
  refine am_rgetf (S1 := [am_iv (f 11755), am_iv y2]) rfl rfl ?_
  refine am_ric_ne rfl rfl (by unfold am_rg; omega) (by unfold am_rg; omega) (fun hc3 => ?_) (fun hc3 => ?_)
  · refine am_riconst rfl ?_
    refine am_ristore_n (L1 := [(0, .ref 117), (1, am_iv y1), (2, am_iv y2), (3, am_iv 0)]) rfl rfl rfl rfl rfl ?_
    refine am_riconst rfl ?_
    refine am_ristore (L1 := [(0, .ref 117), (1, am_iv y1), (2, am_iv y2), (3, am_iv 0), (4, am_iv 0)]) rfl rfl rfl rfl rfl ?_
    have q4 := am_Rg11701 hI.1.1
    exact am_ct160_17 hd (_ + 1) (Nat.lt_succ_self _) hI (by omega) (by omega) (by omega) (by omega) (by omega) (by omega) (by omega) (by omega) (by omega)
  · refine am_riconst rfl ?_
    refine am_rgoto rfl rfl ?_
    refine am_ristore_n (L1 := [(0, .ref 117), (1, am_iv y1), (2, am_iv y2), (3, am_iv 1)]) rfl rfl rfl rfl rfl ?_
    refine am_riconst rfl ?_
    refine am_ristore (L1 := [(0, .ref 117), (1, am_iv y1), (2, am_iv y2), (3, am_iv 1), (4, am_iv 0)]) rfl rfl rfl rfl rfl ?_
    have q5 := am_Rg11701 hI.1.1
    exact am_ct160_17 hd (_ + 1) (Nat.lt_succ_self _) hI (by omega) (by omega) (by omega) (by omega) (by omega) (by omega) (by omega) (by omega) (by omega)
set_option maxRecDepth 100000 in
set_option maxHeartbeats 4000000 in
theorem am_ct161_9 {X : List Value} {w : Value} {e : Nat} {g : aF} {h : aA} {E : Nat → aF → aA → Prop} {d : Nat} (hd : 2 ≤ d + 1) (n : Nat) :
    ∀ {f : aF} {a : aA} {x1 : Int} {x2 : Int} {x3 : Int}, (200 - x3).toNat < n → am_RV g h f a → (-2147483648 ≤ x1 ∧ x1 ≤ 2147483647) → (-2147483648 ≤ x2 ∧ x2 ≤ 2147483647) → (-2147483648 ≤ x3 ∧ x3 ≤ 2147483647) → 0 ≤ x3 → 0 ≤ x1 → x1 < 64 → (x2 = 0 ∨ x2 = 1) → am_TE X (d + 1) am_m160 9 [(0, .ref 117), (1, am_iv x1), (2, am_iv x2), (3, am_iv x3)] [] f a w e (am_QI (fun b f1 a1 => f = f1 ∧ a = a1 ∧ (b = 0 ∨ b = 1))) E := by
  induction n with
  | zero => intros; omega
  | succ n ih =>
    intro f a x1 x2 x3 hn hI hp0 hp1 hp2 hp3 hp4 hp5 hp6
    have q1 := am_RV_ph hI
    refine am_riload_n rfl rfl rfl ?_
    refine am_raload_n rfl rfl rfl ?_
    refine am_rgetf (S1 := [.ref 152, am_iv x3]) rfl rfl ?_
    refine am_riload_n rfl rfl rfl ?_
    have q2 : (a 152).length = 64 := am_Rl152 (am_RL 152 rfl hI.1.1)
    have i3 : am_ib (a 152) x1 := by unfold am_ib; omega
    have q4 := am_Rb152 (am_RL 152 rfl hI.1.1) i3
    refine am_riaload (l := a 152) rfl am_ge152 i3 ?_
    refine am_ric_ge rfl rfl (by unfold am_rg; omega) (by unfold am_rg; omega) (fun hc5 => ?_) (fun hc5 => ?_)
    · refine am_riload_n rfl rfl rfl ?_
      have q6 := am_Rg11701 hI.1.1
      exact am_ebret rfl rfl (by omega) ⟨rfl, rfl, (show (x2 = 0 ∨ x2 = 1) by omega)⟩
    · refine am_riload_n rfl rfl rfl ?_
      refine am_rif_ne rfl rfl (by unfold am_rg; omega) (fun hc7 => ?_) (fun hc7 => ?_)
      · refine am_riconst rfl ?_
        refine am_rgoto rfl rfl ?_
        refine am_ristore_n (L1 := [(0, .ref 117), (1, am_iv x1), (2, am_iv 1), (3, am_iv x3)]) rfl rfl rfl rfl rfl ?_
        refine am_riinc (L1 := [(0, .ref 117), (1, am_iv x1), (2, am_iv 1), (3, am_iv (x3 + 1))]) rfl rfl rfl rfl rfl ?_
        refine am_rgoto rfl rfl ?_
        have q8 := am_Rg11701 hI.1.1
        exact ih (by omega) hI (by omega) (by omega) (by omega) (by omega) (by omega) (by omega) (by omega)
      · refine am_raload_n rfl rfl rfl ?_
        refine am_raload_n rfl rfl rfl ?_
        refine am_rgetf (S1 := [.ref 153, .ref 117]) rfl rfl ?_
        refine am_riload_n rfl rfl rfl ?_
        have q9 : (a 153).length = 200 := am_Rl153 (am_RL 153 rfl hI.1.1)
        have i10 : am_ib (a 153) x3 := by unfold am_ib; omega
        have q11 := am_Rb153 (am_RL 153 rfl hI.1.1) i10
        refine am_riaload (l := a 153) rfl am_ge153 i10 ?_
        refine am_raload_n rfl rfl rfl ?_
        refine am_rgetf (S1 := [.ref 154, am_iv (am_at (a 153) x3), .ref 117]) rfl rfl ?_
        refine am_riload_n rfl rfl rfl ?_
        have q12 : (a 154).length = 200 := am_Rl154 (am_RL 154 rfl hI.1.1)
        have i13 : am_ib (a 154) x3 := by unfold am_ib; omega
        have q14 := am_Rb154 (am_RL 154 rfl hI.1.1) i13
        refine am_riaload (l := a 154) rfl am_ge154 i13 ?_
        refine am_evirtualI (m := am_m159) (As := [.ref 117, am_iv (am_at (a 153) x3), am_iv (am_at (a 154) x3)]) (S1 := []) rfl rfl rfl rfl rfl rfl rfl rfl rfl rfl (am_TE.int (am_ct160 (y1 := (am_at (a 153) x3)) (y2 := (am_at (a 154) x3)) (by omega) hI (by omega) (by omega) (show 0 ≤ (am_at (a 153) x3) by omega) (show 0 ≤ (am_at (a 154) x3) by omega) (show (am_at (a 153) x3) + (am_at (a 154) x3) ≤ 3200 by omega)) (fun b15 f15 a15 hq16 => ?_) (fun _ _ _ h => h))
        obtain ⟨rfl, rfl, hq16⟩ := hq16
        refine am_rif_eq rfl rfl (by unfold am_rg; omega) (fun hc17 => ?_) (fun hc17 => ?_)
        · refine am_riconst rfl ?_
          refine am_ristore_n (L1 := [(0, .ref 117), (1, am_iv x1), (2, am_iv 0), (3, am_iv x3)]) rfl rfl rfl rfl rfl ?_
          refine am_riinc (L1 := [(0, .ref 117), (1, am_iv x1), (2, am_iv 0), (3, am_iv (x3 + 1))]) rfl rfl rfl rfl rfl ?_
          refine am_rgoto rfl rfl ?_
          have q18 := am_Rg11701 hI.1.1
          exact ih (by omega) hI (by omega) (by omega) (by omega) (by omega) (by omega) (by omega) (by omega)
        · refine am_riconst rfl ?_
          refine am_rgoto rfl rfl ?_
          refine am_ristore_n (L1 := [(0, .ref 117), (1, am_iv x1), (2, am_iv 1), (3, am_iv x3)]) rfl rfl rfl rfl rfl ?_
          refine am_riinc (L1 := [(0, .ref 117), (1, am_iv x1), (2, am_iv 1), (3, am_iv (x3 + 1))]) rfl rfl rfl rfl rfl ?_
          refine am_rgoto rfl rfl ?_
          have q19 := am_Rg11701 hI.1.1
          exact ih (by omega) hI (by omega) (by omega) (by omega) (by omega) (by omega) (by omega) (by omega)
set_option maxRecDepth 100000 in
set_option maxHeartbeats 4000000 in
theorem am_ct161 {X : List Value} {w : Value} {e : Nat} {g : aF} {h : aA} {E : Nat → aF → aA → Prop} {d : Nat} {y1 : Int} {f : aF} {a : aA} (hd : 2 ≤ d) (hI : am_RV g h f a) (hp0 : (-2147483648 ≤ y1 ∧ y1 ≤ 2147483647)) (hp1 : 0 ≤ y1) (hp2 : y1 < 64) :
    am_TE X d am_m160 0 (lv_args 0 [.ref 117, am_iv y1]) [] f a w e (am_QI (fun b f1 a1 => f = f1 ∧ a = a1 ∧ (b = 0 ∨ b = 1))) E := by
  obtain ⟨d, rfl⟩ : ∃ d0, d = d0 + 1 := ⟨d - 1, by omega⟩
  have q1 := am_RV_ph hI
  refine am_riconst rfl ?_
  refine am_ristore_n (L1 := [(0, .ref 117), (1, am_iv y1), (2, am_iv 0)]) rfl rfl rfl rfl rfl ?_
  refine am_raload_n rfl rfl rfl ?_
  refine am_rgetf (S1 := [.ref 151]) rfl rfl ?_
  refine am_riload_n rfl rfl rfl ?_
  have q2 : (a 151).length = 64 := am_Rl151 (am_RL 151 rfl hI.1.1)
  have i3 : am_ib (a 151) y1 := by unfold am_ib; omega
  have q4 := am_Rb151 (am_RL 151 rfl hI.1.1) i3
  refine am_riaload (l := a 151) rfl am_ge151 i3 ?_
  refine am_ristore_n (L1 := [(0, .ref 117), (1, am_iv y1), (2, am_iv 0), (3, am_iv (am_at (a 151) y1))]) rfl rfl rfl rfl rfl ?_
  have q5 := am_Rg11701 hI.1.1
  exact am_ct161_9 hd (_ + 1) (Nat.lt_succ_self _) hI (by omega) (by omega) (by omega) (by omega) (by omega) (by omega) (by omega)
set_option maxRecDepth 100000 in
set_option maxHeartbeats 4000000 in
theorem am_ct162_209 {X : List Value} {w : Value} {e : Nat} {g : aF} {h : aA} {E : Nat → aF → aA → Prop} {d : Nat} {z11713 : Int} {z11718 : Int} {z11709 : Int} {z11741 : Int} {z11750 : Int} {z11753 : Int} {z11755 : Int} {fz : aF} {az : aA} {f : aF} {a : aA} {x1 : Int} (hd : 3 ≤ d + 1) (hI : am_RV g h f a) (hp0 : am_mn fz az f a) (hp1 : (-2147483648 ≤ x1 ∧ x1 ≤ 2147483647)) (hp2 : 0 ≤ x1) (hp3 : x1 < 64) (hp4 : 1 ≤ f 11757) (hp5 : f 11713 = z11713) (hp6 : f 11718 = z11718) (hp7 : f 11709 = z11709) (hp8 : f 11741 = z11741) (hp9 : f 11750 = z11750) (hp10 : f 11753 = z11753) (hp11 : f 11755 = z11755) :
    am_TE X (d + 1) am_m161 209 [(0, .ref 117), (1, am_iv x1)] [] f a w e (am_QV (fun f1 a1 => am_RV g h f1 a1 ∧ am_mn fz az f1 a1 ∧ f1 11713 = z11713 ∧ f1 11718 = z11718 ∧ f1 11709 = z11709 ∧ f1 11741 = z11741 ∧ f1 11750 = z11750 ∧ f1 11753 = z11753 ∧ f1 11755 = z11755)) E := by
  have q1 := am_RV_ph hI
  have q2 := am_RV_p0 hI
  have q3 := am_Rg11757 hI.1.1
  have q4 := am_Rg11713 hI.1.1
  have q5 := am_Rg11718 hI.1.1
  have q6 := am_Rg11709 hI.1.1
  have q7 := am_Rg11741 hI.1.1
  have q8 := am_Rg11750 hI.1.1
  have q9 := am_Rg11753 hI.1.1
  have q10 := am_Rg11755 hI.1.1
  refine am_raload_n rfl rfl rfl ?_
  refine am_rgetf (S1 := [.ref 161]) rfl rfl ?_
  refine am_raload_n rfl rfl rfl ?_
  refine am_rgetf (S1 := [am_iv (f 11757), .ref 161]) rfl rfl ?_
  refine am_riconst rfl ?_
  refine am_risub rfl ?_
  refine am_raload_n rfl rfl rfl ?_
  refine am_rgetf (S1 := [.ref 147, am_iv ((f 11757) - 1), .ref 161]) rfl rfl ?_
  refine am_riload_n rfl rfl rfl ?_
  have q11 : (a 147).length = 64 := am_Rl147 (am_RL 147 rfl hI.1.1)
  have i12 : am_ib (a 147) x1 := by unfold am_ib; omega
  have q13 := am_Rb147 (am_RL 147 rfl hI.1.1) i12
  refine am_riaload (l := a 147) rfl am_ge147 i12 ?_
  refine am_riconst rfl ?_
  refine am_ric_eq rfl rfl (by unfold am_rg; omega) (by unfold am_rg; omega) (fun hc14 => ?_) (fun hc14 => ?_)
  · refine am_raload_n rfl rfl rfl ?_
    refine am_rgetf (S1 := [.ref 147, am_iv ((f 11757) - 1), .ref 161]) rfl rfl ?_
    refine am_riload_n rfl rfl rfl ?_
    have i15 : am_ib (a 147) x1 := by unfold am_ib; omega
    refine am_riaload (l := a 147) rfl am_ge147 i15 ?_
    refine am_rgoto rfl rfl ?_
    have q16 : (a 161).length = 200 := am_Rl161 (am_RL 161 rfl hI.1.1)
    have i17 : am_ib (a 161) ((f 11757) - 1) := by unfold am_ib; omega
    have hl18 : am_LR 161 ((a 161).set ((f 11757) - 1).toNat (am_at (a 147) x1)) := am_RS161 (am_RL 161 rfl hI.1.1) (by omega) (by omega)
    refine am_riastore (l := a 161) (h1 := am_enc f (am_ud a 161 ((a 161).set ((f 11757) - 1).toNat (am_at (a 147) x1))) w e) rfl am_ge161 i17 (am_sa161 _) ?_
    have q19 := am_Rg11701 hI.1.1
    have J20 := am_Ra161 hI hl18
    have m21 : am_mn fz az f (am_ud a 161 ((a 161).set ((f 11757) - 1).toNat (am_at (a 147) x1))) := am_mn_a rfl rfl hp0
    exact am_eret rfl rfl ⟨J20, m21, (show f 11713 = z11713 by omega), (show f 11718 = z11718 by omega), (show f 11709 = z11709 by omega), (show f 11741 = z11741 by omega), (show f 11750 = z11750 by omega), (show f 11753 = z11753 by omega), (show f 11755 = z11755 by omega)⟩
  · refine am_raload_n rfl rfl rfl ?_
    refine am_rgetf (S1 := [.ref 147, am_iv ((f 11757) - 1), .ref 161]) rfl rfl ?_
    refine am_riload_n rfl rfl rfl ?_
    have i22 : am_ib (a 147) x1 := by unfold am_ib; omega
    refine am_riaload (l := a 147) rfl am_ge147 i22 ?_
    refine am_riconst rfl ?_
    refine am_ric_ne rfl rfl (by unfold am_rg; omega) (by unfold am_rg; omega) (fun hc23 => ?_) (fun hc23 => ?_)
    · refine am_riconst rfl ?_
      have q24 : (a 161).length = 200 := am_Rl161 (am_RL 161 rfl hI.1.1)
      have i25 : am_ib (a 161) ((f 11757) - 1) := by unfold am_ib; omega
      have hl26 : am_LR 161 ((a 161).set ((f 11757) - 1).toNat 0) := am_RS161 (am_RL 161 rfl hI.1.1) (by omega) (by omega)
      refine am_riastore (l := a 161) (h1 := am_enc f (am_ud a 161 ((a 161).set ((f 11757) - 1).toNat 0)) w e) rfl am_ge161 i25 (am_sa161 _) ?_
      have q27 := am_Rg11701 hI.1.1
      have J28 := am_Ra161 hI hl26
      have m29 : am_mn fz az f (am_ud a 161 ((a 161).set ((f 11757) - 1).toNat 0)) := am_mn_a rfl rfl hp0
      exact am_eret rfl rfl ⟨J28, m29, (show f 11713 = z11713 by omega), (show f 11718 = z11718 by omega), (show f 11709 = z11709 by omega), (show f 11741 = z11741 by omega), (show f 11750 = z11750 by omega), (show f 11753 = z11753 by omega), (show f 11755 = z11755 by omega)⟩
    · refine am_raload_n rfl rfl rfl ?_
      refine am_rgetf (S1 := [.ref 147, am_iv ((f 11757) - 1), .ref 161]) rfl rfl ?_
      refine am_riload_n rfl rfl rfl ?_
      have i30 : am_ib (a 147) x1 := by unfold am_ib; omega
      refine am_riaload (l := a 147) rfl am_ge147 i30 ?_
      refine am_rgoto rfl rfl ?_
      have q31 : (a 161).length = 200 := am_Rl161 (am_RL 161 rfl hI.1.1)
      have i32 : am_ib (a 161) ((f 11757) - 1) := by unfold am_ib; omega
      have hl33 : am_LR 161 ((a 161).set ((f 11757) - 1).toNat (am_at (a 147) x1)) := am_RS161 (am_RL 161 rfl hI.1.1) (by omega) (by omega)
      refine am_riastore (l := a 161) (h1 := am_enc f (am_ud a 161 ((a 161).set ((f 11757) - 1).toNat (am_at (a 147) x1))) w e) rfl am_ge161 i32 (am_sa161 _) ?_
      have q34 := am_Rg11701 hI.1.1
      have J35 := am_Ra161 hI hl33
      have m36 : am_mn fz az f (am_ud a 161 ((a 161).set ((f 11757) - 1).toNat (am_at (a 147) x1))) := am_mn_a rfl rfl hp0
      exact am_eret rfl rfl ⟨J35, m36, (show f 11713 = z11713 by omega), (show f 11718 = z11718 by omega), (show f 11709 = z11709 by omega), (show f 11741 = z11741 by omega), (show f 11750 = z11750 by omega), (show f 11753 = z11753 by omega), (show f 11755 = z11755 by omega)⟩
set_option maxRecDepth 100000 in
set_option maxHeartbeats 4000000 in
theorem am_ct162_176 {X : List Value} {w : Value} {e : Nat} {g : aF} {h : aA} {E : Nat → aF → aA → Prop} {d : Nat} {z11713 : Int} {z11718 : Int} {z11709 : Int} {z11741 : Int} {z11750 : Int} {z11753 : Int} {z11755 : Int} {fz : aF} {az : aA} {f : aF} {a : aA} {x1 : Int} {x3 : Int} (hd : 3 ≤ d + 1) (hI : am_RV g h f a) (hp0 : am_mn fz az f a) (hp1 : (-2147483648 ≤ x1 ∧ x1 ≤ 2147483647)) (hp2 : (-2147483648 ≤ x3 ∧ x3 ≤ 2147483647)) (hp3 : 0 ≤ x1) (hp4 : x1 < 64) (hp5 : 1 ≤ f 11757) (hp6 : (x3 = 0 ∨ x3 = 1)) (hp7 : f 11713 = z11713) (hp8 : f 11718 = z11718) (hp9 : f 11709 = z11709) (hp10 : f 11741 = z11741) (hp11 : f 11750 = z11750) (hp12 : f 11753 = z11753) (hp13 : f 11755 = z11755) :
    am_TE X (d + 1) am_m161 176 [(0, .ref 117), (1, am_iv x1), (3, am_iv x3)] [] f a w e (am_QV (fun f1 a1 => am_RV g h f1 a1 ∧ am_mn fz az f1 a1 ∧ f1 11713 = z11713 ∧ f1 11718 = z11718 ∧ f1 11709 = z11709 ∧ f1 11741 = z11741 ∧ f1 11750 = z11750 ∧ f1 11753 = z11753 ∧ f1 11755 = z11755)) E := by
  have q1 := am_RV_ph hI
  have q2 := am_RV_p0 hI
  have q3 := am_Rg11757 hI.1.1
  have q4 := am_Rg11713 hI.1.1
  have q5 := am_Rg11718 hI.1.1
  have q6 := am_Rg11709 hI.1.1
  have q7 := am_Rg11741 hI.1.1
  have q8 := am_Rg11750 hI.1.1
  have q9 := am_Rg11753 hI.1.1
  have q10 := am_Rg11755 hI.1.1
  refine am_raload_n rfl rfl rfl ?_
  refine am_rgetf (S1 := [.ref 147]) rfl rfl ?_
  refine am_riload_n rfl rfl rfl ?_
  have q11 : (a 147).length = 64 := am_Rl147 (am_RL 147 rfl hI.1.1)
  have i12 : am_ib (a 147) x1 := by unfold am_ib; omega
  have q13 := am_Rb147 (am_RL 147 rfl hI.1.1) i12
  refine am_riaload (l := a 147) rfl am_ge147 i12 ?_
  refine am_riconst rfl ?_
  refine am_ric_ne rfl rfl (by unfold am_rg; omega) (by unfold am_rg; omega) (fun hc14 => ?_) (fun hc14 => ?_)
  · have q15 := am_Rg11701 hI.1.1
    exact am_T.drop (L1 := [(0, .ref 117), (1, am_iv x1)]) (am_ct162_209 hd hI hp0 (by omega) (by omega) (by omega) (by omega) (by omega) (by omega) (by omega) (by omega) (by omega) (by omega) (by omega)) (by simp)
  · refine am_raload_n rfl rfl rfl ?_
    refine am_evirtualI (m := am_m158) (As := [.ref 117]) (S1 := []) rfl rfl rfl rfl rfl rfl rfl rfl rfl rfl (am_TE.int (am_ct159  (by omega) hI) (fun b16 f16 a16 hq17 => ?_) (fun _ _ _ h => h))
    obtain ⟨rfl, rfl, hq17⟩ := hq17
    refine am_rif_eq rfl rfl (by unfold am_rg; omega) (fun hc18 => ?_) (fun hc18 => ?_)
    · refine am_raload_n rfl rfl rfl ?_
      refine am_rdup rfl rfl ?_
      have q19 := am_Rg11704 hI.1.1
      refine am_rgetf (S1 := [am_iv (f 11704), .ref 117]) rfl rfl ?_
      refine am_rsipush rfl (by decide) ?_
      have q20 := am_or_rg (f 11704) 128
      refine am_rior rfl ?_
      refine am_rputf (S1 := []) (h1 := am_enc (am_ud f 11704 (am_or (f 11704) 128)) a w e) rfl (am_pfB rfl am_ge117 rfl (am_sf11704 _)) (by rw [am_enc_len, am_enc_len]) ?_
      have q21 := am_Rg11701 hI.1.1
      have J22 := am_Rf11704 (v := am_or (f 11704) 128) hI (by omega) (by omega)
      have m23 : am_mn fz az (am_ud f 11704 (am_or (f 11704) 128)) a := am_mn_f rfl rfl rfl hp0
      exact am_T.drop (L1 := [(0, .ref 117), (1, am_iv x1)]) (am_ct162_209 hd J22 m23 (show (-2147483648 ≤ x1 ∧ x1 ≤ 2147483647) by omega) (show 0 ≤ x1 by omega) (show x1 < 64 by omega) (show 1 ≤ (f 11757) by omega) (show (f 11713) = z11713 by omega) (show (f 11718) = z11718 by omega) (show (f 11709) = z11709 by omega) (show (f 11741) = z11741 by omega) (show (f 11750) = z11750 by omega) (show (f 11753) = z11753 by omega) (show (f 11755) = z11755 by omega)) (by simp)
    · refine am_riload_n rfl rfl rfl ?_
      refine am_rif_ne rfl rfl (by unfold am_rg; omega) (fun hc24 => ?_) (fun hc24 => ?_)
      · have q25 := am_Rg11701 hI.1.1
        exact am_T.drop (L1 := [(0, .ref 117), (1, am_iv x1)]) (am_ct162_209 hd hI hp0 (by omega) (by omega) (by omega) (by omega) (by omega) (by omega) (by omega) (by omega) (by omega) (by omega) (by omega)) (by simp)
      · refine am_raload_n rfl rfl rfl ?_
        refine am_rdup rfl rfl ?_
        have q26 := am_Rg11704 hI.1.1
        refine am_rgetf (S1 := [am_iv (f 11704), .ref 117]) rfl rfl ?_
        refine am_rsipush rfl (by decide) ?_
        have q27 := am_or_rg (f 11704) 128
        refine am_rior rfl ?_
        refine am_rputf (S1 := []) (h1 := am_enc (am_ud f 11704 (am_or (f 11704) 128)) a w e) rfl (am_pfB rfl am_ge117 rfl (am_sf11704 _)) (by rw [am_enc_len, am_enc_len]) ?_
        have q28 := am_Rg11701 hI.1.1
        have J29 := am_Rf11704 (v := am_or (f 11704) 128) hI (by omega) (by omega)
        have m30 : am_mn fz az (am_ud f 11704 (am_or (f 11704) 128)) a := am_mn_f rfl rfl rfl hp0
        exact am_T.drop (L1 := [(0, .ref 117), (1, am_iv x1)]) (am_ct162_209 hd J29 m30 (show (-2147483648 ≤ x1 ∧ x1 ≤ 2147483647) by omega) (show 0 ≤ x1 by omega) (show x1 < 64 by omega) (show 1 ≤ (f 11757) by omega) (show (f 11713) = z11713 by omega) (show (f 11718) = z11718 by omega) (show (f 11709) = z11709 by omega) (show (f 11741) = z11741 by omega) (show (f 11750) = z11750 by omega) (show (f 11753) = z11753 by omega) (show (f 11755) = z11755 by omega)) (by simp)
set_option maxRecDepth 100000 in
set_option maxHeartbeats 4000000 in
theorem am_ct162_130 {X : List Value} {w : Value} {e : Nat} {g : aF} {h : aA} {E : Nat → aF → aA → Prop} {d : Nat} {z11713 : Int} {z11718 : Int} {z11709 : Int} {z11741 : Int} {z11750 : Int} {z11753 : Int} {z11755 : Int} {fz : aF} {az : aA} {f : aF} {a : aA} {x1 : Int} {x3 : Int} (hd : 3 ≤ d + 1) (hI : am_RV g h f a) (hp0 : am_mn fz az f a) (hp1 : (-2147483648 ≤ x1 ∧ x1 ≤ 2147483647)) (hp2 : (-2147483648 ≤ x3 ∧ x3 ≤ 2147483647)) (hp3 : 0 ≤ x1) (hp4 : x1 < 64) (hp5 : 1 ≤ f 11757) (hp6 : (x3 = 0 ∨ x3 = 1)) (hp7 : f 11713 = z11713) (hp8 : f 11718 = z11718) (hp9 : f 11709 = z11709) (hp10 : f 11741 = z11741) (hp11 : f 11750 = z11750) (hp12 : f 11753 = z11753) (hp13 : f 11755 = z11755) :
    am_TE X (d + 1) am_m161 130 [(0, .ref 117), (1, am_iv x1), (3, am_iv x3)] [] f a w e (am_QV (fun f1 a1 => am_RV g h f1 a1 ∧ am_mn fz az f1 a1 ∧ f1 11713 = z11713 ∧ f1 11718 = z11718 ∧ f1 11709 = z11709 ∧ f1 11741 = z11741 ∧ f1 11750 = z11750 ∧ f1 11753 = z11753 ∧ f1 11755 = z11755)) E := by
  have q1 := am_RV_ph hI
  have q2 := am_RV_p0 hI
  have q3 := am_Rg11757 hI.1.1
  have q4 := am_Rg11713 hI.1.1
  have q5 := am_Rg11718 hI.1.1
  have q6 := am_Rg11709 hI.1.1
  have q7 := am_Rg11741 hI.1.1
  have q8 := am_Rg11750 hI.1.1
  have q9 := am_Rg11753 hI.1.1
  have q10 := am_Rg11755 hI.1.1
  refine am_raload_n rfl rfl rfl ?_
  refine am_rgetf (S1 := [.ref 147]) rfl rfl ?_
  refine am_riload_n rfl rfl rfl ?_
  have q11 : (a 147).length = 64 := am_Rl147 (am_RL 147 rfl hI.1.1)
  have i12 : am_ib (a 147) x1 := by unfold am_ib; omega
  have q13 := am_Rb147 (am_RL 147 rfl hI.1.1) i12
  refine am_riaload (l := a 147) rfl am_ge147 i12 ?_
  refine am_riconst rfl ?_
  refine am_ric_ne rfl rfl (by unfold am_rg; omega) (by unfold am_rg; omega) (fun hc14 => ?_) (fun hc14 => ?_)
  · refine am_raload_n rfl rfl rfl ?_
    refine am_rgetf (S1 := [.ref 147]) rfl rfl ?_
    refine am_riload_n rfl rfl rfl ?_
    have i15 : am_ib (a 147) x1 := by unfold am_ib; omega
    refine am_riaload (l := a 147) rfl am_ge147 i15 ?_
    refine am_riconst rfl ?_
    refine am_ric_ne rfl rfl (by unfold am_rg; omega) (by unfold am_rg; omega) (fun hc16 => ?_) (fun hc16 => ?_)
    · have q17 := am_Rg11701 hI.1.1
      exact am_ct162_176 hd hI hp0 (by omega) (by omega) (by omega) (by omega) (by omega) (by omega) (by omega) (by omega) (by omega) (by omega) (by omega) (by omega) (by omega)
    · refine am_raload_n rfl rfl rfl ?_
      refine am_evirtualI (m := am_m158) (As := [.ref 117]) (S1 := []) rfl rfl rfl rfl rfl rfl rfl rfl rfl rfl (am_TE.int (am_ct159  (by omega) hI) (fun b18 f18 a18 hq19 => ?_) (fun _ _ _ h => h))
      obtain ⟨rfl, rfl, hq19⟩ := hq19
      refine am_rif_ne rfl rfl (by unfold am_rg; omega) (fun hc20 => ?_) (fun hc20 => ?_)
      · have q21 := am_Rg11701 hI.1.1
        exact am_ct162_176 hd hI hp0 (by omega) (by omega) (by omega) (by omega) (by omega) (by omega) (by omega) (by omega) (by omega) (by omega) (by omega) (by omega) (by omega)
      · refine am_raload_n rfl rfl rfl ?_
        refine am_rdup rfl rfl ?_
        have q22 := am_Rg11704 hI.1.1
        refine am_rgetf (S1 := [am_iv (f 11704), .ref 117]) rfl rfl ?_
        refine am_rbipush rfl (by decide) ?_
        have q23 := am_or_rg (f 11704) 64
        refine am_rior rfl ?_
        refine am_rputf (S1 := []) (h1 := am_enc (am_ud f 11704 (am_or (f 11704) 64)) a w e) rfl (am_pfB rfl am_ge117 rfl (am_sf11704 _)) (by rw [am_enc_len, am_enc_len]) ?_
        have q24 := am_Rg11701 hI.1.1
        have J25 := am_Rf11704 (v := am_or (f 11704) 64) hI (by omega) (by omega)
        have m26 : am_mn fz az (am_ud f 11704 (am_or (f 11704) 64)) a := am_mn_f rfl rfl rfl hp0
        exact am_ct162_176 hd J25 m26 (show (-2147483648 ≤ x1 ∧ x1 ≤ 2147483647) by omega) (show (-2147483648 ≤ x3 ∧ x3 ≤ 2147483647) by omega) (show 0 ≤ x1 by omega) (show x1 < 64 by omega) (show 1 ≤ (f 11757) by omega) (show (x3 = 0 ∨ x3 = 1) by omega) (show (f 11713) = z11713 by omega) (show (f 11718) = z11718 by omega) (show (f 11709) = z11709 by omega) (show (f 11741) = z11741 by omega) (show (f 11750) = z11750 by omega) (show (f 11753) = z11753 by omega) (show (f 11755) = z11755 by omega)
  · refine am_raload_n rfl rfl rfl ?_
    refine am_riload_n rfl rfl rfl ?_
    refine am_evirtualI (m := am_m160) (As := [.ref 117, am_iv x1]) (S1 := []) rfl rfl rfl rfl rfl rfl rfl rfl rfl rfl (am_TE.int (am_ct161 (y1 := x1) (by omega) hI (by omega) (show 0 ≤ x1 by omega) (show x1 < 64 by omega)) (fun b27 f27 a27 hq28 => ?_) (fun _ _ _ h => h))
    obtain ⟨rfl, rfl, hq28⟩ := hq28
    refine am_rif_eq rfl rfl (by unfold am_rg; omega) (fun hc29 => ?_) (fun hc29 => ?_)
    · refine am_raload_n rfl rfl rfl ?_
      refine am_rdup rfl rfl ?_
      have q30 := am_Rg11704 hI.1.1
      refine am_rgetf (S1 := [am_iv (f 11704), .ref 117]) rfl rfl ?_
      refine am_rbipush rfl (by decide) ?_
      have q31 := am_or_rg (f 11704) 64
      refine am_rior rfl ?_
      refine am_rputf (S1 := []) (h1 := am_enc (am_ud f 11704 (am_or (f 11704) 64)) a w e) rfl (am_pfB rfl am_ge117 rfl (am_sf11704 _)) (by rw [am_enc_len, am_enc_len]) ?_
      have q32 := am_Rg11701 hI.1.1
      have J33 := am_Rf11704 (v := am_or (f 11704) 64) hI (by omega) (by omega)
      have m34 : am_mn fz az (am_ud f 11704 (am_or (f 11704) 64)) a := am_mn_f rfl rfl rfl hp0
      exact am_ct162_176 hd J33 m34 (show (-2147483648 ≤ x1 ∧ x1 ≤ 2147483647) by omega) (show (-2147483648 ≤ x3 ∧ x3 ≤ 2147483647) by omega) (show 0 ≤ x1 by omega) (show x1 < 64 by omega) (show 1 ≤ (f 11757) by omega) (show (x3 = 0 ∨ x3 = 1) by omega) (show (f 11713) = z11713 by omega) (show (f 11718) = z11718 by omega) (show (f 11709) = z11709 by omega) (show (f 11741) = z11741 by omega) (show (f 11750) = z11750 by omega) (show (f 11753) = z11753 by omega) (show (f 11755) = z11755 by omega)
    · refine am_raload_n rfl rfl rfl ?_
      refine am_rgetf (S1 := [.ref 147]) rfl rfl ?_
      refine am_riload_n rfl rfl rfl ?_
      have i35 : am_ib (a 147) x1 := by unfold am_ib; omega
      refine am_riaload (l := a 147) rfl am_ge147 i35 ?_
      refine am_riconst rfl ?_
      refine am_ric_ne rfl rfl (by unfold am_rg; omega) (by unfold am_rg; omega) (fun hc36 => ?_) (fun hc36 => ?_)
      · have q37 := am_Rg11701 hI.1.1
        exact am_ct162_176 hd hI hp0 (by omega) (by omega) (by omega) (by omega) (by omega) (by omega) (by omega) (by omega) (by omega) (by omega) (by omega) (by omega) (by omega)
      · refine am_raload_n rfl rfl rfl ?_
        refine am_evirtualI (m := am_m158) (As := [.ref 117]) (S1 := []) rfl rfl rfl rfl rfl rfl rfl rfl rfl rfl (am_TE.int (am_ct159  (by omega) hI) (fun b38 f38 a38 hq39 => ?_) (fun _ _ _ h => h))
        obtain ⟨rfl, rfl, hq39⟩ := hq39
        refine am_rif_ne rfl rfl (by unfold am_rg; omega) (fun hc40 => ?_) (fun hc40 => ?_)
        · have q41 := am_Rg11701 hI.1.1
          exact am_ct162_176 hd hI hp0 (by omega) (by omega) (by omega) (by omega) (by omega) (by omega) (by omega) (by omega) (by omega) (by omega) (by omega) (by omega) (by omega)
        · refine am_raload_n rfl rfl rfl ?_
          refine am_rdup rfl rfl ?_
          have q42 := am_Rg11704 hI.1.1
          refine am_rgetf (S1 := [am_iv (f 11704), .ref 117]) rfl rfl ?_
          refine am_rbipush rfl (by decide) ?_
          have q43 := am_or_rg (f 11704) 64
          refine am_rior rfl ?_
          refine am_rputf (S1 := []) (h1 := am_enc (am_ud f 11704 (am_or (f 11704) 64)) a w e) rfl (am_pfB rfl am_ge117 rfl (am_sf11704 _)) (by rw [am_enc_len, am_enc_len]) ?_
          have q44 := am_Rg11701 hI.1.1
          have J45 := am_Rf11704 (v := am_or (f 11704) 64) hI (by omega) (by omega)
          have m46 : am_mn fz az (am_ud f 11704 (am_or (f 11704) 64)) a := am_mn_f rfl rfl rfl hp0
          exact am_ct162_176 hd J45 m46 (show (-2147483648 ≤ x1 ∧ x1 ≤ 2147483647) by omega) (show (-2147483648 ≤ x3 ∧ x3 ≤ 2147483647) by omega) (show 0 ≤ x1 by omega) (show x1 < 64 by omega) (show 1 ≤ (f 11757) by omega) (show (x3 = 0 ∨ x3 = 1) by omega) (show (f 11713) = z11713 by omega) (show (f 11718) = z11718 by omega) (show (f 11709) = z11709 by omega) (show (f 11741) = z11741 by omega) (show (f 11750) = z11750 by omega) (show (f 11753) = z11753 by omega) (show (f 11755) = z11755 by omega)
set_option maxRecDepth 100000 in
set_option maxHeartbeats 4000000 in
theorem am_ct162_106 {X : List Value} {w : Value} {e : Nat} {g : aF} {h : aA} {E : Nat → aF → aA → Prop} {d : Nat} {z11713 : Int} {z11718 : Int} {z11709 : Int} {z11741 : Int} {z11750 : Int} {z11753 : Int} {z11755 : Int} {fz : aF} {az : aA} {f : aF} {a : aA} {x1 : Int} (hd : 3 ≤ d + 1) (hI : am_RV g h f a) (hp0 : am_mn fz az f a) (hp1 : (-2147483648 ≤ x1 ∧ x1 ≤ 2147483647)) (hp2 : 0 ≤ x1) (hp3 : x1 < 64) (hp4 : 1 ≤ f 11757) (hp5 : f 11713 = z11713) (hp6 : f 11718 = z11718) (hp7 : f 11709 = z11709) (hp8 : f 11741 = z11741) (hp9 : f 11750 = z11750) (hp10 : f 11753 = z11753) (hp11 : f 11755 = z11755) :
    am_TE X (d + 1) am_m161 106 [(0, .ref 117), (1, am_iv x1)] [] f a w e (am_QV (fun f1 a1 => am_RV g h f1 a1 ∧ am_mn fz az f1 a1 ∧ f1 11713 = z11713 ∧ f1 11718 = z11718 ∧ f1 11709 = z11709 ∧ f1 11741 = z11741 ∧ f1 11750 = z11750 ∧ f1 11753 = z11753 ∧ f1 11755 = z11755)) E := by
  have q1 := am_RV_ph hI
  have q2 := am_RV_p0 hI
  have q3 := am_Rg11757 hI.1.1
  have q4 := am_Rg11713 hI.1.1
  have q5 := am_Rg11718 hI.1.1
  have q6 := am_Rg11709 hI.1.1
  have q7 := am_Rg11741 hI.1.1
  have q8 := am_Rg11750 hI.1.1
  have q9 := am_Rg11753 hI.1.1
  have q10 := am_Rg11755 hI.1.1
  refine am_raload_n rfl rfl rfl ?_
  refine am_rgetf (S1 := [am_iv (f 11755)]) rfl rfl ?_
  refine am_rif_le rfl rfl (by unfold am_rg; omega) (fun hc11 => ?_) (fun hc11 => ?_)
  · refine am_riconst rfl ?_
    refine am_ristore_n (L1 := [(0, .ref 117), (1, am_iv x1), (3, am_iv 0)]) rfl rfl rfl rfl rfl ?_
    have q12 := am_Rg11701 hI.1.1
    exact am_ct162_130 hd hI hp0 (by omega) (by omega) (by omega) (by omega) (by omega) (by omega) (by omega) (by omega) (by omega) (by omega) (by omega) (by omega) (by omega)
  · refine am_raload_n rfl rfl rfl ?_
    refine am_rgetf (S1 := [.ref 156]) rfl rfl ?_
    refine am_riconst rfl ?_
    have q13 : (a 156).length = 2600 := am_Rl156 (am_RL 156 rfl hI.1.1)
    have i14 : am_ib (a 156) 0 := by unfold am_ib; omega
    have q15 := am_Rb156 (am_RL 156 rfl hI.1.1) i14
    refine am_riaload (l := a 156) rfl am_ge156 i14 ?_
    refine am_rbipush rfl (by decide) ?_
    refine am_ric_lt rfl rfl (by unfold am_rg; omega) (by unfold am_rg; omega) (fun hc16 => ?_) (fun hc16 => ?_)
    · refine am_riconst rfl ?_
      refine am_ristore_n (L1 := [(0, .ref 117), (1, am_iv x1), (3, am_iv 0)]) rfl rfl rfl rfl rfl ?_
      have q17 := am_Rg11701 hI.1.1
      exact am_ct162_130 hd hI hp0 (by omega) (by omega) (by omega) (by omega) (by omega) (by omega) (by omega) (by omega) (by omega) (by omega) (by omega) (by omega) (by omega)
    · refine am_riconst rfl ?_
      refine am_rgoto rfl rfl ?_
      refine am_ristore_n (L1 := [(0, .ref 117), (1, am_iv x1), (3, am_iv 1)]) rfl rfl rfl rfl rfl ?_
      have q18 := am_Rg11701 hI.1.1
      exact am_ct162_130 hd hI hp0 (by omega) (by omega) (by omega) (by omega) (by omega) (by omega) (by omega) (by omega) (by omega) (by omega) (by omega) (by omega) (by omega)
set_option maxRecDepth 100000 in
set_option maxHeartbeats 4000000 in
theorem am_ct162_42 {X : List Value} {w : Value} {e : Nat} {g : aF} {h : aA} {E : Nat → aF → aA → Prop} {d : Nat} {z11713 : Int} {z11718 : Int} {z11709 : Int} {z11741 : Int} {z11750 : Int} {z11753 : Int} {z11755 : Int} {fz : aF} {az : aA} {f : aF} {a : aA} {x1 : Int} (hd : 3 ≤ d + 1) (hI : am_RV g h f a) (hp0 : am_mn fz az f a) (hp1 : (-2147483648 ≤ x1 ∧ x1 ≤ 2147483647)) (hp2 : x1 < 64) (hp3 : 1 ≤ f 11757 + f 11701) (hp4 : f 11713 = z11713) (hp5 : f 11718 = z11718) (hp6 : f 11709 = z11709) (hp7 : f 11741 = z11741) (hp8 : f 11750 = z11750) (hp9 : f 11753 = z11753) (hp10 : f 11755 = z11755) :
    am_TE X (d + 1) am_m161 42 [(0, .ref 117), (1, am_iv x1)] [] f a w e (am_QV (fun f1 a1 => am_RV g h f1 a1 ∧ am_mn fz az f1 a1 ∧ f1 11713 = z11713 ∧ f1 11718 = z11718 ∧ f1 11709 = z11709 ∧ f1 11741 = z11741 ∧ f1 11750 = z11750 ∧ f1 11753 = z11753 ∧ f1 11755 = z11755)) E := by
  have q1 := am_RV_ph hI
  have q2 := am_RV_p0 hI
  have q3 := am_Rg11701 hI.1.1
  have q4 := am_Rg11757 hI.1.1
  have q5 := am_Rg11713 hI.1.1
  have q6 := am_Rg11718 hI.1.1
  have q7 := am_Rg11709 hI.1.1
  have q8 := am_Rg11741 hI.1.1
  have q9 := am_Rg11750 hI.1.1
  have q10 := am_Rg11753 hI.1.1
  have q11 := am_Rg11755 hI.1.1
  refine am_raload_n rfl rfl rfl ?_
  refine am_rgetf (S1 := [am_iv (f 11701)]) rfl rfl ?_
  refine am_rif_eq rfl rfl (by unfold am_rg; omega) (fun hc12 => ?_) (fun hc12 => ?_)
  · refine am_riload_n rfl rfl rfl ?_
    refine am_rif_ge rfl rfl (by unfold am_rg; omega) (fun hc13 => ?_) (fun hc13 => ?_)
    · refine am_raload_n rfl rfl rfl ?_
      refine am_rgetf (S1 := [.ref 148]) rfl rfl ?_
      refine am_riload_n rfl rfl rfl ?_
      have q14 : (a 148).length = 64 := am_Rl148 (am_RL 148 rfl hI.1.1)
      have i15 : am_ib (a 148) x1 := by unfold am_ib; omega
      have q16 := am_Rb148 (am_RL 148 rfl hI.1.1) i15
      refine am_riaload (l := a 148) rfl am_ge148 i15 ?_
      refine am_riconst rfl ?_
      refine am_ric_ne rfl rfl (by unfold am_rg; omega) (by unfold am_rg; omega) (fun hc17 => ?_) (fun hc17 => ?_)
      · exact am_ct162_106 hd hI hp0 (by omega) (by omega) (by omega) (by omega) (by omega) (by omega) (by omega) (by omega) (by omega) (by omega) (by omega)
      · refine am_raload_n rfl rfl rfl ?_
        refine am_raload_n rfl rfl rfl ?_
        refine am_rgetf (S1 := [.ref 149, .ref 117]) rfl rfl ?_
        refine am_riload_n rfl rfl rfl ?_
        have q18 : (a 149).length = 64 := am_Rl149 (am_RL 149 rfl hI.1.1)
        have i19 : am_ib (a 149) x1 := by unfold am_ib; omega
        have q20 := am_Rb149 (am_RL 149 rfl hI.1.1) i19
        refine am_riaload (l := a 149) rfl am_ge149 i19 ?_
        refine am_raload_n rfl rfl rfl ?_
        refine am_rgetf (S1 := [.ref 150, am_iv (am_at (a 149) x1), .ref 117]) rfl rfl ?_
        refine am_riload_n rfl rfl rfl ?_
        have q21 : (a 150).length = 64 := am_Rl150 (am_RL 150 rfl hI.1.1)
        have i22 : am_ib (a 150) x1 := by unfold am_ib; omega
        have q23 := am_Rb150 (am_RL 150 rfl hI.1.1) i22
        have r4 := hI.1.2.1 x1 (by omega) (by omega)
        refine am_riaload (l := a 150) rfl am_ge150 i22 ?_
        refine am_evirtualI (m := am_m159) (As := [.ref 117, am_iv (am_at (a 149) x1), am_iv (am_at (a 150) x1)]) (S1 := []) rfl rfl rfl rfl rfl rfl rfl rfl rfl rfl (am_TE.int (am_ct160 (y1 := (am_at (a 149) x1)) (y2 := (am_at (a 150) x1)) (by omega) hI (by omega) (by omega) (show 0 ≤ (am_at (a 149) x1) by omega) (show 0 ≤ (am_at (a 150) x1) by omega) (show (am_at (a 149) x1) + (am_at (a 150) x1) ≤ 3200 by omega)) (fun b24 f24 a24 hq25 => ?_) (fun _ _ _ h => h))
        obtain ⟨rfl, rfl, hq25⟩ := hq25
        refine am_rif_ne rfl rfl (by unfold am_rg; omega) (fun hc26 => ?_) (fun hc26 => ?_)
        · exact am_ct162_106 hd hI hp0 (by omega) (by omega) (by omega) (by omega) (by omega) (by omega) (by omega) (by omega) (by omega) (by omega) (by omega)
        · refine am_raload_n rfl rfl rfl ?_
          refine am_rdup rfl rfl ?_
          have q27 := am_Rg11704 hI.1.1
          refine am_rgetf (S1 := [am_iv (f 11704), .ref 117]) rfl rfl ?_
          refine am_rbipush rfl (by decide) ?_
          have q28 := am_or_rg (f 11704) 32
          refine am_rior rfl ?_
          refine am_rputf (S1 := []) (h1 := am_enc (am_ud f 11704 (am_or (f 11704) 32)) a w e) rfl (am_pfB rfl am_ge117 rfl (am_sf11704 _)) (by rw [am_enc_len, am_enc_len]) ?_
          have J29 := am_Rf11704 (v := am_or (f 11704) 32) hI (by omega) (by omega)
          have m30 : am_mn fz az (am_ud f 11704 (am_or (f 11704) 32)) a := am_mn_f rfl rfl rfl hp0
          exact am_ct162_106 hd J29 m30 (show (-2147483648 ≤ x1 ∧ x1 ≤ 2147483647) by omega) (show 0 ≤ x1 by omega) (show x1 < 64 by omega) (show 1 ≤ (f 11757) by omega) (show (f 11713) = z11713 by omega) (show (f 11718) = z11718 by omega) (show (f 11709) = z11709 by omega) (show (f 11741) = z11741 by omega) (show (f 11750) = z11750 by omega) (show (f 11753) = z11753 by omega) (show (f 11755) = z11755 by omega)
    · refine am_raload_n rfl rfl rfl ?_
      refine am_rdup rfl rfl ?_
      have q31 := am_Rg11704 hI.1.1
      refine am_rgetf (S1 := [am_iv (f 11704), .ref 117]) rfl rfl ?_
      refine am_rbipush rfl (by decide) ?_
      have q32 := am_or_rg (f 11704) 8
      refine am_rior rfl ?_
      refine am_rputf (S1 := []) (h1 := am_enc (am_ud f 11704 (am_or (f 11704) 8)) a w e) rfl (am_pfB rfl am_ge117 rfl (am_sf11704 _)) (by rw [am_enc_len, am_enc_len]) ?_
      have J33 := am_Rf11704 (v := am_or (f 11704) 8) hI (by omega) (by omega)
      have m34 : am_mn fz az (am_ud f 11704 (am_or (f 11704) 8)) a := am_mn_f rfl rfl rfl hp0
      exact am_eret rfl rfl ⟨J33, m34, (show f 11713 = z11713 by omega), (show f 11718 = z11718 by omega), (show f 11709 = z11709 by omega), (show f 11741 = z11741 by omega), (show f 11750 = z11750 by omega), (show f 11753 = z11753 by omega), (show f 11755 = z11755 by omega)⟩
  · exact am_eret rfl rfl ⟨hI, hp0, (show f 11713 = z11713 by omega), (show f 11718 = z11718 by omega), (show f 11709 = z11709 by omega), (show f 11741 = z11741 by omega), (show f 11750 = z11750 by omega), (show f 11753 = z11753 by omega), (show f 11755 = z11755 by omega)⟩
set_option maxRecDepth 100000 in
set_option maxHeartbeats 4000000 in
theorem am_ct162_11 {X : List Value} {w : Value} {e : Nat} {g : aF} {h : aA} {E : Nat → aF → aA → Prop} {d : Nat} {z11713 : Int} {z11718 : Int} {z11709 : Int} {z11741 : Int} {z11750 : Int} {z11753 : Int} {z11755 : Int} {fz : aF} {az : aA} (hd : 3 ≤ d + 1) (n : Nat) :
    ∀ {f : aF} {a : aA} {x1 : Int} {x3 : Int}, (f 11755 - x3).toNat < n → am_RV g h f a → am_mn fz az f a → (-2147483648 ≤ x1 ∧ x1 ≤ 2147483647) → (-2147483648 ≤ x3 ∧ x3 ≤ 2147483647) → 0 ≤ x3 → x1 < 64 → 1 ≤ f 11757 + f 11701 → f 11713 = z11713 → f 11718 = z11718 → f 11709 = z11709 → f 11741 = z11741 → f 11750 = z11750 → f 11753 = z11753 → f 11755 = z11755 → am_TE X (d + 1) am_m161 11 [(0, .ref 117), (1, am_iv x1), (3, am_iv x3)] [] f a w e (am_QV (fun f1 a1 => am_RV g h f1 a1 ∧ am_mn fz az f1 a1 ∧ f1 11713 = z11713 ∧ f1 11718 = z11718 ∧ f1 11709 = z11709 ∧ f1 11741 = z11741 ∧ f1 11750 = z11750 ∧ f1 11753 = z11753 ∧ f1 11755 = z11755)) E := by
  induction n with
  | zero => intros; omega
  | succ n ih =>
    intro f a x1 x3 hn hI hp0 hp1 hp2 hp3 hp4 hp5 hp6 hp7 hp8 hp9 hp10 hp11 hp12
    have q1 := am_RV_ph hI
    have q2 := am_RV_p0 hI
    have q3 := am_Rg11701 hI.1.1
    have q4 := am_Rg11757 hI.1.1
    have q5 := am_Rg11713 hI.1.1
    have q6 := am_Rg11718 hI.1.1
    have q7 := am_Rg11709 hI.1.1
    have q8 := am_Rg11741 hI.1.1
    have q9 := am_Rg11750 hI.1.1
    have q10 := am_Rg11753 hI.1.1
    have q11 := am_Rg11755 hI.1.1
    refine am_riload_n rfl rfl rfl ?_
    refine am_raload_n rfl rfl rfl ?_
    refine am_rgetf (S1 := [am_iv (f 11755), am_iv x3]) rfl rfl ?_
    refine am_ric_ge rfl rfl (by unfold am_rg; omega) (by unfold am_rg; omega) (fun hc12 => ?_) (fun hc12 => ?_)
    · exact am_T.drop (L1 := [(0, .ref 117), (1, am_iv x1)]) (am_ct162_42 hd hI hp0 (by omega) (by omega) (by omega) (by omega) (by omega) (by omega) (by omega) (by omega) (by omega) (by omega)) (by simp)
    · refine am_raload_n rfl rfl rfl ?_
      refine am_rgetf (S1 := [am_iv (f 11701)]) rfl rfl ?_
      refine am_rif_ne rfl rfl (by unfold am_rg; omega) (fun hc13 => ?_) (fun hc13 => ?_)
      · exact am_T.drop (L1 := [(0, .ref 117), (1, am_iv x1)]) (am_ct162_42 hd hI hp0 (by omega) (by omega) (by omega) (by omega) (by omega) (by omega) (by omega) (by omega) (by omega) (by omega)) (by simp)
      · refine am_raload_n rfl rfl rfl ?_
        refine am_raload_n rfl rfl rfl ?_
        refine am_rgetf (S1 := [.ref 156, .ref 117]) rfl rfl ?_
        refine am_riload_n rfl rfl rfl ?_
        have q14 : (a 156).length = 2600 := am_Rl156 (am_RL 156 rfl hI.1.1)
        have i15 : am_ib (a 156) x3 := by unfold am_ib; omega
        have q16 := am_Rb156 (am_RL 156 rfl hI.1.1) i15
        refine am_riaload (l := a 156) rfl am_ge156 i15 ?_
        refine am_evirtualV (m := am_m156) (As := [.ref 117, am_iv (am_at (a 156) x3)]) (S1 := []) rfl rfl rfl rfl rfl rfl rfl rfl rfl rfl (am_TE.void (am_ct157 (y1 := (am_at (a 156) x3)) (by omega) hI (by omega) (show 1 ≤ (f 11757) + (f 11701) by omega)) (fun f17 a17 hq18 => ?_) (fun _ _ _ h => h))
        obtain ⟨hI19, hk20, hq18⟩ := hq18
        replace hq18 : f17 11713 = ((f 11713)) ∧ f17 11718 = ((f 11718)) ∧ f17 11709 = ((f 11709)) ∧ f17 11741 = ((f 11741)) ∧ f17 11750 = ((f 11750)) ∧ f17 11753 = ((f 11753)) ∧ f17 11755 = ((f 11755)) ∧ f17 11757 = ((f 11757)) := hq18
        have mm21 : f 11701 ≤ f17 11701 ∧ am_ph f a ≤ am_ph f17 a17 ∧ am_at (a 124) 0 ≤ am_at (a17 124) 0 ∧ am_at (a17 125) 0 = am_at (a 125) 0 := hk20
        have hm22 := am_mn.trans hp0 hk20
        refine am_riinc (L1 := [(0, .ref 117), (1, am_iv x1), (3, am_iv (x3 + 1))]) rfl rfl rfl rfl rfl ?_
        refine am_rgoto rfl rfl ?_
        have q23 := am_Rg11701 hI19.1.1
        have q24 := am_Rg11757 hI19.1.1
        have q25 := am_Rg11713 hI19.1.1
        have q26 := am_Rg11718 hI19.1.1
        have q27 := am_Rg11709 hI19.1.1
        have q28 := am_Rg11741 hI19.1.1
        have q29 := am_Rg11750 hI19.1.1
        have q30 := am_Rg11753 hI19.1.1
        have q31 := am_Rg11755 hI19.1.1
        exact ih (by omega) hI19 hm22 (by omega) (by omega) (by omega) (by omega) (by omega) (by omega) (by omega) (by omega) (by omega) (by omega) (by omega) (by omega)
set_option maxRecDepth 100000 in
set_option maxHeartbeats 4000000 in
theorem am_ct162 {X : List Value} {w : Value} {e : Nat} {g : aF} {h : aA} {E : Nat → aF → aA → Prop} {d : Nat} {y1 : Int} {y2 : Int} {f : aF} {a : aA} (hd : 3 ≤ d) (hI : am_RV g h f a) (hp0 : (-2147483648 ≤ y1 ∧ y1 ≤ 2147483647)) (hp1 : (-2147483648 ≤ y2 ∧ y2 ≤ 2147483647)) (hp2 : y1 < 64) (hp3 : 0 ≤ y2) (hp4 : y2 ≤ 25) :
    am_TE X d am_m161 0 (lv_args 0 [.ref 117, am_iv y1, am_iv y2]) [] f a w e (am_QV (fun f1 a1 => am_RV g h f1 a1 ∧ am_mn f a f1 a1 ∧ f1 11713 = (f 11713) ∧ f1 11718 = (f 11718) ∧ f1 11709 = (f 11709) ∧ f1 11741 = (f 11741) ∧ f1 11750 = (f 11750) ∧ f1 11753 = (f 11753) ∧ f1 11755 = (f 11755))) E := by
  obtain ⟨d, rfl⟩ : ∃ d0, d = d0 + 1 := ⟨d - 1, by omega⟩
  have q1 := am_RV_ph hI
  have q2 := am_RV_p0 hI
  refine am_raload_n rfl rfl rfl ?_
  refine am_riconst rfl ?_
  refine am_rbipush rfl (by decide) ?_
  refine am_riload_n rfl rfl rfl ?_
  refine am_riadd rfl ?_
  refine am_evirtualV (m := am_m155) (As := [.ref 117, am_iv 2, am_iv (97 + y2)]) (S1 := []) rfl rfl rfl rfl rfl rfl rfl rfl rfl rfl (am_TE.void (am_ct156 (y1 := 2) (y2 := (97 + y2)) (by omega) hI (by omega) (by omega)) (fun f3 a3 hq4 => ?_) (fun _ _ _ h => h))
  obtain ⟨hI5, hk6, hq4⟩ := hq4
  replace hq4 : f3 11713 = ((f 11713)) ∧ f3 11718 = ((f 11718)) ∧ f3 11709 = ((f 11709)) ∧ f3 11741 = ((f 11741)) ∧ f3 11750 = ((f 11750)) ∧ f3 11753 = ((f 11753)) ∧ f3 11755 = ((f 11755)) ∧ 1 ≤ f3 11757 + f3 11701 := hq4
  have mm7 : f 11701 ≤ f3 11701 ∧ am_ph f a ≤ am_ph f3 a3 ∧ am_at (a 124) 0 ≤ am_at (a3 124) 0 ∧ am_at (a3 125) 0 = am_at (a 125) 0 := hk6
  have hm8 := am_mn.trans (am_mn.refl f a) hk6
  refine am_riconst rfl ?_
  refine am_ristore_n (L1 := [(0, .ref 117), (1, am_iv y1), (2, am_iv y2), (3, am_iv 0)]) rfl rfl rfl rfl rfl ?_
  have q9 := am_Rg11701 hI5.1.1
  have q10 := am_Rg11757 hI5.1.1
  have q11 := am_Rg11713 hI5.1.1
  have q12 := am_Rg11718 hI5.1.1
  have q13 := am_Rg11709 hI5.1.1
  have q14 := am_Rg11741 hI5.1.1
  have q15 := am_Rg11750 hI5.1.1
  have q16 := am_Rg11753 hI5.1.1
  have q17 := am_Rg11755 hI5.1.1
  exact am_T.drop (L1 := [(0, .ref 117), (1, am_iv y1), (3, am_iv 0)]) (am_ct162_11 hd (_ + 1) (Nat.lt_succ_self _) hI5 hm8 (by omega) (by omega) (by omega) (by omega) (by omega) (by omega) (by omega) (by omega) (by omega) (by omega) (by omega) (by omega)) (by simp)
set_option maxRecDepth 100000 in
set_option maxHeartbeats 4000000 in
theorem am_ct163_191 {X : List Value} {w : Value} {e : Nat} {g : aF} {h : aA} {E : Nat → aF → aA → Prop} {d : Nat} {z11713 : Int} {z11709 : Int} {z11718 : Int} {z11741 : Int} {z11750 : Int} {z11753 : Int} {z11757 : Int} {z11763 : Int} {z11755 : Int} {fz : aF} {az : aA} {f : aF} {a : aA} {x2 : Int} {x3 : Int} {x4 : Int} {x5 : Int} (hd : 1 ≤ d + 1) (hI : am_RV g h f a) (hp0 : am_mn fz az f a) (hp1 : (-2147483648 ≤ x2 ∧ x2 ≤ 2147483647)) (hp2 : (-2147483648 ≤ x3 ∧ x3 ≤ 2147483647)) (hp3 : (-2147483648 ≤ x4 ∧ x4 ≤ 2147483647)) (hp4 : (-2147483648 ≤ x5 ∧ x5 ≤ 2147483647)) (hp5 : 0 ≤ x2) (hp6 : x2 < 20) (hp7 : 0 ≤ x3) (hp8 : x3 ≤ 25) (hp9 : f 11713 = z11713) (hp10 : f 11709 = z11709) (hp11 : f 11718 = z11718) (hp12 : f 11741 = z11741) (hp13 : f 11750 = z11750) (hp14 : f 11753 = z11753) (hp15 : f 11757 = z11757) (hp16 : f 11763 = z11763) (hp17 : f 11755 = z11755) :
    am_TE X (d + 1) am_m162 191 [(0, .ref 117), (2, am_iv x2), (3, am_iv x3), (4, am_iv x4), (5, am_iv x5)] [] f a w e (am_QV (fun f1 a1 => am_RV g h f1 a1 ∧ am_mn fz az f1 a1 ∧ f1 11713 = z11713 ∧ f1 11709 = z11709 ∧ f1 11718 = z11718 ∧ f1 11741 = z11741 ∧ f1 11750 = z11750 ∧ f1 11753 = z11753 ∧ f1 11757 = z11757 ∧ f1 11763 = z11763 ∧ f1 11755 = z11755)) E := by
  have q1 := am_RV_ph hI
  have q2 := am_RV_p0 hI
  have q3 := am_Rg11713 hI.1.1
  have q4 := am_Rg11709 hI.1.1
  have q5 := am_Rg11718 hI.1.1
  have q6 := am_Rg11741 hI.1.1
  have q7 := am_Rg11750 hI.1.1
  have q8 := am_Rg11753 hI.1.1
  have q9 := am_Rg11757 hI.1.1
  have q10 := am_Rg11763 hI.1.1
  have q11 := am_Rg11755 hI.1.1
  refine am_raload_n rfl rfl rfl ?_
  refine am_rgetf (S1 := [.ref 130]) rfl rfl ?_
  refine am_riload_n rfl rfl rfl ?_
  refine am_riload rfl rfl rfl ?_
  have q12 : (a 130).length = 20 := am_Rl130 (am_RL 130 rfl hI.1.1)
  have i13 : am_ib (a 130) x2 := by unfold am_ib; omega
  have hl14 : am_LR 130 ((a 130).set x2.toNat x5) := am_RS130 (am_RL 130 rfl hI.1.1) (by omega) (by omega)
  refine am_riastore (l := a 130) (h1 := am_enc f (am_ud a 130 ((a 130).set x2.toNat x5)) w e) rfl am_ge130 i13 (am_sa130 _) ?_
  refine am_raload_n rfl rfl rfl ?_
  refine am_rgetf (S1 := [.ref 131]) rfl rfl ?_
  refine am_riload_n rfl rfl rfl ?_
  refine am_riload rfl rfl rfl ?_
  refine am_raload_n rfl rfl rfl ?_
  refine am_rgetf (S1 := [.ref 138, am_iv x4, am_iv x2, .ref 131]) rfl rfl ?_
  refine am_riload_n rfl rfl rfl ?_
  have q15 : (a 138).length = 27 := am_Rl138 (am_RL 138 rfl hI.1.1)
  have i16 : am_ib (a 138) x3 := by unfold am_ib; omega
  have q17 := am_Rb138 (am_RL 138 rfl hI.1.1) i16
  refine am_riaload (l := a 138) rfl am_ge138 i16 ?_
  have q18 := am_and_rg x4 (am_at (a 138) x3)
  refine am_riand rfl ?_
  refine am_rif_eq rfl rfl (by unfold am_rg; omega) (fun hc19 => ?_) (fun hc19 => ?_)
  · refine am_riconst rfl ?_
    have q20 : (a 131).length = 20 := am_Rl131 (am_RL 131 rfl hI.1.1)
    have i21 : am_ib (a 131) x2 := by unfold am_ib; omega
    have hl22 : am_LR 131 ((a 131).set x2.toNat 0) := am_RS131 (am_RL 131 rfl hI.1.1) (by omega) (by omega)
    refine am_rbastore (l := a 131) (h1 := am_enc f (am_ud (am_ud a 130 ((a 130).set x2.toNat x5)) 131 ((a 131).set x2.toNat 0)) w e) rfl am_ge131 i21 (by omega) (am_sa131 _) ?_
    have q23 := am_Rg11701 hI.1.1
    have J24 := am_Ra130 hI hl14
    have J25 := am_Ra131 J24 hl22
    have m26 : am_mn fz az f (am_ud a 130 ((a 130).set x2.toNat x5)) := am_mn_a rfl rfl hp0
    have m27 : am_mn fz az f (am_ud (am_ud a 130 ((a 130).set x2.toNat x5)) 131 ((a 131).set x2.toNat 0)) := am_mn_a rfl rfl m26
    exact am_eret rfl rfl ⟨J25, m27, (show f 11713 = z11713 by omega), (show f 11709 = z11709 by omega), (show f 11718 = z11718 by omega), (show f 11741 = z11741 by omega), (show f 11750 = z11750 by omega), (show f 11753 = z11753 by omega), (show f 11757 = z11757 by omega), (show f 11763 = z11763 by omega), (show f 11755 = z11755 by omega)⟩
  · refine am_riconst rfl ?_
    refine am_rgoto rfl rfl ?_
    have q28 : (a 131).length = 20 := am_Rl131 (am_RL 131 rfl hI.1.1)
    have i29 : am_ib (a 131) x2 := by unfold am_ib; omega
    have hl30 : am_LR 131 ((a 131).set x2.toNat 1) := am_RS131 (am_RL 131 rfl hI.1.1) (by omega) (by omega)
    refine am_rbastore (l := a 131) (h1 := am_enc f (am_ud (am_ud a 130 ((a 130).set x2.toNat x5)) 131 ((a 131).set x2.toNat 1)) w e) rfl am_ge131 i29 (by omega) (am_sa131 _) ?_
    have q31 := am_Rg11701 hI.1.1
    have J32 := am_Ra130 hI hl14
    have J33 := am_Ra131 J32 hl30
    have m34 : am_mn fz az f (am_ud a 130 ((a 130).set x2.toNat x5)) := am_mn_a rfl rfl hp0
    have m35 : am_mn fz az f (am_ud (am_ud a 130 ((a 130).set x2.toNat x5)) 131 ((a 131).set x2.toNat 1)) := am_mn_a rfl rfl m34
    exact am_eret rfl rfl ⟨J33, m35, (show f 11713 = z11713 by omega), (show f 11709 = z11709 by omega), (show f 11718 = z11718 by omega), (show f 11741 = z11741 by omega), (show f 11750 = z11750 by omega), (show f 11753 = z11753 by omega), (show f 11757 = z11757 by omega), (show f 11763 = z11763 by omega), (show f 11755 = z11755 by omega)⟩
set_option maxRecDepth 100000 in
set_option maxHeartbeats 4000000 in
theorem am_ct163_77 {X : List Value} {w : Value} {e : Nat} {g : aF} {h : aA} {E : Nat → aF → aA → Prop} {d : Nat} {z11713 : Int} {z11709 : Int} {z11718 : Int} {z11741 : Int} {z11750 : Int} {z11753 : Int} {z11757 : Int} {z11763 : Int} {z11755 : Int} {fz : aF} {az : aA} (hd : 1 ≤ d + 1) (n : Nat) :
    ∀ {f : aF} {a : aA} {x1 : Int} {x2 : Int} {x3 : Int} {x4 : Int} {x5 : Int} {x6 : Int}, (30 - x6).toNat < n → am_RV g h f a → am_mn fz az f a → (-2147483648 ≤ x1 ∧ x1 ≤ 2147483647) → (-2147483648 ≤ x2 ∧ x2 ≤ 2147483647) → (-2147483648 ≤ x3 ∧ x3 ≤ 2147483647) → (-2147483648 ≤ x4 ∧ x4 ≤ 2147483647) → (-2147483648 ≤ x5 ∧ x5 ≤ 2147483647) → (-2147483648 ≤ x6 ∧ x6 ≤ 2147483647) → 0 ≤ x6 → 0 ≤ x2 → x2 < 20 → 0 ≤ x3 → x3 ≤ 25 → f 11713 = z11713 → f 11709 = z11709 → f 11718 = z11718 → f 11741 = z11741 → f 11750 = z11750 → f 11753 = z11753 → f 11757 = z11757 → f 11763 = z11763 → f 11755 = z11755 → am_TE X (d + 1) am_m162 77 [(0, .ref 117), (1, am_iv x1), (2, am_iv x2), (3, am_iv x3), (4, am_iv x4), (5, am_iv x5), (6, am_iv x6)] [] f a w e (am_QV (fun f1 a1 => am_RV g h f1 a1 ∧ am_mn fz az f1 a1 ∧ f1 11713 = z11713 ∧ f1 11709 = z11709 ∧ f1 11718 = z11718 ∧ f1 11741 = z11741 ∧ f1 11750 = z11750 ∧ f1 11753 = z11753 ∧ f1 11757 = z11757 ∧ f1 11763 = z11763 ∧ f1 11755 = z11755)) E := by
  induction n with
  | zero => intros; omega
  | succ n ih =>
    intro f a x1 x2 x3 x4 x5 x6 hn hI hp0 hp1 hp2 hp3 hp4 hp5 hp6 hp7 hp8 hp9 hp10 hp11 hp12 hp13 hp14 hp15 hp16 hp17 hp18 hp19 hp20
    have q1 := am_RV_ph hI
    have q2 := am_RV_p0 hI
    have q3 := am_Rg11713 hI.1.1
    have q4 := am_Rg11709 hI.1.1
    have q5 := am_Rg11718 hI.1.1
    have q6 := am_Rg11741 hI.1.1
    have q7 := am_Rg11750 hI.1.1
    have q8 := am_Rg11753 hI.1.1
    have q9 := am_Rg11757 hI.1.1
    have q10 := am_Rg11763 hI.1.1
    have q11 := am_Rg11755 hI.1.1
    refine am_riload rfl rfl rfl ?_
    refine am_raload_n rfl rfl rfl ?_
    refine am_rgetf (S1 := [.ref 136, am_iv x6]) rfl rfl ?_
    refine am_riload_n rfl rfl rfl ?_
    have q12 : (a 136).length = 27 := am_Rl136 (am_RL 136 rfl hI.1.1)
    have i13 : am_ib (a 136) x3 := by unfold am_ib; omega
    have q14 := am_Rb136 (am_RL 136 rfl hI.1.1) i13
    refine am_riaload (l := a 136) rfl am_ge136 i13 ?_
    refine am_ric_ge rfl rfl (by unfold am_rg; omega) (by unfold am_rg; omega) (fun hc15 => ?_) (fun hc15 => ?_)
    · refine am_riload rfl rfl rfl ?_
      refine am_rif_ne rfl rfl (by unfold am_rg; omega) (fun hc16 => ?_) (fun hc16 => ?_)
      · have q17 := am_Rg11701 hI.1.1
        exact am_T.drop (L1 := [(0, .ref 117), (2, am_iv x2), (3, am_iv x3), (4, am_iv x4), (5, am_iv x5)]) (am_ct163_191 hd hI hp0 (by omega) (by omega) (by omega) (by omega) (by omega) (by omega) (by omega) (by omega) (by omega) (by omega) (by omega) (by omega) (by omega) (by omega) (by omega) (by omega) (by omega)) (by simp)
      · refine am_raload_n rfl rfl rfl ?_
        refine am_rdup rfl rfl ?_
        have q18 := am_Rg11704 hI.1.1
        refine am_rgetf (S1 := [am_iv (f 11704), .ref 117]) rfl rfl ?_
        refine am_riconst rfl ?_
        have q19 := am_or_rg (f 11704) 4
        refine am_rior rfl ?_
        refine am_rputf (S1 := []) (h1 := am_enc (am_ud f 11704 (am_or (f 11704) 4)) a w e) rfl (am_pfB rfl am_ge117 rfl (am_sf11704 _)) (by rw [am_enc_len, am_enc_len]) ?_
        have q20 := am_Rg11701 hI.1.1
        have J21 := am_Rf11704 (v := am_or (f 11704) 4) hI (by omega) (by omega)
        have m22 : am_mn fz az (am_ud f 11704 (am_or (f 11704) 4)) a := am_mn_f rfl rfl rfl hp0
        exact am_T.drop (L1 := [(0, .ref 117), (2, am_iv x2), (3, am_iv x3), (4, am_iv x4), (5, am_iv x5)]) (am_ct163_191 hd J21 m22 (show (-2147483648 ≤ x2 ∧ x2 ≤ 2147483647) by omega) (show (-2147483648 ≤ x3 ∧ x3 ≤ 2147483647) by omega) (show (-2147483648 ≤ x4 ∧ x4 ≤ 2147483647) by omega) (show (-2147483648 ≤ x5 ∧ x5 ≤ 2147483647) by omega) (show 0 ≤ x2 by omega) (show x2 < 20 by omega) (show 0 ≤ x3 by omega) (show x3 ≤ 25 by omega) (show (f 11713) = z11713 by omega) (show (f 11709) = z11709 by omega) (show (f 11718) = z11718 by omega) (show (f 11741) = z11741 by omega) (show (f 11750) = z11750 by omega) (show (f 11753) = z11753 by omega) (show (f 11757) = z11757 by omega) (show (f 11763) = z11763 by omega) (show (f 11755) = z11755 by omega)) (by simp)
    · refine am_raload_n rfl rfl rfl ?_
      refine am_rgetf (S1 := [.ref 130]) rfl rfl ?_
      refine am_riload_n rfl rfl rfl ?_
      have q23 : (a 130).length = 20 := am_Rl130 (am_RL 130 rfl hI.1.1)
      have i24 : am_ib (a 130) x2 := by unfold am_ib; omega
      have q25 := am_Rb130 (am_RL 130 rfl hI.1.1) i24
      refine am_riaload (l := a 130) rfl am_ge130 i24 ?_
      refine am_riload rfl rfl rfl ?_
      have q26 := am_shr_rg (am_at (a 130) x2) x6
      refine am_rishr rfl ?_
      refine am_riconst rfl ?_
      have q27 := am_and_rg (am_shr (am_at (a 130) x2) x6) 1
      refine am_riand rfl ?_
      refine am_riconst rfl ?_
      refine am_ric_ne rfl rfl (by unfold am_rg; omega) (by unfold am_rg; omega) (fun hc28 => ?_) (fun hc28 => ?_)
      · refine am_riconst rfl ?_
        refine am_ristore (L1 := [(0, .ref 117), (1, am_iv x1), (2, am_iv x2), (3, am_iv x3), (4, am_iv x4), (5, am_iv x5), (6, am_iv x6), (7, am_iv 0)]) rfl rfl rfl rfl rfl ?_
        refine am_riload rfl rfl rfl ?_
        refine am_riload rfl rfl rfl ?_
        refine am_rif_eq rfl rfl (by unfold am_rg; omega) (fun hc29 => ?_) (fun hc29 => ?_)
        rotate_left
        · exfalso; omega
        refine am_riconst rfl ?_
        have q30 := am_or_rg x4 0
        refine am_rior rfl ?_
        refine am_ristore (L1 := [(0, .ref 117), (1, am_iv x1), (2, am_iv x2), (3, am_iv x3), (4, am_iv (am_or x4 0)), (5, am_iv x5), (6, am_iv x6), (7, am_iv 0)]) rfl rfl rfl rfl rfl ?_
        refine am_riload rfl rfl rfl ?_
        refine am_riload rfl rfl rfl ?_
        refine am_rif_eq rfl rfl (by unfold am_rg; omega) (fun hc31 => ?_) (fun hc31 => ?_)
        rotate_left
        · exfalso; omega
        refine am_riconst rfl ?_
        have q32 := am_or_rg x5 0
        refine am_rior rfl ?_
        refine am_ristore (L1 := [(0, .ref 117), (1, am_iv x1), (2, am_iv x2), (3, am_iv x3), (4, am_iv (am_or x4 0)), (5, am_iv (am_or x5 0)), (6, am_iv x6), (7, am_iv 0)]) rfl rfl rfl rfl rfl ?_
        refine am_riinc (L1 := [(0, .ref 117), (1, am_iv x1), (2, am_iv x2), (3, am_iv x3), (4, am_iv (am_or x4 0)), (5, am_iv (am_or x5 0)), (6, am_iv (x6 + 1)), (7, am_iv 0)]) rfl rfl rfl rfl rfl ?_
        refine am_rgoto rfl rfl ?_
        have q33 := am_Rg11701 hI.1.1
        exact am_T.drop (L1 := [(0, .ref 117), (1, am_iv x1), (2, am_iv x2), (3, am_iv x3), (4, am_iv (am_or x4 0)), (5, am_iv (am_or x5 0)), (6, am_iv (x6 + 1))]) (ih (by omega) hI hp0 (by omega) (by omega) (by omega) (by omega) (by omega) (by omega) (by omega) (by omega) (by omega) (by omega) (by omega) (by omega) (by omega) (by omega) (by omega) (by omega) (by omega) (by omega) (by omega) (by omega)) (by simp)
      · refine am_raload_n rfl rfl rfl ?_
        refine am_rgetf (S1 := [.ref 134]) rfl rfl ?_
        refine am_rbipush rfl (by decide) ?_
        refine am_riload_n rfl rfl rfl ?_
        refine am_rimul rfl ?_
        refine am_riload rfl rfl rfl ?_
        refine am_riadd rfl ?_
        have q34 : (a 134).length = 810 := am_Rl134 (am_RL 134 rfl hI.1.1)
        have i35 : am_ib (a 134) ((30 * x3) + x6) := by unfold am_ib; omega
        have q36 := am_Rb134 (am_RL 134 rfl hI.1.1) i35
        refine am_riaload (l := a 134) rfl am_ge134 i35 ?_
        refine am_riload_n rfl rfl rfl ?_
        refine am_ric_ne rfl rfl (by unfold am_rg; omega) (by unfold am_rg; omega) (fun hc37 => ?_) (fun hc37 => ?_)
        · refine am_riconst rfl ?_
          refine am_ristore (L1 := [(0, .ref 117), (1, am_iv x1), (2, am_iv x2), (3, am_iv x3), (4, am_iv x4), (5, am_iv x5), (6, am_iv x6), (7, am_iv 0)]) rfl rfl rfl rfl rfl ?_
          refine am_riload rfl rfl rfl ?_
          refine am_riload rfl rfl rfl ?_
          refine am_rif_eq rfl rfl (by unfold am_rg; omega) (fun hc38 => ?_) (fun hc38 => ?_)
          rotate_left
          · exfalso; omega
          refine am_riconst rfl ?_
          have q39 := am_or_rg x4 0
          refine am_rior rfl ?_
          refine am_ristore (L1 := [(0, .ref 117), (1, am_iv x1), (2, am_iv x2), (3, am_iv x3), (4, am_iv (am_or x4 0)), (5, am_iv x5), (6, am_iv x6), (7, am_iv 0)]) rfl rfl rfl rfl rfl ?_
          refine am_riload rfl rfl rfl ?_
          refine am_riload rfl rfl rfl ?_
          refine am_rif_eq rfl rfl (by unfold am_rg; omega) (fun hc40 => ?_) (fun hc40 => ?_)
          rotate_left
          · exfalso; omega
          refine am_riconst rfl ?_
          have q41 := am_or_rg x5 0
          refine am_rior rfl ?_
          refine am_ristore (L1 := [(0, .ref 117), (1, am_iv x1), (2, am_iv x2), (3, am_iv x3), (4, am_iv (am_or x4 0)), (5, am_iv (am_or x5 0)), (6, am_iv x6), (7, am_iv 0)]) rfl rfl rfl rfl rfl ?_
          refine am_riinc (L1 := [(0, .ref 117), (1, am_iv x1), (2, am_iv x2), (3, am_iv x3), (4, am_iv (am_or x4 0)), (5, am_iv (am_or x5 0)), (6, am_iv (x6 + 1)), (7, am_iv 0)]) rfl rfl rfl rfl rfl ?_
          refine am_rgoto rfl rfl ?_
          have q42 := am_Rg11701 hI.1.1
          exact am_T.drop (L1 := [(0, .ref 117), (1, am_iv x1), (2, am_iv x2), (3, am_iv x3), (4, am_iv (am_or x4 0)), (5, am_iv (am_or x5 0)), (6, am_iv (x6 + 1))]) (ih (by omega) hI hp0 (by omega) (by omega) (by omega) (by omega) (by omega) (by omega) (by omega) (by omega) (by omega) (by omega) (by omega) (by omega) (by omega) (by omega) (by omega) (by omega) (by omega) (by omega) (by omega) (by omega)) (by simp)
        · refine am_riconst rfl ?_
          refine am_rgoto rfl rfl ?_
          refine am_ristore (L1 := [(0, .ref 117), (1, am_iv x1), (2, am_iv x2), (3, am_iv x3), (4, am_iv x4), (5, am_iv x5), (6, am_iv x6), (7, am_iv 1)]) rfl rfl rfl rfl rfl ?_
          refine am_riload rfl rfl rfl ?_
          refine am_riload rfl rfl rfl ?_
          refine am_rif_eq rfl rfl (by unfold am_rg; omega) (fun hc43 => ?_) (fun hc43 => ?_)
          · exfalso; omega
          refine am_riconst rfl ?_
          refine am_riload rfl rfl rfl ?_
          have q44 := am_shl_rg 1 x6
          refine am_rishl rfl ?_
          refine am_rgoto rfl rfl ?_
          have q45 := am_or_rg x4 (am_shl 1 x6)
          refine am_rior rfl ?_
          refine am_ristore (L1 := [(0, .ref 117), (1, am_iv x1), (2, am_iv x2), (3, am_iv x3), (4, am_iv (am_or x4 (am_shl 1 x6))), (5, am_iv x5), (6, am_iv x6), (7, am_iv 1)]) rfl rfl rfl rfl rfl ?_
          refine am_riload rfl rfl rfl ?_
          refine am_riload rfl rfl rfl ?_
          refine am_rif_eq rfl rfl (by unfold am_rg; omega) (fun hc46 => ?_) (fun hc46 => ?_)
          · exfalso; omega
          refine am_raload_n rfl rfl rfl ?_
          refine am_rgetf (S1 := [.ref 135, am_iv x5]) rfl rfl ?_
          refine am_rbipush rfl (by decide) ?_
          refine am_riload_n rfl rfl rfl ?_
          refine am_rimul rfl ?_
          refine am_riload rfl rfl rfl ?_
          refine am_riadd rfl ?_
          have q47 : (a 135).length = 810 := am_Rl135 (am_RL 135 rfl hI.1.1)
          have i48 : am_ib (a 135) ((30 * x3) + x6) := by unfold am_ib; omega
          have q49 := am_Rb135 (am_RL 135 rfl hI.1.1) i48
          refine am_riaload (l := a 135) rfl am_ge135 i48 ?_
          refine am_rgoto rfl rfl ?_
          have q50 := am_or_rg x5 (am_at (a 135) ((30 * x3) + x6))
          refine am_rior rfl ?_
          refine am_ristore (L1 := [(0, .ref 117), (1, am_iv x1), (2, am_iv x2), (3, am_iv x3), (4, am_iv (am_or x4 (am_shl 1 x6))), (5, am_iv (am_or x5 (am_at (a 135) ((30 * x3) + x6)))), (6, am_iv x6), (7, am_iv 1)]) rfl rfl rfl rfl rfl ?_
          refine am_riinc (L1 := [(0, .ref 117), (1, am_iv x1), (2, am_iv x2), (3, am_iv x3), (4, am_iv (am_or x4 (am_shl 1 x6))), (5, am_iv (am_or x5 (am_at (a 135) ((30 * x3) + x6)))), (6, am_iv (x6 + 1)), (7, am_iv 1)]) rfl rfl rfl rfl rfl ?_
          refine am_rgoto rfl rfl ?_
          have q51 := am_Rg11701 hI.1.1
          exact am_T.drop (L1 := [(0, .ref 117), (1, am_iv x1), (2, am_iv x2), (3, am_iv x3), (4, am_iv (am_or x4 (am_shl 1 x6))), (5, am_iv (am_or x5 (am_at (a 135) ((30 * x3) + x6)))), (6, am_iv (x6 + 1))]) (ih (by omega) hI hp0 (by omega) (by omega) (by omega) (by omega) (by omega) (by omega) (by omega) (by omega) (by omega) (by omega) (by omega) (by omega) (by omega) (by omega) (by omega) (by omega) (by omega) (by omega) (by omega) (by omega)) (by simp)
set_option maxRecDepth 100000 in
set_option maxHeartbeats 4000000 in
theorem am_ct163_57 {X : List Value} {w : Value} {e : Nat} {g : aF} {h : aA} {E : Nat → aF → aA → Prop} {d : Nat} {z11713 : Int} {z11709 : Int} {z11718 : Int} {z11741 : Int} {z11750 : Int} {z11753 : Int} {z11757 : Int} {z11763 : Int} {z11755 : Int} {fz : aF} {az : aA} {f : aF} {a : aA} {x1 : Int} {x2 : Int} {x3 : Int} (hd : 1 ≤ d + 1) (hI : am_RV g h f a) (hp0 : am_mn fz az f a) (hp1 : (-2147483648 ≤ x1 ∧ x1 ≤ 2147483647)) (hp2 : (-2147483648 ≤ x2 ∧ x2 ≤ 2147483647)) (hp3 : (-2147483648 ≤ x3 ∧ x3 ≤ 2147483647)) (hp4 : 0 ≤ x2) (hp5 : x2 < 20) (hp6 : 0 ≤ x3) (hp7 : x3 ≤ 25) (hp8 : f 11713 = z11713) (hp9 : f 11709 = z11709) (hp10 : f 11718 = z11718) (hp11 : f 11741 = z11741) (hp12 : f 11750 = z11750) (hp13 : f 11753 = z11753) (hp14 : f 11757 = z11757) (hp15 : f 11763 = z11763) (hp16 : f 11755 = z11755) :
    am_TE X (d + 1) am_m162 57 [(0, .ref 117), (1, am_iv x1), (2, am_iv x2), (3, am_iv x3)] [] f a w e (am_QV (fun f1 a1 => am_RV g h f1 a1 ∧ am_mn fz az f1 a1 ∧ f1 11713 = z11713 ∧ f1 11709 = z11709 ∧ f1 11718 = z11718 ∧ f1 11741 = z11741 ∧ f1 11750 = z11750 ∧ f1 11753 = z11753 ∧ f1 11757 = z11757 ∧ f1 11763 = z11763 ∧ f1 11755 = z11755)) E := by
  have q1 := am_RV_ph hI
  have q2 := am_RV_p0 hI
  have q3 := am_Rg11713 hI.1.1
  have q4 := am_Rg11709 hI.1.1
  have q5 := am_Rg11718 hI.1.1
  have q6 := am_Rg11741 hI.1.1
  have q7 := am_Rg11750 hI.1.1
  have q8 := am_Rg11753 hI.1.1
  have q9 := am_Rg11757 hI.1.1
  have q10 := am_Rg11763 hI.1.1
  have q11 := am_Rg11755 hI.1.1
  refine am_raload_n rfl rfl rfl ?_
  refine am_rgetf (S1 := [.ref 132]) rfl rfl ?_
  refine am_riload_n rfl rfl rfl ?_
  have q12 : (a 132).length = 26 := am_Rl132 (am_RL 132 rfl hI.1.1)
  have i13 : am_ib (a 132) x3 := by unfold am_ib; omega
  have q14 := am_Rb132 (am_RL 132 rfl hI.1.1) i13
  refine am_riaload (l := a 132) rfl am_ge132 i13 ?_
  refine am_riconst rfl ?_
  refine am_ric_eq rfl rfl (by unfold am_rg; omega) (by unfold am_rg; omega) (fun hc15 => ?_) (fun hc15 => ?_)
  · refine am_riconst rfl ?_
    refine am_ristore (L1 := [(0, .ref 117), (1, am_iv x1), (2, am_iv x2), (3, am_iv x3), (4, am_iv 0)]) rfl rfl rfl rfl rfl ?_
    refine am_riconst rfl ?_
    refine am_ristore (L1 := [(0, .ref 117), (1, am_iv x1), (2, am_iv x2), (3, am_iv x3), (4, am_iv 0), (5, am_iv 0)]) rfl rfl rfl rfl rfl ?_
    refine am_riconst rfl ?_
    refine am_ristore (L1 := [(0, .ref 117), (1, am_iv x1), (2, am_iv x2), (3, am_iv x3), (4, am_iv 0), (5, am_iv 0), (6, am_iv 0)]) rfl rfl rfl rfl rfl ?_
    have q16 := am_Rg11701 hI.1.1
    exact am_ct163_77 hd (_ + 1) (Nat.lt_succ_self _) hI hp0 (by omega) (by omega) (by omega) (by omega) (by omega) (by omega) (by omega) (by omega) (by omega) (by omega) (by omega) (by omega) (by omega) (by omega) (by omega) (by omega) (by omega) (by omega) (by omega) (by omega)
  · have q17 := am_Rg11701 hI.1.1
    exact am_eret rfl rfl ⟨hI, hp0, (show f 11713 = z11713 by omega), (show f 11709 = z11709 by omega), (show f 11718 = z11718 by omega), (show f 11741 = z11741 by omega), (show f 11750 = z11750 by omega), (show f 11753 = z11753 by omega), (show f 11757 = z11757 by omega), (show f 11763 = z11763 by omega), (show f 11755 = z11755 by omega)⟩
set_option maxRecDepth 100000 in
set_option maxHeartbeats 4000000 in
theorem am_ct163 {X : List Value} {w : Value} {e : Nat} {g : aF} {h : aA} {E : Nat → aF → aA → Prop} {d : Nat} {y1 : Int} {f : aF} {a : aA} (hd : 1 ≤ d) (hI : am_RV g h f a) (hp0 : (-2147483648 ≤ y1 ∧ y1 ≤ 2147483647)) (hp1 : 1 ≤ f 11718) :
    am_TE X d am_m162 0 (lv_args 0 [.ref 117, am_iv y1]) [] f a w e (am_QV (fun f1 a1 => am_RV g h f1 a1 ∧ am_mn f a f1 a1 ∧ f1 11713 = (f 11713) ∧ f1 11709 = (f 11709) ∧ f1 11718 = (f 11718) ∧ f1 11741 = (f 11741) ∧ f1 11750 = (f 11750) ∧ f1 11753 = (f 11753) ∧ f1 11757 = (f 11757) ∧ f1 11763 = (f 11763) ∧ f1 11755 = (f 11755))) E := by
  obtain ⟨d, rfl⟩ : ∃ d0, d = d0 + 1 := ⟨d - 1, by omega⟩
  have q1 := am_RV_ph hI
  have q2 := am_RV_p0 hI
  have q3 := am_Rg11718 hI.1.1
  refine am_raload_n rfl rfl rfl ?_
  refine am_rgetf (S1 := [am_iv (f 11718)]) rfl rfl ?_
  refine am_riconst rfl ?_
  refine am_risub rfl ?_
  refine am_ristore_n (L1 := [(0, .ref 117), (1, am_iv y1), (2, am_iv ((f 11718) - 1))]) rfl rfl rfl rfl rfl ?_
  refine am_raload_n rfl rfl rfl ?_
  refine am_rgetf (S1 := [.ref 128]) rfl rfl ?_
  refine am_riload_n rfl rfl rfl ?_
  have q4 : (a 128).length = 20 := am_Rl128 (am_RL 128 rfl hI.1.1)
  have i5 : am_ib (a 128) ((f 11718) - 1) := by unfold am_ib; omega
  have q6 := am_Rb128 (am_RL 128 rfl hI.1.1) i5
  refine am_riaload (l := a 128) rfl am_ge128 i5 ?_
  refine am_ristore_n (L1 := [(0, .ref 117), (1, am_iv y1), (2, am_iv ((f 11718) - 1)), (3, am_iv (am_at (a 128) ((f 11718) - 1)))]) rfl rfl rfl rfl rfl ?_
  refine am_raload_n rfl rfl rfl ?_
  refine am_rgetf (S1 := [.ref 132]) rfl rfl ?_
  refine am_riload_n rfl rfl rfl ?_
  have q7 : (a 132).length = 26 := am_Rl132 (am_RL 132 rfl hI.1.1)
  have i8 : am_ib (a 132) (am_at (a 128) ((f 11718) - 1)) := by unfold am_ib; omega
  have q9 := am_Rb132 (am_RL 132 rfl hI.1.1) i8
  refine am_riaload (l := a 132) rfl am_ge132 i8 ?_
  refine am_riconst rfl ?_
  refine am_ric_eq rfl rfl (by unfold am_rg; omega) (by unfold am_rg; omega) (fun hc10 => ?_) (fun hc10 => ?_)
  · refine am_raload_n rfl rfl rfl ?_
    refine am_rdup rfl rfl ?_
    have q11 := am_Rg11704 hI.1.1
    refine am_rgetf (S1 := [am_iv (f 11704), .ref 117]) rfl rfl ?_
    refine am_riconst rfl ?_
    have q12 := am_or_rg (f 11704) 4
    refine am_rior rfl ?_
    refine am_rputf (S1 := []) (h1 := am_enc (am_ud f 11704 (am_or (f 11704) 4)) a w e) rfl (am_pfB rfl am_ge117 rfl (am_sf11704 _)) (by rw [am_enc_len, am_enc_len]) ?_
    have q13 := am_Rg11701 hI.1.1
    have J14 := am_Rf11704 (v := am_or (f 11704) 4) hI (by omega) (by omega)
    have m15 : am_mn f a (am_ud f 11704 (am_or (f 11704) 4)) a := am_mn_f rfl rfl rfl (am_mn.refl f a)
    have q16 := am_Rg11713 hI.1.1
    have q17 := am_Rg11709 hI.1.1
    have q18 := am_Rg11741 hI.1.1
    have q19 := am_Rg11750 hI.1.1
    have q20 := am_Rg11753 hI.1.1
    have q21 := am_Rg11757 hI.1.1
    have q22 := am_Rg11763 hI.1.1
    have q23 := am_Rg11755 hI.1.1
    exact am_ct163_57 hd J14 m15 (show (-2147483648 ≤ y1 ∧ y1 ≤ 2147483647) by omega) (show (-2147483648 ≤ ((f 11718) - 1) ∧ ((f 11718) - 1) ≤ 2147483647) by omega) (show (-2147483648 ≤ (am_at (a 128) ((f 11718) - 1)) ∧ (am_at (a 128) ((f 11718) - 1)) ≤ 2147483647) by omega) (show 0 ≤ ((f 11718) - 1) by omega) (show ((f 11718) - 1) < 20 by omega) (show 0 ≤ (am_at (a 128) ((f 11718) - 1)) by omega) (show (am_at (a 128) ((f 11718) - 1)) ≤ 25 by omega) (show (f 11713) = (f 11713) by omega) (show (f 11709) = (f 11709) by omega) (show (f 11718) = (f 11718) by omega) (show (f 11741) = (f 11741) by omega) (show (f 11750) = (f 11750) by omega) (show (f 11753) = (f 11753) by omega) (show (f 11757) = (f 11757) by omega) (show (f 11763) = (f 11763) by omega) (show (f 11755) = (f 11755) by omega)
  · refine am_raload_n rfl rfl rfl ?_
    refine am_rgetf (S1 := [.ref 132]) rfl rfl ?_
    refine am_riload_n rfl rfl rfl ?_
    have i24 : am_ib (a 132) (am_at (a 128) ((f 11718) - 1)) := by unfold am_ib; omega
    refine am_riaload (l := a 132) rfl am_ge132 i24 ?_
    refine am_riconst rfl ?_
    refine am_ric_ne rfl rfl (by unfold am_rg; omega) (by unfold am_rg; omega) (fun hc25 => ?_) (fun hc25 => ?_)
    · have q26 := am_Rg11701 hI.1.1
      have q27 := am_Rg11713 hI.1.1
      have q28 := am_Rg11709 hI.1.1
      have q29 := am_Rg11741 hI.1.1
      have q30 := am_Rg11750 hI.1.1
      have q31 := am_Rg11753 hI.1.1
      have q32 := am_Rg11757 hI.1.1
      have q33 := am_Rg11763 hI.1.1
      have q34 := am_Rg11755 hI.1.1
      exact am_ct163_57 hd hI (am_mn.refl f a) (by omega) (by omega) (by omega) (by omega) (by omega) (by omega) (by omega) (by omega) (by omega) (by omega) (by omega) (by omega) (by omega) (by omega) (by omega) (by omega)
    · refine am_raload_n rfl rfl rfl ?_
      refine am_rgetf (S1 := [.ref 133]) rfl rfl ?_
      refine am_riload_n rfl rfl rfl ?_
      have q35 : (a 133).length = 26 := am_Rl133 (am_RL 133 rfl hI.1.1)
      have i36 : am_ib (a 133) (am_at (a 128) ((f 11718) - 1)) := by unfold am_ib; omega
      have q37 := am_Rb133 (am_RL 133 rfl hI.1.1) i36
      refine am_riaload (l := a 133) rfl am_ge133 i36 ?_
      refine am_riload_n rfl rfl rfl ?_
      have q38 := am_shr_rg (am_at (a 133) (am_at (a 128) ((f 11718) - 1))) y1
      refine am_rishr rfl ?_
      refine am_riconst rfl ?_
      have q39 := am_and_rg (am_shr (am_at (a 133) (am_at (a 128) ((f 11718) - 1))) y1) 1
      refine am_riand rfl ?_
      refine am_rif_ne rfl rfl (by unfold am_rg; omega) (fun hc40 => ?_) (fun hc40 => ?_)
      · have q41 := am_Rg11701 hI.1.1
        have q42 := am_Rg11713 hI.1.1
        have q43 := am_Rg11709 hI.1.1
        have q44 := am_Rg11741 hI.1.1
        have q45 := am_Rg11750 hI.1.1
        have q46 := am_Rg11753 hI.1.1
        have q47 := am_Rg11757 hI.1.1
        have q48 := am_Rg11763 hI.1.1
        have q49 := am_Rg11755 hI.1.1
        exact am_ct163_57 hd hI (am_mn.refl f a) (by omega) (by omega) (by omega) (by omega) (by omega) (by omega) (by omega) (by omega) (by omega) (by omega) (by omega) (by omega) (by omega) (by omega) (by omega) (by omega)
      · refine am_raload_n rfl rfl rfl ?_
        refine am_rdup rfl rfl ?_
        have q50 := am_Rg11704 hI.1.1
        refine am_rgetf (S1 := [am_iv (f 11704), .ref 117]) rfl rfl ?_
        refine am_riconst rfl ?_
        have q51 := am_or_rg (f 11704) 4
        refine am_rior rfl ?_
        refine am_rputf (S1 := []) (h1 := am_enc (am_ud f 11704 (am_or (f 11704) 4)) a w e) rfl (am_pfB rfl am_ge117 rfl (am_sf11704 _)) (by rw [am_enc_len, am_enc_len]) ?_
        have q52 := am_Rg11701 hI.1.1
        have J53 := am_Rf11704 (v := am_or (f 11704) 4) hI (by omega) (by omega)
        have m54 : am_mn f a (am_ud f 11704 (am_or (f 11704) 4)) a := am_mn_f rfl rfl rfl (am_mn.refl f a)
        have q55 := am_Rg11713 hI.1.1
        have q56 := am_Rg11709 hI.1.1
        have q57 := am_Rg11741 hI.1.1
        have q58 := am_Rg11750 hI.1.1
        have q59 := am_Rg11753 hI.1.1
        have q60 := am_Rg11757 hI.1.1
        have q61 := am_Rg11763 hI.1.1
        have q62 := am_Rg11755 hI.1.1
        exact am_ct163_57 hd J53 m54 (show (-2147483648 ≤ y1 ∧ y1 ≤ 2147483647) by omega) (show (-2147483648 ≤ ((f 11718) - 1) ∧ ((f 11718) - 1) ≤ 2147483647) by omega) (show (-2147483648 ≤ (am_at (a 128) ((f 11718) - 1)) ∧ (am_at (a 128) ((f 11718) - 1)) ≤ 2147483647) by omega) (show 0 ≤ ((f 11718) - 1) by omega) (show ((f 11718) - 1) < 20 by omega) (show 0 ≤ (am_at (a 128) ((f 11718) - 1)) by omega) (show (am_at (a 128) ((f 11718) - 1)) ≤ 25 by omega) (show (f 11713) = (f 11713) by omega) (show (f 11709) = (f 11709) by omega) (show (f 11718) = (f 11718) by omega) (show (f 11741) = (f 11741) by omega) (show (f 11750) = (f 11750) by omega) (show (f 11753) = (f 11753) by omega) (show (f 11757) = (f 11757) by omega) (show (f 11763) = (f 11763) by omega) (show (f 11755) = (f 11755) by omega)
